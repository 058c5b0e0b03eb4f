theorem up_neA {α : Type} {f : Nat → α} {k j : Nat} {x : α} (h : j ≠ k) : va_up f k x j = f j := by unfold va_up; rw [if_neg h]
theorem wR_nil {α : Type} {f g : Nat → α} : ([] : List Nat).map f = [].map g := rfl
theorem wR_cons {α : Type} {f g : Nat → α} {i : Nat} {is : List Nat} (h : f i = g i) (t : is.map f = is.map g) : (i :: is).map f = (i :: is).map g := by rw [List.map_cons, List.map_cons, h, t]
section WSM
variable {cA : Nat → ClassId} {aa : Nat → Nat} {FI : Nat → Nat → Int32} {FL : Nat → Nat → Int64} {VI : Nat → Int32} {VL : Nat → Int64} {FI' : Nat → Nat → Int32} {FL' : Nat → Nat → Int64} {VI' : Nat → Int32} {VL' : Nat → Int64}
theorem wS_0 (h0 : VL' 0 = VL 0) (h1 : VL' 1 = VL 1) (h2 : VI' 62 = VI 62) (h3 : VI' 63 = VI 63) (h4 : VI' 64 = VI 64) : (wLaw cA aa FI' FL' VI' VL')[0]? = (wLaw cA aa FI FL VI VL)[0]? := by
  show (some ((aa 0), .inr (11, [.ref (aa 1), .ref (aa 22), .ref (aa 43), .ref (aa 86), .ref (aa 87), .ref (aa 90), .ref (aa 101), .long (VL' 0), .long (VL' 1), .int (VI' 62), .int (VI' 63), .int (VI' 64)])) : Option (Nat × va_E)) = some ((aa 0), .inr (11, [.ref (aa 1), .ref (aa 22), .ref (aa 43), .ref (aa 86), .ref (aa 87), .ref (aa 90), .ref (aa 101), .long (VL 0), .long (VL 1), .int (VI 62), .int (VI 63), .int (VI 64)]))
  rw [h0, h1, h2, h3, h4]
theorem wS_1 (h0 : VI' 10 = VI 10) (h1 : VI' 11 = VI 11) (h2 : VI' 12 = VI 12) (h3 : VI' 13 = VI 13) : (wLaw cA aa FI' FL' VI' VL')[1]? = (wLaw cA aa FI FL VI VL)[1]? := by
  show (some ((aa 1), .inr (4, [.ref (aa 2), .ref (aa 9), .ref (aa 10), .ref (aa 11), .ref (aa 13), .ref (aa 15), .ref (aa 17), .ref (aa 19), .ref (aa 21), .int (VI' 10), .int (VI' 11), .int (VI' 12), .int (VI' 13)])) : Option (Nat × va_E)) = some ((aa 1), .inr (4, [.ref (aa 2), .ref (aa 9), .ref (aa 10), .ref (aa 11), .ref (aa 13), .ref (aa 15), .ref (aa 17), .ref (aa 19), .ref (aa 21), .int (VI 10), .int (VI 11), .int (VI 12), .int (VI 13)]))
  rw [h0, h1, h2, h3]
theorem wS_2 : (wLaw cA aa FI' FL' VI' VL')[2]? = (wLaw cA aa FI FL VI VL)[2]? := by
  show (some ((aa 2), .inl (cA 5, 6, .inr (.inr (.inr (.inr (gk6 (aa 3) (aa 4) (aa 5) (aa 6) (aa 7) (aa 8))))))) : Option (Nat × va_E)) = some ((aa 2), .inl (cA 5, 6, .inr (.inr (.inr (.inr (gk6 (aa 3) (aa 4) (aa 5) (aa 6) (aa 7) (aa 8)))))))
  rfl
theorem wS_3 : (wLaw cA aa FI' FL' VI' VL')[3]? = (wLaw cA aa FI FL VI VL)[3]? := by
  show (some ((aa 3), .inr (5, [])) : Option (Nat × va_E)) = some ((aa 3), .inr (5, []))
  rfl
theorem wS_4 : (wLaw cA aa FI' FL' VI' VL')[4]? = (wLaw cA aa FI FL VI VL)[4]? := by
  show (some ((aa 4), .inr (0, [])) : Option (Nat × va_E)) = some ((aa 4), .inr (0, []))
  rfl
theorem wS_5 : (wLaw cA aa FI' FL' VI' VL')[5]? = (wLaw cA aa FI FL VI VL)[5]? := by
  show (some ((aa 5), .inr (7, [])) : Option (Nat × va_E)) = some ((aa 5), .inr (7, []))
  rfl
theorem wS_6 : (wLaw cA aa FI' FL' VI' VL')[6]? = (wLaw cA aa FI FL VI VL)[6]? := by
  show (some ((aa 6), .inr (3, [])) : Option (Nat × va_E)) = some ((aa 6), .inr (3, []))
  rfl
theorem wS_7 : (wLaw cA aa FI' FL' VI' VL')[7]? = (wLaw cA aa FI FL VI VL)[7]? := by
  show (some ((aa 7), .inr (1, [])) : Option (Nat × va_E)) = some ((aa 7), .inr (1, []))
  rfl
theorem wS_8 : (wLaw cA aa FI' FL' VI' VL')[8]? = (wLaw cA aa FI FL VI VL)[8]? := by
  show (some ((aa 8), .inr (8, [])) : Option (Nat × va_E)) = some ((aa 8), .inr (8, []))
  rfl
theorem wS_9 (h0 : FI' 0 = FI 0) : (wLaw cA aa FI' FL' VI' VL')[9]? = (wLaw cA aa FI FL VI VL)[9]? := by
  show (some ((aa 9), .inl (cA 0, 12, .inl (FI' 0))) : Option (Nat × va_E)) = some ((aa 9), .inl (cA 0, 12, .inl (FI 0)))
  rw [h0]
theorem wS_10 (h0 : FI' 1 = FI 1) : (wLaw cA aa FI' FL' VI' VL')[10]? = (wLaw cA aa FI FL VI VL)[10]? := by
  show (some ((aa 10), .inl (cA 0, 6, .inl (FI' 1))) : Option (Nat × va_E)) = some ((aa 10), .inl (cA 0, 6, .inl (FI 1)))
  rw [h0]
theorem wS_11 (h0 : VI' 0 = VI 0) (h1 : VI' 1 = VI 1) : (wLaw cA aa FI' FL' VI' VL')[11]? = (wLaw cA aa FI FL VI VL)[11]? := by
  show (some ((aa 11), .inr (9, [.ref (aa 12), .int (VI' 0), .int (VI' 1)])) : Option (Nat × va_E)) = some ((aa 11), .inr (9, [.ref (aa 12), .int (VI 0), .int (VI 1)]))
  rw [h0, h1]
theorem wS_12 (h0 : FI' 3 = FI 3) : (wLaw cA aa FI' FL' VI' VL')[12]? = (wLaw cA aa FI FL VI VL)[12]? := by
  show (some ((aa 12), .inl (cA 0, 30, .inl (FI' 3))) : Option (Nat × va_E)) = some ((aa 12), .inl (cA 0, 30, .inl (FI 3)))
  rw [h0]
theorem wS_13 (h0 : VI' 2 = VI 2) (h1 : VI' 3 = VI 3) : (wLaw cA aa FI' FL' VI' VL')[13]? = (wLaw cA aa FI FL VI VL)[13]? := by
  show (some ((aa 13), .inr (9, [.ref (aa 14), .int (VI' 2), .int (VI' 3)])) : Option (Nat × va_E)) = some ((aa 13), .inr (9, [.ref (aa 14), .int (VI 2), .int (VI 3)]))
  rw [h0, h1]
theorem wS_14 (h0 : FI' 4 = FI 4) : (wLaw cA aa FI' FL' VI' VL')[14]? = (wLaw cA aa FI FL VI VL)[14]? := by
  show (some ((aa 14), .inl (cA 0, 30, .inl (FI' 4))) : Option (Nat × va_E)) = some ((aa 14), .inl (cA 0, 30, .inl (FI 4)))
  rw [h0]
theorem wS_15 (h0 : VI' 4 = VI 4) (h1 : VI' 5 = VI 5) : (wLaw cA aa FI' FL' VI' VL')[15]? = (wLaw cA aa FI FL VI VL)[15]? := by
  show (some ((aa 15), .inr (9, [.ref (aa 16), .int (VI' 4), .int (VI' 5)])) : Option (Nat × va_E)) = some ((aa 15), .inr (9, [.ref (aa 16), .int (VI 4), .int (VI 5)]))
  rw [h0, h1]
theorem wS_16 (h0 : FI' 5 = FI 5) : (wLaw cA aa FI' FL' VI' VL')[16]? = (wLaw cA aa FI FL VI VL)[16]? := by
  show (some ((aa 16), .inl (cA 0, 30, .inl (FI' 5))) : Option (Nat × va_E)) = some ((aa 16), .inl (cA 0, 30, .inl (FI 5)))
  rw [h0]
theorem wS_17 (h0 : VI' 6 = VI 6) (h1 : VI' 7 = VI 7) : (wLaw cA aa FI' FL' VI' VL')[17]? = (wLaw cA aa FI FL VI VL)[17]? := by
  show (some ((aa 17), .inr (9, [.ref (aa 18), .int (VI' 6), .int (VI' 7)])) : Option (Nat × va_E)) = some ((aa 17), .inr (9, [.ref (aa 18), .int (VI 6), .int (VI 7)]))
  rw [h0, h1]
theorem wS_18 (h0 : FI' 6 = FI 6) : (wLaw cA aa FI' FL' VI' VL')[18]? = (wLaw cA aa FI FL VI VL)[18]? := by
  show (some ((aa 18), .inl (cA 0, 30, .inl (FI' 6))) : Option (Nat × va_E)) = some ((aa 18), .inl (cA 0, 30, .inl (FI 6)))
  rw [h0]
theorem wS_19 (h0 : VI' 8 = VI 8) (h1 : VI' 9 = VI 9) : (wLaw cA aa FI' FL' VI' VL')[19]? = (wLaw cA aa FI FL VI VL)[19]? := by
  show (some ((aa 19), .inr (9, [.ref (aa 20), .int (VI' 8), .int (VI' 9)])) : Option (Nat × va_E)) = some ((aa 19), .inr (9, [.ref (aa 20), .int (VI 8), .int (VI 9)]))
  rw [h0, h1]
theorem wS_20 (h0 : FI' 7 = FI 7) : (wLaw cA aa FI' FL' VI' VL')[20]? = (wLaw cA aa FI FL VI VL)[20]? := by
  show (some ((aa 20), .inl (cA 0, 30, .inl (FI' 7))) : Option (Nat × va_E)) = some ((aa 20), .inl (cA 0, 30, .inl (FI 7)))
  rw [h0]
theorem wS_21 (h0 : FI' 2 = FI 2) : (wLaw cA aa FI' FL' VI' VL')[21]? = (wLaw cA aa FI FL VI VL)[21]? := by
  show (some ((aa 21), .inl (cA 0, 12, .inl (FI' 2))) : Option (Nat × va_E)) = some ((aa 21), .inl (cA 0, 12, .inl (FI 2)))
  rw [h0]
theorem wS_22 (h0 : VI' 24 = VI 24) (h1 : VI' 25 = VI 25) (h2 : VI' 26 = VI 26) (h3 : VI' 27 = VI 27) : (wLaw cA aa FI' FL' VI' VL')[22]? = (wLaw cA aa FI FL VI VL)[22]? := by
  show (some ((aa 22), .inr (4, [.ref (aa 23), .ref (aa 30), .ref (aa 31), .ref (aa 32), .ref (aa 34), .ref (aa 36), .ref (aa 38), .ref (aa 40), .ref (aa 42), .int (VI' 24), .int (VI' 25), .int (VI' 26), .int (VI' 27)])) : Option (Nat × va_E)) = some ((aa 22), .inr (4, [.ref (aa 23), .ref (aa 30), .ref (aa 31), .ref (aa 32), .ref (aa 34), .ref (aa 36), .ref (aa 38), .ref (aa 40), .ref (aa 42), .int (VI 24), .int (VI 25), .int (VI 26), .int (VI 27)]))
  rw [h0, h1, h2, h3]
theorem wS_23 : (wLaw cA aa FI' FL' VI' VL')[23]? = (wLaw cA aa FI FL VI VL)[23]? := by
  show (some ((aa 23), .inl (cA 5, 6, .inr (.inr (.inr (.inr (gk6 (aa 24) (aa 25) (aa 26) (aa 27) (aa 28) (aa 29))))))) : Option (Nat × va_E)) = some ((aa 23), .inl (cA 5, 6, .inr (.inr (.inr (.inr (gk6 (aa 24) (aa 25) (aa 26) (aa 27) (aa 28) (aa 29)))))))
  rfl
theorem wS_24 : (wLaw cA aa FI' FL' VI' VL')[24]? = (wLaw cA aa FI FL VI VL)[24]? := by
  show (some ((aa 24), .inr (5, [])) : Option (Nat × va_E)) = some ((aa 24), .inr (5, []))
  rfl
theorem wS_25 : (wLaw cA aa FI' FL' VI' VL')[25]? = (wLaw cA aa FI FL VI VL)[25]? := by
  show (some ((aa 25), .inr (0, [])) : Option (Nat × va_E)) = some ((aa 25), .inr (0, []))
  rfl
theorem wS_26 : (wLaw cA aa FI' FL' VI' VL')[26]? = (wLaw cA aa FI FL VI VL)[26]? := by
  show (some ((aa 26), .inr (7, [])) : Option (Nat × va_E)) = some ((aa 26), .inr (7, []))
  rfl
theorem wS_27 : (wLaw cA aa FI' FL' VI' VL')[27]? = (wLaw cA aa FI FL VI VL)[27]? := by
  show (some ((aa 27), .inr (3, [])) : Option (Nat × va_E)) = some ((aa 27), .inr (3, []))
  rfl
theorem wS_28 : (wLaw cA aa FI' FL' VI' VL')[28]? = (wLaw cA aa FI FL VI VL)[28]? := by
  show (some ((aa 28), .inr (1, [])) : Option (Nat × va_E)) = some ((aa 28), .inr (1, []))
  rfl
theorem wS_29 : (wLaw cA aa FI' FL' VI' VL')[29]? = (wLaw cA aa FI FL VI VL)[29]? := by
  show (some ((aa 29), .inr (8, [])) : Option (Nat × va_E)) = some ((aa 29), .inr (8, []))
  rfl
theorem wS_30 (h0 : FI' 8 = FI 8) : (wLaw cA aa FI' FL' VI' VL')[30]? = (wLaw cA aa FI FL VI VL)[30]? := by
  show (some ((aa 30), .inl (cA 0, 12, .inl (FI' 8))) : Option (Nat × va_E)) = some ((aa 30), .inl (cA 0, 12, .inl (FI 8)))
  rw [h0]
theorem wS_31 (h0 : FI' 9 = FI 9) : (wLaw cA aa FI' FL' VI' VL')[31]? = (wLaw cA aa FI FL VI VL)[31]? := by
  show (some ((aa 31), .inl (cA 0, 6, .inl (FI' 9))) : Option (Nat × va_E)) = some ((aa 31), .inl (cA 0, 6, .inl (FI 9)))
  rw [h0]
theorem wS_32 (h0 : VI' 14 = VI 14) (h1 : VI' 15 = VI 15) : (wLaw cA aa FI' FL' VI' VL')[32]? = (wLaw cA aa FI FL VI VL)[32]? := by
  show (some ((aa 32), .inr (9, [.ref (aa 33), .int (VI' 14), .int (VI' 15)])) : Option (Nat × va_E)) = some ((aa 32), .inr (9, [.ref (aa 33), .int (VI 14), .int (VI 15)]))
  rw [h0, h1]
theorem wS_33 (h0 : FI' 11 = FI 11) : (wLaw cA aa FI' FL' VI' VL')[33]? = (wLaw cA aa FI FL VI VL)[33]? := by
  show (some ((aa 33), .inl (cA 0, 30, .inl (FI' 11))) : Option (Nat × va_E)) = some ((aa 33), .inl (cA 0, 30, .inl (FI 11)))
  rw [h0]
theorem wS_34 (h0 : VI' 16 = VI 16) (h1 : VI' 17 = VI 17) : (wLaw cA aa FI' FL' VI' VL')[34]? = (wLaw cA aa FI FL VI VL)[34]? := by
  show (some ((aa 34), .inr (9, [.ref (aa 35), .int (VI' 16), .int (VI' 17)])) : Option (Nat × va_E)) = some ((aa 34), .inr (9, [.ref (aa 35), .int (VI 16), .int (VI 17)]))
  rw [h0, h1]
theorem wS_35 (h0 : FI' 12 = FI 12) : (wLaw cA aa FI' FL' VI' VL')[35]? = (wLaw cA aa FI FL VI VL)[35]? := by
  show (some ((aa 35), .inl (cA 0, 30, .inl (FI' 12))) : Option (Nat × va_E)) = some ((aa 35), .inl (cA 0, 30, .inl (FI 12)))
  rw [h0]
theorem wS_36 (h0 : VI' 18 = VI 18) (h1 : VI' 19 = VI 19) : (wLaw cA aa FI' FL' VI' VL')[36]? = (wLaw cA aa FI FL VI VL)[36]? := by
  show (some ((aa 36), .inr (9, [.ref (aa 37), .int (VI' 18), .int (VI' 19)])) : Option (Nat × va_E)) = some ((aa 36), .inr (9, [.ref (aa 37), .int (VI 18), .int (VI 19)]))
  rw [h0, h1]
theorem wS_37 (h0 : FI' 13 = FI 13) : (wLaw cA aa FI' FL' VI' VL')[37]? = (wLaw cA aa FI FL VI VL)[37]? := by
  show (some ((aa 37), .inl (cA 0, 30, .inl (FI' 13))) : Option (Nat × va_E)) = some ((aa 37), .inl (cA 0, 30, .inl (FI 13)))
  rw [h0]
theorem wS_38 (h0 : VI' 20 = VI 20) (h1 : VI' 21 = VI 21) : (wLaw cA aa FI' FL' VI' VL')[38]? = (wLaw cA aa FI FL VI VL)[38]? := by
  show (some ((aa 38), .inr (9, [.ref (aa 39), .int (VI' 20), .int (VI' 21)])) : Option (Nat × va_E)) = some ((aa 38), .inr (9, [.ref (aa 39), .int (VI 20), .int (VI 21)]))
  rw [h0, h1]
theorem wS_39 (h0 : FI' 14 = FI 14) : (wLaw cA aa FI' FL' VI' VL')[39]? = (wLaw cA aa FI FL VI VL)[39]? := by
  show (some ((aa 39), .inl (cA 0, 30, .inl (FI' 14))) : Option (Nat × va_E)) = some ((aa 39), .inl (cA 0, 30, .inl (FI 14)))
  rw [h0]
theorem wS_40 (h0 : VI' 22 = VI 22) (h1 : VI' 23 = VI 23) : (wLaw cA aa FI' FL' VI' VL')[40]? = (wLaw cA aa FI FL VI VL)[40]? := by
  show (some ((aa 40), .inr (9, [.ref (aa 41), .int (VI' 22), .int (VI' 23)])) : Option (Nat × va_E)) = some ((aa 40), .inr (9, [.ref (aa 41), .int (VI 22), .int (VI 23)]))
  rw [h0, h1]
theorem wS_41 (h0 : FI' 15 = FI 15) : (wLaw cA aa FI' FL' VI' VL')[41]? = (wLaw cA aa FI FL VI VL)[41]? := by
  show (some ((aa 41), .inl (cA 0, 30, .inl (FI' 15))) : Option (Nat × va_E)) = some ((aa 41), .inl (cA 0, 30, .inl (FI 15)))
  rw [h0]
theorem wS_42 (h0 : FI' 10 = FI 10) : (wLaw cA aa FI' FL' VI' VL')[42]? = (wLaw cA aa FI FL VI VL)[42]? := by
  show (some ((aa 42), .inl (cA 0, 12, .inl (FI' 10))) : Option (Nat × va_E)) = some ((aa 42), .inl (cA 0, 12, .inl (FI 10)))
  rw [h0]
theorem wS_43 : (wLaw cA aa FI' FL' VI' VL')[43]? = (wLaw cA aa FI FL VI VL)[43]? := by
  show (some ((aa 43), .inl (cA 4, 2, .inr (.inr (.inr (.inr (gk2 (aa 44) (aa 65))))))) : Option (Nat × va_E)) = some ((aa 43), .inl (cA 4, 2, .inr (.inr (.inr (.inr (gk2 (aa 44) (aa 65)))))))
  rfl
theorem wS_44 (h0 : VI' 38 = VI 38) (h1 : VI' 39 = VI 39) (h2 : VI' 40 = VI 40) (h3 : VI' 41 = VI 41) : (wLaw cA aa FI' FL' VI' VL')[44]? = (wLaw cA aa FI FL VI VL)[44]? := by
  show (some ((aa 44), .inr (4, [.ref (aa 45), .ref (aa 52), .ref (aa 53), .ref (aa 54), .ref (aa 56), .ref (aa 58), .ref (aa 60), .ref (aa 62), .ref (aa 64), .int (VI' 38), .int (VI' 39), .int (VI' 40), .int (VI' 41)])) : Option (Nat × va_E)) = some ((aa 44), .inr (4, [.ref (aa 45), .ref (aa 52), .ref (aa 53), .ref (aa 54), .ref (aa 56), .ref (aa 58), .ref (aa 60), .ref (aa 62), .ref (aa 64), .int (VI 38), .int (VI 39), .int (VI 40), .int (VI 41)]))
  rw [h0, h1, h2, h3]
theorem wS_45 : (wLaw cA aa FI' FL' VI' VL')[45]? = (wLaw cA aa FI FL VI VL)[45]? := by
  show (some ((aa 45), .inl (cA 5, 6, .inr (.inr (.inr (.inr (gk6 (aa 46) (aa 47) (aa 48) (aa 49) (aa 50) (aa 51))))))) : Option (Nat × va_E)) = some ((aa 45), .inl (cA 5, 6, .inr (.inr (.inr (.inr (gk6 (aa 46) (aa 47) (aa 48) (aa 49) (aa 50) (aa 51)))))))
  rfl
theorem wS_46 : (wLaw cA aa FI' FL' VI' VL')[46]? = (wLaw cA aa FI FL VI VL)[46]? := by
  show (some ((aa 46), .inr (5, [])) : Option (Nat × va_E)) = some ((aa 46), .inr (5, []))
  rfl
theorem wS_47 : (wLaw cA aa FI' FL' VI' VL')[47]? = (wLaw cA aa FI FL VI VL)[47]? := by
  show (some ((aa 47), .inr (0, [])) : Option (Nat × va_E)) = some ((aa 47), .inr (0, []))
  rfl
theorem wS_48 : (wLaw cA aa FI' FL' VI' VL')[48]? = (wLaw cA aa FI FL VI VL)[48]? := by
  show (some ((aa 48), .inr (7, [])) : Option (Nat × va_E)) = some ((aa 48), .inr (7, []))
  rfl
theorem wS_49 : (wLaw cA aa FI' FL' VI' VL')[49]? = (wLaw cA aa FI FL VI VL)[49]? := by
  show (some ((aa 49), .inr (3, [])) : Option (Nat × va_E)) = some ((aa 49), .inr (3, []))
  rfl
theorem wS_50 : (wLaw cA aa FI' FL' VI' VL')[50]? = (wLaw cA aa FI FL VI VL)[50]? := by
  show (some ((aa 50), .inr (1, [])) : Option (Nat × va_E)) = some ((aa 50), .inr (1, []))
  rfl
theorem wS_51 : (wLaw cA aa FI' FL' VI' VL')[51]? = (wLaw cA aa FI FL VI VL)[51]? := by
  show (some ((aa 51), .inr (8, [])) : Option (Nat × va_E)) = some ((aa 51), .inr (8, []))
  rfl
theorem wS_52 (h0 : FI' 16 = FI 16) : (wLaw cA aa FI' FL' VI' VL')[52]? = (wLaw cA aa FI FL VI VL)[52]? := by
  show (some ((aa 52), .inl (cA 0, 12, .inl (FI' 16))) : Option (Nat × va_E)) = some ((aa 52), .inl (cA 0, 12, .inl (FI 16)))
  rw [h0]
theorem wS_53 (h0 : FI' 17 = FI 17) : (wLaw cA aa FI' FL' VI' VL')[53]? = (wLaw cA aa FI FL VI VL)[53]? := by
  show (some ((aa 53), .inl (cA 0, 6, .inl (FI' 17))) : Option (Nat × va_E)) = some ((aa 53), .inl (cA 0, 6, .inl (FI 17)))
  rw [h0]
theorem wS_54 (h0 : VI' 28 = VI 28) (h1 : VI' 29 = VI 29) : (wLaw cA aa FI' FL' VI' VL')[54]? = (wLaw cA aa FI FL VI VL)[54]? := by
  show (some ((aa 54), .inr (9, [.ref (aa 55), .int (VI' 28), .int (VI' 29)])) : Option (Nat × va_E)) = some ((aa 54), .inr (9, [.ref (aa 55), .int (VI 28), .int (VI 29)]))
  rw [h0, h1]
theorem wS_55 (h0 : FI' 19 = FI 19) : (wLaw cA aa FI' FL' VI' VL')[55]? = (wLaw cA aa FI FL VI VL)[55]? := by
  show (some ((aa 55), .inl (cA 0, 30, .inl (FI' 19))) : Option (Nat × va_E)) = some ((aa 55), .inl (cA 0, 30, .inl (FI 19)))
  rw [h0]
theorem wS_56 (h0 : VI' 30 = VI 30) (h1 : VI' 31 = VI 31) : (wLaw cA aa FI' FL' VI' VL')[56]? = (wLaw cA aa FI FL VI VL)[56]? := by
  show (some ((aa 56), .inr (9, [.ref (aa 57), .int (VI' 30), .int (VI' 31)])) : Option (Nat × va_E)) = some ((aa 56), .inr (9, [.ref (aa 57), .int (VI 30), .int (VI 31)]))
  rw [h0, h1]
theorem wS_57 (h0 : FI' 20 = FI 20) : (wLaw cA aa FI' FL' VI' VL')[57]? = (wLaw cA aa FI FL VI VL)[57]? := by
  show (some ((aa 57), .inl (cA 0, 30, .inl (FI' 20))) : Option (Nat × va_E)) = some ((aa 57), .inl (cA 0, 30, .inl (FI 20)))
  rw [h0]
theorem wS_58 (h0 : VI' 32 = VI 32) (h1 : VI' 33 = VI 33) : (wLaw cA aa FI' FL' VI' VL')[58]? = (wLaw cA aa FI FL VI VL)[58]? := by
  show (some ((aa 58), .inr (9, [.ref (aa 59), .int (VI' 32), .int (VI' 33)])) : Option (Nat × va_E)) = some ((aa 58), .inr (9, [.ref (aa 59), .int (VI 32), .int (VI 33)]))
  rw [h0, h1]
theorem wS_59 (h0 : FI' 21 = FI 21) : (wLaw cA aa FI' FL' VI' VL')[59]? = (wLaw cA aa FI FL VI VL)[59]? := by
  show (some ((aa 59), .inl (cA 0, 30, .inl (FI' 21))) : Option (Nat × va_E)) = some ((aa 59), .inl (cA 0, 30, .inl (FI 21)))
  rw [h0]
theorem wS_60 (h0 : VI' 34 = VI 34) (h1 : VI' 35 = VI 35) : (wLaw cA aa FI' FL' VI' VL')[60]? = (wLaw cA aa FI FL VI VL)[60]? := by
  show (some ((aa 60), .inr (9, [.ref (aa 61), .int (VI' 34), .int (VI' 35)])) : Option (Nat × va_E)) = some ((aa 60), .inr (9, [.ref (aa 61), .int (VI 34), .int (VI 35)]))
  rw [h0, h1]
theorem wS_61 (h0 : FI' 22 = FI 22) : (wLaw cA aa FI' FL' VI' VL')[61]? = (wLaw cA aa FI FL VI VL)[61]? := by
  show (some ((aa 61), .inl (cA 0, 30, .inl (FI' 22))) : Option (Nat × va_E)) = some ((aa 61), .inl (cA 0, 30, .inl (FI 22)))
  rw [h0]
theorem wS_62 (h0 : VI' 36 = VI 36) (h1 : VI' 37 = VI 37) : (wLaw cA aa FI' FL' VI' VL')[62]? = (wLaw cA aa FI FL VI VL)[62]? := by
  show (some ((aa 62), .inr (9, [.ref (aa 63), .int (VI' 36), .int (VI' 37)])) : Option (Nat × va_E)) = some ((aa 62), .inr (9, [.ref (aa 63), .int (VI 36), .int (VI 37)]))
  rw [h0, h1]
theorem wS_63 (h0 : FI' 23 = FI 23) : (wLaw cA aa FI' FL' VI' VL')[63]? = (wLaw cA aa FI FL VI VL)[63]? := by
  show (some ((aa 63), .inl (cA 0, 30, .inl (FI' 23))) : Option (Nat × va_E)) = some ((aa 63), .inl (cA 0, 30, .inl (FI 23)))
  rw [h0]
theorem wS_64 (h0 : FI' 18 = FI 18) : (wLaw cA aa FI' FL' VI' VL')[64]? = (wLaw cA aa FI FL VI VL)[64]? := by
  show (some ((aa 64), .inl (cA 0, 12, .inl (FI' 18))) : Option (Nat × va_E)) = some ((aa 64), .inl (cA 0, 12, .inl (FI 18)))
  rw [h0]
theorem wS_65 (h0 : VI' 52 = VI 52) (h1 : VI' 53 = VI 53) (h2 : VI' 54 = VI 54) (h3 : VI' 55 = VI 55) : (wLaw cA aa FI' FL' VI' VL')[65]? = (wLaw cA aa FI FL VI VL)[65]? := by
  show (some ((aa 65), .inr (4, [.ref (aa 66), .ref (aa 73), .ref (aa 74), .ref (aa 75), .ref (aa 77), .ref (aa 79), .ref (aa 81), .ref (aa 83), .ref (aa 85), .int (VI' 52), .int (VI' 53), .int (VI' 54), .int (VI' 55)])) : Option (Nat × va_E)) = some ((aa 65), .inr (4, [.ref (aa 66), .ref (aa 73), .ref (aa 74), .ref (aa 75), .ref (aa 77), .ref (aa 79), .ref (aa 81), .ref (aa 83), .ref (aa 85), .int (VI 52), .int (VI 53), .int (VI 54), .int (VI 55)]))
  rw [h0, h1, h2, h3]
theorem wS_66 : (wLaw cA aa FI' FL' VI' VL')[66]? = (wLaw cA aa FI FL VI VL)[66]? := by
  show (some ((aa 66), .inl (cA 5, 6, .inr (.inr (.inr (.inr (gk6 (aa 67) (aa 68) (aa 69) (aa 70) (aa 71) (aa 72))))))) : Option (Nat × va_E)) = some ((aa 66), .inl (cA 5, 6, .inr (.inr (.inr (.inr (gk6 (aa 67) (aa 68) (aa 69) (aa 70) (aa 71) (aa 72)))))))
  rfl
theorem wS_67 : (wLaw cA aa FI' FL' VI' VL')[67]? = (wLaw cA aa FI FL VI VL)[67]? := by
  show (some ((aa 67), .inr (5, [])) : Option (Nat × va_E)) = some ((aa 67), .inr (5, []))
  rfl
theorem wS_68 : (wLaw cA aa FI' FL' VI' VL')[68]? = (wLaw cA aa FI FL VI VL)[68]? := by
  show (some ((aa 68), .inr (0, [])) : Option (Nat × va_E)) = some ((aa 68), .inr (0, []))
  rfl
theorem wS_69 : (wLaw cA aa FI' FL' VI' VL')[69]? = (wLaw cA aa FI FL VI VL)[69]? := by
  show (some ((aa 69), .inr (7, [])) : Option (Nat × va_E)) = some ((aa 69), .inr (7, []))
  rfl
theorem wS_70 : (wLaw cA aa FI' FL' VI' VL')[70]? = (wLaw cA aa FI FL VI VL)[70]? := by
  show (some ((aa 70), .inr (3, [])) : Option (Nat × va_E)) = some ((aa 70), .inr (3, []))
  rfl
theorem wS_71 : (wLaw cA aa FI' FL' VI' VL')[71]? = (wLaw cA aa FI FL VI VL)[71]? := by
  show (some ((aa 71), .inr (1, [])) : Option (Nat × va_E)) = some ((aa 71), .inr (1, []))
  rfl
theorem wS_72 : (wLaw cA aa FI' FL' VI' VL')[72]? = (wLaw cA aa FI FL VI VL)[72]? := by
  show (some ((aa 72), .inr (8, [])) : Option (Nat × va_E)) = some ((aa 72), .inr (8, []))
  rfl
theorem wS_73 (h0 : FI' 24 = FI 24) : (wLaw cA aa FI' FL' VI' VL')[73]? = (wLaw cA aa FI FL VI VL)[73]? := by
  show (some ((aa 73), .inl (cA 0, 12, .inl (FI' 24))) : Option (Nat × va_E)) = some ((aa 73), .inl (cA 0, 12, .inl (FI 24)))
  rw [h0]
theorem wS_74 (h0 : FI' 25 = FI 25) : (wLaw cA aa FI' FL' VI' VL')[74]? = (wLaw cA aa FI FL VI VL)[74]? := by
  show (some ((aa 74), .inl (cA 0, 6, .inl (FI' 25))) : Option (Nat × va_E)) = some ((aa 74), .inl (cA 0, 6, .inl (FI 25)))
  rw [h0]
theorem wS_75 (h0 : VI' 42 = VI 42) (h1 : VI' 43 = VI 43) : (wLaw cA aa FI' FL' VI' VL')[75]? = (wLaw cA aa FI FL VI VL)[75]? := by
  show (some ((aa 75), .inr (9, [.ref (aa 76), .int (VI' 42), .int (VI' 43)])) : Option (Nat × va_E)) = some ((aa 75), .inr (9, [.ref (aa 76), .int (VI 42), .int (VI 43)]))
  rw [h0, h1]
theorem wS_76 (h0 : FI' 27 = FI 27) : (wLaw cA aa FI' FL' VI' VL')[76]? = (wLaw cA aa FI FL VI VL)[76]? := by
  show (some ((aa 76), .inl (cA 0, 30, .inl (FI' 27))) : Option (Nat × va_E)) = some ((aa 76), .inl (cA 0, 30, .inl (FI 27)))
  rw [h0]
theorem wS_77 (h0 : VI' 44 = VI 44) (h1 : VI' 45 = VI 45) : (wLaw cA aa FI' FL' VI' VL')[77]? = (wLaw cA aa FI FL VI VL)[77]? := by
  show (some ((aa 77), .inr (9, [.ref (aa 78), .int (VI' 44), .int (VI' 45)])) : Option (Nat × va_E)) = some ((aa 77), .inr (9, [.ref (aa 78), .int (VI 44), .int (VI 45)]))
  rw [h0, h1]
theorem wS_78 (h0 : FI' 28 = FI 28) : (wLaw cA aa FI' FL' VI' VL')[78]? = (wLaw cA aa FI FL VI VL)[78]? := by
  show (some ((aa 78), .inl (cA 0, 30, .inl (FI' 28))) : Option (Nat × va_E)) = some ((aa 78), .inl (cA 0, 30, .inl (FI 28)))
  rw [h0]
theorem wS_79 (h0 : VI' 46 = VI 46) (h1 : VI' 47 = VI 47) : (wLaw cA aa FI' FL' VI' VL')[79]? = (wLaw cA aa FI FL VI VL)[79]? := by
  show (some ((aa 79), .inr (9, [.ref (aa 80), .int (VI' 46), .int (VI' 47)])) : Option (Nat × va_E)) = some ((aa 79), .inr (9, [.ref (aa 80), .int (VI 46), .int (VI 47)]))
  rw [h0, h1]
theorem wS_80 (h0 : FI' 29 = FI 29) : (wLaw cA aa FI' FL' VI' VL')[80]? = (wLaw cA aa FI FL VI VL)[80]? := by
  show (some ((aa 80), .inl (cA 0, 30, .inl (FI' 29))) : Option (Nat × va_E)) = some ((aa 80), .inl (cA 0, 30, .inl (FI 29)))
  rw [h0]
theorem wS_81 (h0 : VI' 48 = VI 48) (h1 : VI' 49 = VI 49) : (wLaw cA aa FI' FL' VI' VL')[81]? = (wLaw cA aa FI FL VI VL)[81]? := by
  show (some ((aa 81), .inr (9, [.ref (aa 82), .int (VI' 48), .int (VI' 49)])) : Option (Nat × va_E)) = some ((aa 81), .inr (9, [.ref (aa 82), .int (VI 48), .int (VI 49)]))
  rw [h0, h1]
theorem wS_82 (h0 : FI' 30 = FI 30) : (wLaw cA aa FI' FL' VI' VL')[82]? = (wLaw cA aa FI FL VI VL)[82]? := by
  show (some ((aa 82), .inl (cA 0, 30, .inl (FI' 30))) : Option (Nat × va_E)) = some ((aa 82), .inl (cA 0, 30, .inl (FI 30)))
  rw [h0]
theorem wS_83 (h0 : VI' 50 = VI 50) (h1 : VI' 51 = VI 51) : (wLaw cA aa FI' FL' VI' VL')[83]? = (wLaw cA aa FI FL VI VL)[83]? := by
  show (some ((aa 83), .inr (9, [.ref (aa 84), .int (VI' 50), .int (VI' 51)])) : Option (Nat × va_E)) = some ((aa 83), .inr (9, [.ref (aa 84), .int (VI 50), .int (VI 51)]))
  rw [h0, h1]
theorem wS_84 (h0 : FI' 31 = FI 31) : (wLaw cA aa FI' FL' VI' VL')[84]? = (wLaw cA aa FI FL VI VL)[84]? := by
  show (some ((aa 84), .inl (cA 0, 30, .inl (FI' 31))) : Option (Nat × va_E)) = some ((aa 84), .inl (cA 0, 30, .inl (FI 31)))
  rw [h0]
theorem wS_85 (h0 : FI' 26 = FI 26) : (wLaw cA aa FI' FL' VI' VL')[85]? = (wLaw cA aa FI FL VI VL)[85]? := by
  show (some ((aa 85), .inl (cA 0, 12, .inl (FI' 26))) : Option (Nat × va_E)) = some ((aa 85), .inl (cA 0, 12, .inl (FI 26)))
  rw [h0]
theorem wS_86 (h0 : FI' 47 = FI 47) : (wLaw cA aa FI' FL' VI' VL')[86]? = (wLaw cA aa FI FL VI VL)[86]? := by
  show (some ((aa 86), .inl (cA 3, 2, .inl (FI' 47))) : Option (Nat × va_E)) = some ((aa 86), .inl (cA 3, 2, .inl (FI 47)))
  rw [h0]
theorem wS_87 (h0 : VI' 56 = VI 56) (h1 : VI' 57 = VI 57) (h2 : VI' 58 = VI 58) (h3 : VI' 59 = VI 59) : (wLaw cA aa FI' FL' VI' VL')[87]? = (wLaw cA aa FI FL VI VL)[87]? := by
  show (some ((aa 87), .inr (10, [.ref (aa 88), .ref (aa 89), .int (VI' 56), .int (VI' 57), .int (VI' 58), .int (VI' 59)])) : Option (Nat × va_E)) = some ((aa 87), .inr (10, [.ref (aa 88), .ref (aa 89), .int (VI 56), .int (VI 57), .int (VI 58), .int (VI 59)]))
  rw [h0, h1, h2, h3]
theorem wS_88 (h0 : FI' 32 = FI 32) : (wLaw cA aa FI' FL' VI' VL')[88]? = (wLaw cA aa FI FL VI VL)[88]? := by
  show (some ((aa 88), .inl (cA 1, 150, .inl (FI' 32))) : Option (Nat × va_E)) = some ((aa 88), .inl (cA 1, 150, .inl (FI 32)))
  rw [h0]
theorem wS_89 (h0 : FI' 33 = FI 33) : (wLaw cA aa FI' FL' VI' VL')[89]? = (wLaw cA aa FI FL VI VL)[89]? := by
  show (some ((aa 89), .inl (cA 0, 3, .inl (FI' 33))) : Option (Nat × va_E)) = some ((aa 89), .inl (cA 0, 3, .inl (FI 33)))
  rw [h0]
theorem wS_90 (h0 : VI' 60 = VI 60) : (wLaw cA aa FI' FL' VI' VL')[90]? = (wLaw cA aa FI FL VI VL)[90]? := by
  show (some ((aa 90), .inr (6, [.ref (aa 91), .ref (aa 92), .ref (aa 93), .ref (aa 94), .ref (aa 95), .ref (aa 96), .ref (aa 97), .int (VI' 60), .ref (aa 98), .ref (aa 99), .ref (aa 100)])) : Option (Nat × va_E)) = some ((aa 90), .inr (6, [.ref (aa 91), .ref (aa 92), .ref (aa 93), .ref (aa 94), .ref (aa 95), .ref (aa 96), .ref (aa 97), .int (VI 60), .ref (aa 98), .ref (aa 99), .ref (aa 100)]))
  rw [h0]
theorem wS_91 (h0 : FI' 34 = FI 34) : (wLaw cA aa FI' FL' VI' VL')[91]? = (wLaw cA aa FI FL VI VL)[91]? := by
  show (some ((aa 91), .inl (cA 0, 8, .inl (FI' 34))) : Option (Nat × va_E)) = some ((aa 91), .inl (cA 0, 8, .inl (FI 34)))
  rw [h0]
theorem wS_92 (h0 : FI' 35 = FI 35) : (wLaw cA aa FI' FL' VI' VL')[92]? = (wLaw cA aa FI FL VI VL)[92]? := by
  show (some ((aa 92), .inl (cA 0, 8, .inl (FI' 35))) : Option (Nat × va_E)) = some ((aa 92), .inl (cA 0, 8, .inl (FI 35)))
  rw [h0]
theorem wS_93 (h0 : FI' 36 = FI 36) : (wLaw cA aa FI' FL' VI' VL')[93]? = (wLaw cA aa FI FL VI VL)[93]? := by
  show (some ((aa 93), .inl (cA 0, 256, .inl (FI' 36))) : Option (Nat × va_E)) = some ((aa 93), .inl (cA 0, 256, .inl (FI 36)))
  rw [h0]
theorem wS_94 (h0 : FI' 37 = FI 37) : (wLaw cA aa FI' FL' VI' VL')[94]? = (wLaw cA aa FI FL VI VL)[94]? := by
  show (some ((aa 94), .inl (cA 0, 256, .inl (FI' 37))) : Option (Nat × va_E)) = some ((aa 94), .inl (cA 0, 256, .inl (FI 37)))
  rw [h0]
theorem wS_95 (h0 : FI' 38 = FI 38) : (wLaw cA aa FI' FL' VI' VL')[95]? = (wLaw cA aa FI FL VI VL)[95]? := by
  show (some ((aa 95), .inl (cA 0, 256, .inl (FI' 38))) : Option (Nat × va_E)) = some ((aa 95), .inl (cA 0, 256, .inl (FI 38)))
  rw [h0]
theorem wS_96 (h0 : FI' 39 = FI 39) : (wLaw cA aa FI' FL' VI' VL')[96]? = (wLaw cA aa FI FL VI VL)[96]? := by
  show (some ((aa 96), .inl (cA 0, 8, .inl (FI' 39))) : Option (Nat × va_E)) = some ((aa 96), .inl (cA 0, 8, .inl (FI 39)))
  rw [h0]
theorem wS_97 (h0 : FI' 40 = FI 40) : (wLaw cA aa FI' FL' VI' VL')[97]? = (wLaw cA aa FI FL VI VL)[97]? := by
  show (some ((aa 97), .inl (cA 0, 8, .inl (FI' 40))) : Option (Nat × va_E)) = some ((aa 97), .inl (cA 0, 8, .inl (FI 40)))
  rw [h0]
theorem wS_98 (h0 : FI' 41 = FI 41) : (wLaw cA aa FI' FL' VI' VL')[98]? = (wLaw cA aa FI FL VI VL)[98]? := by
  show (some ((aa 98), .inl (cA 0, 13, .inl (FI' 41))) : Option (Nat × va_E)) = some ((aa 98), .inl (cA 0, 13, .inl (FI 41)))
  rw [h0]
theorem wS_99 (h0 : FI' 42 = FI 42) : (wLaw cA aa FI' FL' VI' VL')[99]? = (wLaw cA aa FI FL VI VL)[99]? := by
  show (some ((aa 99), .inl (cA 0, 13, .inl (FI' 42))) : Option (Nat × va_E)) = some ((aa 99), .inl (cA 0, 13, .inl (FI 42)))
  rw [h0]
theorem wS_100 (h0 : FI' 43 = FI 43) : (wLaw cA aa FI' FL' VI' VL')[100]? = (wLaw cA aa FI FL VI VL)[100]? := by
  show (some ((aa 100), .inl (cA 0, 13, .inl (FI' 43))) : Option (Nat × va_E)) = some ((aa 100), .inl (cA 0, 13, .inl (FI 43)))
  rw [h0]
theorem wS_101 (h0 : VI' 61 = VI 61) : (wLaw cA aa FI' FL' VI' VL')[101]? = (wLaw cA aa FI FL VI VL)[101]? := by
  show (some ((aa 101), .inr (2, [.ref (aa 102), .ref (aa 103), .int (VI' 61), .ref (aa 104), .ref (aa 105), .ref (aa 106)])) : Option (Nat × va_E)) = some ((aa 101), .inr (2, [.ref (aa 102), .ref (aa 103), .int (VI 61), .ref (aa 104), .ref (aa 105), .ref (aa 106)]))
  rw [h0]
theorem wS_102 (h0 : FI' 44 = FI 44) : (wLaw cA aa FI' FL' VI' VL')[102]? = (wLaw cA aa FI FL VI VL)[102]? := by
  show (some ((aa 102), .inl (cA 3, 72, .inl (FI' 44))) : Option (Nat × va_E)) = some ((aa 102), .inl (cA 3, 72, .inl (FI 44)))
  rw [h0]
theorem wS_103 (h0 : FI' 45 = FI 45) : (wLaw cA aa FI' FL' VI' VL')[103]? = (wLaw cA aa FI FL VI VL)[103]? := by
  show (some ((aa 103), .inl (cA 0, 7, .inl (FI' 45))) : Option (Nat × va_E)) = some ((aa 103), .inl (cA 0, 7, .inl (FI 45)))
  rw [h0]
theorem wS_104 (h0 : FI' 46 = FI 46) : (wLaw cA aa FI' FL' VI' VL')[104]? = (wLaw cA aa FI FL VI VL)[104]? := by
  show (some ((aa 104), .inl (cA 3, 108, .inl (FI' 46))) : Option (Nat × va_E)) = some ((aa 104), .inl (cA 3, 108, .inl (FI 46)))
  rw [h0]
theorem wS_105 (h0 : FL' 0 = FL 0) : (wLaw cA aa FI' FL' VI' VL')[105]? = (wLaw cA aa FI FL VI VL)[105]? := by
  show (some ((aa 105), .inl (cA 2, 108, .inr (.inl (FL' 0)))) : Option (Nat × va_E)) = some ((aa 105), .inl (cA 2, 108, .inr (.inl (FL 0))))
  rw [h0]
theorem wS_106 (h0 : FL' 1 = FL 1) : (wLaw cA aa FI' FL' VI' VL')[106]? = (wLaw cA aa FI FL VI VL)[106]? := by
  show (some ((aa 106), .inl (cA 2, 108, .inr (.inl (FL' 1)))) : Option (Nat × va_E)) = some ((aa 106), .inl (cA 2, 108, .inr (.inl (FL 1))))
  rw [h0]
theorem wS_107 (h0 : VL' 2 = VL 2) (h1 : VL' 3 = VL 3) (h2 : VI' 65 = VI 65) (h3 : VI' 66 = VI 66) (h4 : VI' 67 = VI 67) (h5 : VI' 68 = VI 68) (h6 : VI' 69 = VI 69) (h7 : VI' 70 = VI 70) (h8 : VL' 4 = VL 4) : (wLaw cA aa FI' FL' VI' VL')[107]? = (wLaw cA aa FI FL VI VL)[107]? := by
  show (some ((aa 107), .inr (12, [.ref (aa 108), .long (VL' 2), .long (VL' 3), .ref (aa 109), .ref (aa 110), .int (VI' 65), .ref (aa 111), .int (VI' 66), .int (VI' 67), .int (VI' 68), .int (VI' 69), .int (VI' 70), .ref (aa 112), .ref (aa 113), .ref (aa 114), .ref (aa 115), .ref (aa 116), .ref (aa 117), .ref (aa 118), .ref (aa 119), .ref (aa 120), .ref (aa 121), .ref (aa 122), .ref (aa 123), .long (VL' 4)])) : Option (Nat × va_E)) = some ((aa 107), .inr (12, [.ref (aa 108), .long (VL 2), .long (VL 3), .ref (aa 109), .ref (aa 110), .int (VI 65), .ref (aa 111), .int (VI 66), .int (VI 67), .int (VI 68), .int (VI 69), .int (VI 70), .ref (aa 112), .ref (aa 113), .ref (aa 114), .ref (aa 115), .ref (aa 116), .ref (aa 117), .ref (aa 118), .ref (aa 119), .ref (aa 120), .ref (aa 121), .ref (aa 122), .ref (aa 123), .long (VL 4)]))
  rw [h0, h1, h2, h3, h4, h5, h6, h7, h8]
theorem wS_108 (h0 : FI' 48 = FI 48) : (wLaw cA aa FI' FL' VI' VL')[108]? = (wLaw cA aa FI FL VI VL)[108]? := by
  show (some ((aa 108), .inl (cA 0, 3, .inl (FI' 48))) : Option (Nat × va_E)) = some ((aa 108), .inl (cA 0, 3, .inl (FI 48)))
  rw [h0]
theorem wS_109 (h0 : FI' 49 = FI 49) : (wLaw cA aa FI' FL' VI' VL')[109]? = (wLaw cA aa FI FL VI VL)[109]? := by
  show (some ((aa 109), .inl (cA 0, 126, .inl (FI' 49))) : Option (Nat × va_E)) = some ((aa 109), .inl (cA 0, 126, .inl (FI 49)))
  rw [h0]
theorem wS_110 (h0 : FI' 50 = FI 50) : (wLaw cA aa FI' FL' VI' VL')[110]? = (wLaw cA aa FI FL VI VL)[110]? := by
  show (some ((aa 110), .inl (cA 0, 126, .inl (FI' 50))) : Option (Nat × va_E)) = some ((aa 110), .inl (cA 0, 126, .inl (FI 50)))
  rw [h0]
theorem wS_111 (h0 : FI' 51 = FI 51) : (wLaw cA aa FI' FL' VI' VL')[111]? = (wLaw cA aa FI FL VI VL)[111]? := by
  show (some ((aa 111), .inl (cA 0, 150, .inl (FI' 51))) : Option (Nat × va_E)) = some ((aa 111), .inl (cA 0, 150, .inl (FI 51)))
  rw [h0]
theorem wS_112 (h0 : FI' 52 = FI 52) : (wLaw cA aa FI' FL' VI' VL')[112]? = (wLaw cA aa FI FL VI VL)[112]? := by
  show (some ((aa 112), .inl (cA 0, 3, .inl (FI' 52))) : Option (Nat × va_E)) = some ((aa 112), .inl (cA 0, 3, .inl (FI 52)))
  rw [h0]
theorem wS_113 (h0 : FI' 53 = FI 53) : (wLaw cA aa FI' FL' VI' VL')[113]? = (wLaw cA aa FI FL VI VL)[113]? := by
  show (some ((aa 113), .inl (cA 0, 256, .inl (FI' 53))) : Option (Nat × va_E)) = some ((aa 113), .inl (cA 0, 256, .inl (FI 53)))
  rw [h0]
theorem wS_114 (h0 : FI' 54 = FI 54) : (wLaw cA aa FI' FL' VI' VL')[114]? = (wLaw cA aa FI FL VI VL)[114]? := by
  show (some ((aa 114), .inl (cA 0, 256, .inl (FI' 54))) : Option (Nat × va_E)) = some ((aa 114), .inl (cA 0, 256, .inl (FI 54)))
  rw [h0]
theorem wS_115 (h0 : FI' 55 = FI 55) : (wLaw cA aa FI' FL' VI' VL')[115]? = (wLaw cA aa FI FL VI VL)[115]? := by
  show (some ((aa 115), .inl (cA 0, 256, .inl (FI' 55))) : Option (Nat × va_E)) = some ((aa 115), .inl (cA 0, 256, .inl (FI 55)))
  rw [h0]
theorem wS_116 (h0 : FI' 56 = FI 56) : (wLaw cA aa FI' FL' VI' VL')[116]? = (wLaw cA aa FI FL VI VL)[116]? := by
  show (some ((aa 116), .inl (cA 0, 13, .inl (FI' 56))) : Option (Nat × va_E)) = some ((aa 116), .inl (cA 0, 13, .inl (FI 56)))
  rw [h0]
theorem wS_117 (h0 : FI' 57 = FI 57) : (wLaw cA aa FI' FL' VI' VL')[117]? = (wLaw cA aa FI FL VI VL)[117]? := by
  show (some ((aa 117), .inl (cA 0, 13, .inl (FI' 57))) : Option (Nat × va_E)) = some ((aa 117), .inl (cA 0, 13, .inl (FI 57)))
  rw [h0]
theorem wS_118 (h0 : FI' 58 = FI 58) : (wLaw cA aa FI' FL' VI' VL')[118]? = (wLaw cA aa FI FL VI VL)[118]? := by
  show (some ((aa 118), .inl (cA 0, 13, .inl (FI' 58))) : Option (Nat × va_E)) = some ((aa 118), .inl (cA 0, 13, .inl (FI 58)))
  rw [h0]
theorem wS_119 (h0 : FI' 59 = FI 59) : (wLaw cA aa FI' FL' VI' VL')[119]? = (wLaw cA aa FI FL VI VL)[119]? := by
  show (some ((aa 119), .inl (cA 0, 7, .inl (FI' 59))) : Option (Nat × va_E)) = some ((aa 119), .inl (cA 0, 7, .inl (FI 59)))
  rw [h0]
theorem wS_120 (h0 : FL' 2 = FL 2) : (wLaw cA aa FI' FL' VI' VL')[120]? = (wLaw cA aa FI FL VI VL)[120]? := by
  show (some ((aa 120), .inl (cA 2, 108, .inr (.inl (FL' 2)))) : Option (Nat × va_E)) = some ((aa 120), .inl (cA 2, 108, .inr (.inl (FL 2))))
  rw [h0]
theorem wS_121 (h0 : FL' 3 = FL 3) : (wLaw cA aa FI' FL' VI' VL')[121]? = (wLaw cA aa FI FL VI VL)[121]? := by
  show (some ((aa 121), .inl (cA 2, 108, .inr (.inl (FL' 3)))) : Option (Nat × va_E)) = some ((aa 121), .inl (cA 2, 108, .inr (.inl (FL 3))))
  rw [h0]
theorem wS_122 (h0 : FI' 60 = FI 60) : (wLaw cA aa FI' FL' VI' VL')[122]? = (wLaw cA aa FI FL VI VL)[122]? := by
  show (some ((aa 122), .inl (cA 3, 2, .inl (FI' 60))) : Option (Nat × va_E)) = some ((aa 122), .inl (cA 3, 2, .inl (FI 60)))
  rw [h0]
theorem wS_123 (h0 : FI' 61 = FI 61) : (wLaw cA aa FI' FL' VI' VL')[123]? = (wLaw cA aa FI FL VI VL)[123]? := by
  show (some ((aa 123), .inl (cA 0, 252, .inl (FI' 61))) : Option (Nat × va_E)) = some ((aa 123), .inl (cA 0, 252, .inl (FI 61)))
  rw [h0]
end WSM
