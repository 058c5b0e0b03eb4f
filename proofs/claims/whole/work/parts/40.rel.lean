/-! the relation between the class's state and the reference's -/
def nv (x : Int32) : Nat := x.toNatClampNeg
def sm (x : Int32) (b : Nat) : Prop := nv x < b ∧ x = nI (nv x)
theorem nv_nI {k : Nat} (h : k < 2147483648) : nv (nI k) = k := nI_clamp (by omega)
theorem sm_nI {k b : Nat} (h : k < b) (hb : b ≤ 2147483648) : sm (nI k) b := ⟨by rw [nv_nI (by omega)]; exact h, by rw [nv_nI (by omega)]⟩
theorem sm_of {x : Int32} {b : Nat} (h : sm x b) : ∃ k, k < b ∧ x = nI k := ⟨nv x, h.1, h.2⟩
theorem up_id {α : Type} (f : Nat → α) (k : Nat) : va_up f k (f k) = f := by
  funext j
  unfold va_up
  by_cases h : j = k
  · rw [if_pos h, h]
  · rw [if_neg h]
def pcn (m : Nat) : Nat := (m.testBit 0).toNat + (m.testBit 1).toNat + (m.testBit 2).toNat + (m.testBit 3).toNat + (m.testBit 4).toNat + (m.testBit 5).toNat + (m.testBit 6).toNat + (m.testBit 7).toNat
def relLim (V : Nat → Int32) : Prop := V 0 = 8 ∧ V 2 = 8 ∧ V 4 = 10 ∧ V 6 = 8 ∧ V 8 = 6
def relW (F : Nat → Nat → Int32) (n : Nat → Int32) : Prop := ∀ k, k < 12 → F 0 k = n k ∧ sm (n k) 6
def relPr (F : Nat → Nat → Int32) (n : Nat → Int32) : Prop := ∀ k, k < 6 → F 1 k = n (12 + k) ∧ sm (n (12 + k)) 10
def relL (F : Nat → Nat → Int32) (V n : Nat → Int32) : Prop := V 1 = n 50 ∧ sm (n 50) 9 ∧ ∀ j, j < nv (n 50) → (F 3 (3 * j) = n (18 + 4 * j) ∧ sm (n (18 + 4 * j)) 6) ∧ (F 3 (3 * j + 1) = n (18 + 4 * j + 1) ∧ sm (n (18 + 4 * j + 1)) 12) ∧ (F 3 (3 * j + 2) = n (18 + 4 * j + 2) ∧ sm (n (18 + 4 * j + 2)) 7 ∧ 1 ≤ nv (n (18 + 4 * j + 2)) ∧ nv (n (18 + 4 * j + 1)) + nv (n (18 + 4 * j + 2)) ≤ 12) ∧ sm (n (18 + 4 * j + 3)) 2
/-- the mask M of those burnt -/
def relB (n : Nat → Int32) (M : Nat) : Prop := M < 256 ∧ ∀ j, j < 8 → (M.testBit j = true ↔ (j < nv (n 50) ∧ n (18 + 4 * j + 3) = 1))
def relMC (V n : Nat → Int32) : Prop := V 11 = n 51 ∧ V 12 = n 52
def relU (F : Nat → Nat → Int32) (V n : Nat → Int32) (Mu : Nat → Nat) : Prop := V 3 = n 53 ∧ sm (n 53) 9 ∧ V 10 = nI (Mu (nv (n 53))) ∧ sm (n 51) (108 * pcn (Mu (nv (n 53))) + 1) ∧ ∀ j, j < nv (n 53) → F 4 (3 * j) = nI (Mu j) ∧ F 4 (3 * j + 1) = n (54 + 3 * j + 1) ∧ F 4 (3 * j + 2) = n (54 + 3 * j + 2) ∧ sm (n (54 + 3 * j + 1)) (108 * pcn (Mu j) + 1) ∧ sm (n (54 + 3 * j)) 8 ∧ (Mu (j + 1)).testBit (nv (n (54 + 3 * j))) = true ∧ Mu j = Mu (j + 1) - 2 ^ nv (n (54 + 3 * j)) ∧ Mu (j + 1) < 256
def relE (F : Nat → Nat → Int32) (V n : Nat → Int32) : Prop := V 5 = n 78 ∧ sm (n 78) 11 ∧ ∀ i, i < nv (n 78) → F 5 (3 * i) = n (79 + i) ∧ sm (n (79 + i)) 6
def relS (F : Nat → Nat → Int32) (V n : Nat → Int32) : Prop := V 7 = n 89 ∧ sm (n 89) 9 ∧ V 13 = n 90 ∧ sm (n 90) 7 ∧ 1 ≤ nv (n 90) ∧ ∀ j, j < nv (n 89) → F 6 (3 * j) = n (91 + 2 * j) ∧ sm (n (91 + 2 * j)) 13 ∧ F 6 (3 * j + 1) = n (91 + 2 * j + 1) ∧ (n (91 + 2 * j + 1) = -1 ∨ sm (n (91 + 2 * j + 1)) 6)
def relG (F : Nat → Nat → Int32) (V n : Nat → Int32) : Prop := V 9 = n 107 ∧ sm (n 107) 7 ∧ ∀ j, j < nv (n 107) → (F 7 (3 * j) = n (108 + 3 * j) ∧ sm (n (108 + 3 * j)) 12) ∧ (F 7 (3 * j + 1) = n (108 + 3 * j + 1) ∧ sm (n (108 + 3 * j + 1)) 9) ∧ (F 7 (3 * j + 2) = n (108 + 3 * j + 2) ∧ sm (n (108 + 3 * j + 2)) 2)
def relP (F : Nat → Nat → Int32) (V n : Nat → Int32) : Prop := relLim V ∧ relW F n ∧ relPr F n ∧ relL F V n ∧ (∃ Mu : Nat → Nat, relB n (Mu (nv (n 53))) ∧ relU F V n Mu) ∧ relMC V n ∧ relE F V n ∧ relS F V n ∧ relG F V n
def relT (FI : Nat → Nat → Int32) (VI : Nat → Int32) : Prop := VI 56 = VI 65 ∧ sm (VI 65) 151 ∧ ∀ i, i < nv (VI 65) → FI 32 i = FI 51 i ∧ sm (FI 51 i) 128
def relR (FI : Nat → Nat → Int32) (VI : Nat → Int32) : Prop := FI 48 0 = VI 62 ∧ FI 48 1 = VI 63 ∧ FI 48 2 = VI 64
def relI (FI : Nat → Nat → Int32) (VI : Nat → Int32) : Prop := (FI 47 0 = FI 60 0 ∧ (FI 60 0 = 0 ∨ FI 60 0 = 1) ∧ (FI 60 0 = 1 → relP (fun j => FI (16 + j)) (fun j => VI (28 + j)) (fun k => FI 61 k))) ∧ (FI 47 1 = FI 60 1 ∧ (FI 60 1 = 0 ∨ FI 60 1 = 1) ∧ (FI 60 1 = 1 → relP (fun j => FI (24 + j)) (fun j => VI (42 + j)) (fun k => FI 61 (126 + k))))
def relLims (VI : Nat → Int32) : Prop := relLim (fun j => VI (14 + j)) ∧ relLim (fun j => VI (28 + j)) ∧ relLim (fun j => VI (42 + j))
def Rel (FI : Nat → Nat → Int32) (FL : Nat → Nat → Int64) (VI : Nat → Int32) (VL : Nat → Int64) : Prop := relP FI VI (FI 49) ∧ relLims VI ∧ relI FI VI ∧ relT FI VI ∧ relR FI VI ∧ VL 0 = VL 2 ∧ VL 1 = VL 3
-- what a part looks at
theorem relW_c {F F' : Nat → Nat → Int32} {n n' : Nat → Int32} (h : relW F n) (hF : F' 0 = F 0) (hn : ∀ k, k < 12 → n' k = n k) : relW F' n' := fun k hk => by rw [hF, hn k hk]; exact h k hk
theorem relPr_c {F F' : Nat → Nat → Int32} {n n' : Nat → Int32} (h : relPr F n) (hF : F' 1 = F 1) (hn : ∀ k, 12 ≤ k → k < 18 → n' k = n k) : relPr F' n' := fun k hk => by rw [hF, hn (12 + k) (by omega) (by omega)]; exact h k hk
theorem relL_c {F F' : Nat → Nat → Int32} {V V' n n' : Nat → Int32} (h : relL F V n) (hF : F' 3 = F 3) (hV : V' 1 = V 1) (hn : ∀ k, 18 ≤ k → k ≤ 50 → n' k = n k) : relL F' V' n' := by
  obtain ⟨h1, h2, h3⟩ := h
  have e50 : n' 50 = n 50 := hn 50 (by omega) (by omega)
  have hb : nv (n 50) < 9 := h2.1
  refine ⟨by rw [hV, e50]; exact h1, by rw [e50]; exact h2, fun j hj => ?_⟩
  rw [e50] at hj
  rw [hF, hn (18 + 4 * j) (by omega) (by omega), hn (18 + 4 * j + 1) (by omega) (by omega), hn (18 + 4 * j + 2) (by omega) (by omega), hn (18 + 4 * j + 3) (by omega) (by omega)]
  exact h3 j hj
theorem relB_c {n n' : Nat → Int32} {M : Nat} (h : relB n M) (hn : ∀ k, 18 ≤ k → k ≤ 50 → n' k = n k) : relB n' M := by
  refine ⟨h.1, fun j hj => ?_⟩
  rw [hn 50 (by omega) (by omega), hn (18 + 4 * j + 3) (by omega) (by omega)]
  exact h.2 j hj
theorem relU_c {F F' : Nat → Nat → Int32} {V V' n n' : Nat → Int32} {Mu : Nat → Nat} (h : relU F V n Mu) (hF : F' 4 = F 4) (hV : V' 3 = V 3) (hV2 : V' 10 = V 10) (hn : ∀ k, 51 ≤ k → k < 78 → n' k = n k) : relU F' V' n' Mu := by
  obtain ⟨h1, h2, h3, h3b, h4⟩ := h
  have e : n' 53 = n 53 := hn 53 (by omega) (by omega)
  have hb : nv (n 53) < 9 := h2.1
  refine ⟨by rw [hV, e]; exact h1, by rw [e]; exact h2, by rw [hV2, e]; exact h3, by rw [hn 51 (by omega) (by omega), e]; exact h3b, fun j hj => ?_⟩
  rw [e] at hj
  rw [hF, hn (54 + 3 * j) (by omega) (by omega), hn (54 + 3 * j + 1) (by omega) (by omega), hn (54 + 3 * j + 2) (by omega) (by omega)]
  exact h4 j hj
theorem relE_c {F F' : Nat → Nat → Int32} {V V' n n' : Nat → Int32} (h : relE F V n) (hF : F' 5 = F 5) (hV : V' 5 = V 5) (hn : ∀ k, 78 ≤ k → k < 89 → n' k = n k) : relE F' V' n' := by
  obtain ⟨h1, h2, h3⟩ := h
  have e : n' 78 = n 78 := hn 78 (by omega) (by omega)
  have hb : nv (n 78) < 11 := h2.1
  refine ⟨by rw [hV, e]; exact h1, by rw [e]; exact h2, fun j hj => ?_⟩
  rw [e] at hj
  rw [hF, hn (79 + j) (by omega) (by omega)]
  exact h3 j hj
theorem relS_c {F F' : Nat → Nat → Int32} {V V' n n' : Nat → Int32} (h : relS F V n) (hF : F' 6 = F 6) (hV : V' 7 = V 7) (hV2 : V' 13 = V 13) (hn : ∀ k, 89 ≤ k → k < 107 → n' k = n k) : relS F' V' n' := by
  obtain ⟨h1, h2, h3, h4, h5, h6⟩ := h
  have e : n' 89 = n 89 := hn 89 (by omega) (by omega)
  have e2 : n' 90 = n 90 := hn 90 (by omega) (by omega)
  have hb : nv (n 89) < 9 := h2.1
  refine ⟨by rw [hV, e]; exact h1, by rw [e]; exact h2, by rw [hV2, e2]; exact h3, by rw [e2]; exact h4, by rw [e2]; exact h5, fun j hj => ?_⟩
  rw [e] at hj
  rw [hF, hn (91 + 2 * j) (by omega) (by omega), hn (91 + 2 * j + 1) (by omega) (by omega)]
  exact h6 j hj
theorem relG_c {F F' : Nat → Nat → Int32} {V V' n n' : Nat → Int32} (h : relG F V n) (hF : F' 7 = F 7) (hV : V' 9 = V 9) (hn : ∀ k, 107 ≤ k → k < 126 → n' k = n k) : relG F' V' n' := by
  obtain ⟨h1, h2, h3⟩ := h
  have e : n' 107 = n 107 := hn 107 (by omega) (by omega)
  have hb : nv (n 107) < 7 := h2.1
  refine ⟨by rw [hV, e]; exact h1, by rw [e]; exact h2, fun j hj => ?_⟩
  rw [e] at hj
  rw [hF, hn (108 + 3 * j) (by omega) (by omega), hn (108 + 3 * j + 1) (by omega) (by omega), hn (108 + 3 * j + 2) (by omega) (by omega)]
  exact h3 j hj
-- small methods
theorem qIn_z (v lo hi : Int32) : qIn v lo hi &&& 1 = qIn v lo hi := by
  unfold qIn
  by_cases h : v < lo
  · rw [if_pos h]; decide
  · rw [if_neg h]
    by_cases h2 : hi < v
    · rw [if_pos h2]; decide
    · rw [if_neg h2]; decide
theorem q_z {β : Type} {v : Int32} {K : Option β} (h : v &&& 1 = v) : mZ v K = K := by unfold mZ; rw [if_pos h]
theorem isLayer_ok (v : Int32) : m_X11_isLayer v = some (qIn v 0 11) := by unfold m_X11_isLayer; rw [q_call (within_ok _ _ _), q_z (qIn_z _ _ _)]
theorem isWeather_ok (v : Int32) : m_X11_isWeather v = some (qIn v 0 5) := by unfold m_X11_isWeather; rw [q_call (within_ok _ _ _), q_z (qIn_z _ _ _)]
theorem isSize_ok (v : Int32) : m_X11_isSize v = some (qIn v 1 6) := by unfold m_X11_isSize; rw [q_call (within_ok _ _ _), q_z (qIn_z _ _ _)]
theorem qIn_c (x : Int32) (lo hi : Nat) (h : lo ≤ hi) (hhi : hi < 2147483648) : qIn x (nI lo) (nI hi) = 0 ∨ (qIn x (nI lo) (nI hi) = 1 ∧ ∃ k, lo ≤ k ∧ k ≤ hi ∧ x = nI k) := by
  by_cases h1 : x < nI lo
  · exact Or.inl (qIn_lo h1)
  · by_cases h2 : nI hi < x
    · exact Or.inl (qIn_hi h2)
    · refine Or.inr ⟨qIn_yes (Int32.not_lt.mp h1) (Int32.not_lt.mp h2), ?_⟩
      have hp : ¬ x < 0 := fun h0 => h1 (Int32.lt_iff_toInt_lt.mpr (by
        have a1 := Int32.lt_iff_toInt_lt.mp h0
        rw [nI_toInt (n := lo) (by omega)]
        have a2 : (0 : Int32).toInt = 0 := by decide
        omega))
      obtain ⟨j, hj, rfl⟩ := nI_of hp
      refine ⟨j, ?_, ?_, rfl⟩
      · exact Nat.le_of_not_lt (fun q => h1 (nI_lt q (by omega)))
      · exact Nat.le_of_not_lt (fun q => h2 (nI_lt q hj))
theorem counted_bad (b n f : Int32) : m_X11_counted b n f (-2) = some (-2, b + 1, n, f) := by unfold m_X11_counted; rw [if_pos rfl]; rfl
theorem counted_no (b n f : Int32) : m_X11_counted b n f (-3) = some (-3, b, n + 1, f) := by unfold m_X11_counted; rw [if_neg (by decide), if_pos rfl]; rfl
theorem counted_full (b n f : Int32) : m_X11_counted b n f (-4) = some (-4, b, n, f + 1) := by unfold m_X11_counted; rw [if_neg (by decide), if_neg (by decide), if_pos rfl]; rfl
theorem nI_nn {k : Nat} (hk : k < 2147483648) {z : Int32} (hz : z < 0) : ¬ nI k = z := fun h => nI_pos (n := k) (by omega) (by rw [h]; exact hz)
theorem counted_ok (b n f : Int32) {k : Nat} (hk : k < 2147483648) : m_X11_counted b n f (nI k) = some (nI k, b, n, f) := by unfold m_X11_counted; rw [if_neg (nI_nn hk (by decide)), if_neg (nI_nn hk (by decide)), if_neg (nI_nn hk (by decide))]
theorem bad_ok (f : Nat → Int32) : m_X12_bad f = some (-2, upd f 0 (f 0 + 1)) := by unfold m_X12_bad; rw [show (0 : Int32) = nI 0 from rfl, q_at (by omega) (by omega), q_wr (by omega) (by omega)]
theorem wrong_ok (f : Nat → Int32) : m_X12_wrong f = some (-10, upd f 0 (f 0 + 1)) := by unfold m_X12_wrong; rw [show (0 : Int32) = nI 0 from rfl, q_at (by omega) (by omega), q_wr (by omega) (by omega)]
theorem no_ok (f : Nat → Int32) : m_X12_no f = some (-3, upd f 1 (f 1 + 1)) := by unfold m_X12_no; rw [show mRd f 3 (1 : Int32) = mRd f 3 (nI 1) from rfl, q_at (by omega) (by omega), show mWr f 3 (1 : Int32) = mWr f 3 (nI 1) from rfl, q_wr (by omega) (by omega)]
theorem full_ok (f : Nat → Int32) : m_X12_full f = some (-4, upd f 2 (f 2 + 1)) := by unfold m_X12_full; rw [show (2 : Int32) = nI 2 from rfl, q_at (by omega) (by omega), q_wr (by omega) (by omega)]
theorem badIndex_ok (b : Int32) : m_X11_badIndex b = some (-10, b + 1) := rfl
-- refusals
theorem relP_cc {F F' : Nat → Nat → Int32} {V V' n n' : Nat → Int32} (h : relP F V n) (hF : ∀ j, j < 8 → j ≠ 2 → F' j = F j) (hV : ∀ j, j < 14 → V' j = V j) (hn : ∀ k, k < 126 → n' k = n k) : relP F' V' n' := by
  obtain ⟨h1, h2, h3, h4, ⟨Mu, h5, h6⟩, h7, h8, h9, h10⟩ := h
  refine ⟨?_, relW_c h2 (hF 0 (by omega) (by omega)) (fun k hk => hn k (by omega)), relPr_c h3 (hF 1 (by omega) (by omega)) (fun k _ hk => hn k (by omega)), relL_c h4 (hF 3 (by omega) (by omega)) (hV 1 (by omega)) (fun k _ hk => hn k (by omega)), ⟨Mu, by rw [hn 53 (by omega)]; exact relB_c h5 (fun k _ hk => hn k (by omega)), relU_c h6 (hF 4 (by omega) (by omega)) (hV 3 (by omega)) (hV 10 (by omega)) (fun k _ hk => hn k (by omega))⟩, ?_, relE_c h8 (hF 5 (by omega) (by omega)) (hV 5 (by omega)) (fun k _ hk => hn k (by omega)), relS_c h9 (hF 6 (by omega) (by omega)) (hV 7 (by omega)) (hV 13 (by omega)) (fun k _ hk => hn k (by omega)), relG_c h10 (hF 7 (by omega) (by omega)) (hV 9 (by omega)) (fun k _ hk => hn k (by omega))⟩
  · unfold relLim
    rw [hV 0 (by omega), hV 2 (by omega), hV 4 (by omega), hV 6 (by omega), hV 8 (by omega)]
    exact h1
  · unfold relMC
    rw [hV 11 (by omega), hV 12 (by omega), hn 51 (by omega), hn 52 (by omega)]
    exact h7
theorem rel_bad {FI : Nat → Nat → Int32} {FL : Nat → Nat → Int64} {VI : Nat → Int32} {VL : Nat → Int64} (h : Rel FI FL VI VL) : Rel (va_up FI 48 (upd (FI 48) 0 (FI 48 0 + 1))) FL (va_up VI 62 (VI 62 + 1)) VL := by
  obtain ⟨h1, h2, h3, h4, ⟨r1, r2, r3⟩, h6, h7⟩ := h
  refine ⟨h1, h2, h3, h4, ⟨?_, r2, r3⟩, h6, h7⟩
  show FI 48 0 + 1 = VI 62 + 1
  rw [r1]
theorem rel_no {FI : Nat → Nat → Int32} {FL : Nat → Nat → Int64} {VI : Nat → Int32} {VL : Nat → Int64} (h : Rel FI FL VI VL) : Rel (va_up FI 48 (upd (FI 48) 1 (FI 48 1 + 1))) FL (va_up VI 63 (VI 63 + 1)) VL := by
  obtain ⟨h1, h2, h3, h4, ⟨r1, r2, r3⟩, h6, h7⟩ := h
  refine ⟨h1, h2, h3, h4, ⟨r1, ?_, r3⟩, h6, h7⟩
  show FI 48 1 + 1 = VI 63 + 1
  rw [r2]
theorem rel_full {FI : Nat → Nat → Int32} {FL : Nat → Nat → Int64} {VI : Nat → Int32} {VL : Nat → Int64} (h : Rel FI FL VI VL) : Rel (va_up FI 48 (upd (FI 48) 2 (FI 48 2 + 1))) FL (va_up VI 64 (VI 64 + 1)) VL := by
  obtain ⟨h1, h2, h3, h4, ⟨r1, r2, r3⟩, h6, h7⟩ := h
  refine ⟨h1, h2, h3, h4, ⟨r1, r2, ?_⟩, h6, h7⟩
  show FI 48 2 + 1 = VI 64 + 1
  rw [r3]
