/-! what stands at the start and stays: String constants, NUMBERS; the JDK's methods on a String constant -/
def sLenL : List Nat := [3, 5, 5, 4]
def sBytL : List (List Int32) := [[112, 105, 116], [108, 97, 121, 101, 114], [112, 114, 105, 99, 101], [108, 117, 109, 112]]
def sNumL : List Int32 := [0, 2, 2, 3]
def sRefL : List (Nat × String × Nat) := [(83, "pit", 0), (89, "layer", 1), (91, "price", 2), (93, "lump", 3)]
def sLn (i : Nat) : Int32 := Int32.ofNat (sLenL.getD i 0)
def sCh (i j : Nat) : Int32 := (sBytL.getD i []).getD j 0
def gSt (adK adV : Nat → Nat) (tN : Nat) (A : Nat → Prop) (U : State) (H : Heap) : Prop :=
  vk_S 4 sLenL sBytL adK adV A U H ∧ va_Z "java/lang/String" "COMPACT_STRINGS" "Z" (.int 1) A U H ∧ va_Zq "jdk/internal/util/Preconditions" "SIOOBE_FORMATTER" "Ljava/util/function/BiFunction;" A U H ∧ va_Z "CoalWood$Text" "NUMBERS" "[I" (.ref tN) A U H ∧ va_T .int tN 4 (fun j => .int (sNumL.getD j 0)) A U H ∧ ∀ q ∈ sRefL, vk_R "CoalWood$Text" q.1 q.2.1 (adK q.2.2) U
theorem gSt.warm {adK adV : Nat → Nat} {tN : Nat} {A : Nat → Prop} {s U : State} {H : Heap} (hW : s.WarmedH U.vm) (h : gSt adK adV tN A s H) : gSt adK adV tN A U H := ⟨h.1.moved hW.alike, h.2.1.moved hW.alike, h.2.2.1.moved hW.alike, h.2.2.2.1.moved hW.alike, h.2.2.2.2.1.moved hW.alike, fun q hq => (h.2.2.2.2.2 q hq).warm hW⟩
theorem gSt.same {adK adV : Nat → Nat} {tN : Nat} {A : Nat → Prop} {s U : State} {H : Heap} (hv : s.vm = U.vm) (h : gSt adK adV tN A s H) : gSt adK adV tN A U H := by
  have ha : s.vm.Alike U.vm := by rw [hv]; exact Vm.Alike.refl U.vm
  exact ⟨h.1.moved ha, h.2.1.moved ha, h.2.2.1.moved ha, h.2.2.2.1.moved ha, h.2.2.2.2.1.moved ha, fun q hq => (h.2.2.2.2.2 q hq).same hv.symm⟩
theorem gSt.kept {adK adV : Nat → Nat} {tN : Nat} {A : Nat → Prop} {U : State} {H H1 : Heap} (h : gSt adK adV tN A U H) (hq : ∀ a : Nat, a < H.size → ¬ A a → H1[a]? = H[a]?) : gSt adK adV tN A U H1 := ⟨h.1.kept hq, h.2.1.kept hq, h.2.2.1.kept hq, h.2.2.2.1.kept hq, h.2.2.2.2.1.kept hq, h.2.2.2.2.2⟩
theorem gSt.narrow {adK adV : Nat → Nat} {tN : Nat} {A B : Nat → Prop} {U : State} {H : Heap} (h : gSt adK adV tN A U H) (hAB : ∀ q, B q → A q) : gSt adK adV tN B U H := ⟨h.1.narrow hAB, h.2.1.narrow hAB, h.2.2.1.narrow hAB, h.2.2.2.1.narrow hAB, h.2.2.2.2.1.narrow hAB, h.2.2.2.2.2⟩
abbrev nA : Nat → Prop := fun _ => False
def MSi (l : Launch) (y : MethodName) (ws : List Cond) (rm : Room) (adK adV : Nat → Nat) (tN : Nat) (av : List Value) (r : Int32) : Prop := Met l y ws rm (va_Pc av (fun U => gSt adK adV tN nA U U.heap)) (vp_Si (fun x => x = r)) 0 0 (fun _ => False)
def MSv (l : Launch) (y : MethodName) (ws : List Cond) (rm : Room) (adK adV : Nat → Nat) (tN : Nat) (av : List Value) : Prop := Met l y ws rm (va_Pc av (fun U => gSt adK adV tN nA U U.heap)) (va_Sv (fun _ => True)) 0 0 (fun _ => False)
section GST
variable {l : Launch} {y : MethodName} {ws ws' : List Cond} {rm : Room} {D : va_G} {cA : Nat → ClassId} {av : List Value} {w w2 : va_W} {cc : ByteArray} {maxL : Nat} {ret : Option FieldType} {adK adV : Nat → Nat} {tN : Nat}
theorem mS_blind : FrameBlind (va_Pc av (fun U => gSt adK adV tN nA U U.heap)) := fun a U g mk q => ⟨q.1, gSt.same (s := U) (U := U.calling g mk a) (H := U.heap) rfl q.2⟩
theorem mS_of {Qc : Array Value → State → Outcome → State → Prop} (hy : plainName y.cls = true) (hw : ws = Cond.code y cc maxL ret :: ws') (hn : (lg_sl av).length ≤ maxL)
    (body : ∀ (p : Program) (e : Env) (s : State) (m : MethodId) (below : List Frame) (meth : Method) (c : Code), CallFix p m c cc maxL s av.toArray ws y.cls → meth.sig.returnType = ret → meth.locks = false → gSt adK adV tN nA s s.heap → va_S nA s.heap s.heap [] → ∀ ls : Array Slot, lv_has ls maxL (lv_args 0 av) → W p l e rm s m av.toArray below meth c s.heap [] 0 0 (MQ below Qc av.toArray s 0 0 (fun _ => False)) (F0 m 0 ls [])) : Met l y ws rm (va_Pc av (fun U => gSt adK adV tN nA U U.heap)) Qc 0 0 (fun _ => False) := by
  refine Met.ofW (cc := cc) (maxL := maxL) (ret := ret) hy hw ?_
  intro p e s m args below meth c s₁ B hml hv
  obtain ⟨rfl, hG⟩ := hv
  have hl := lv_entry av (n := maxL) hn
  rw [lg_entry_eq]
  exact body p e s m below meth c ⟨B.exec, B.bytes, hml, findClass_of_methodNamed B.named, atoms_spec (ws := ws) B.pre⟩ B.returns B.notSynchronized hG va_S.rf _ hl
/-- with a world -/
def MTi (l : Launch) (y : MethodName) (ws : List Cond) (rm : Room) (D : va_G) (cA : Nat → ClassId) (adK adV : Nat → Nat) (tN : Nat) (av : List Value) (w : va_W) (r : Int32) : Prop := Met l y ws rm (va_Pc av (fun U => va_P D vwCl w U.heap ∧ gK D cA U ∧ gSt adK adV tN nA U U.heap)) (vp_Si (fun x => x = r)) 0 0 (fun _ => False)
abbrev gPreU (D : va_G) (cA : Nat → ClassId) (adK adV : Nat → Nat) (tN : Nat) (w : va_W) (sz : Nat) : State → Prop := fun U => U.heap.size = sz ∧ va_P D vwCl w U.heap ∧ gK D cA U ∧ va_D (fun _ => True) w ∧ gSt adK adV tN (va_A w sz) U U.heap
def MUi (l : Launch) (y : MethodName) (ws : List Cond) (rm : Room) (D : va_G) (cA : Nat → ClassId) (adK adV : Nat → Nat) (tN : Nat) (av : List Value) (w w2 : va_W) (r : Int32) : Prop := ∀ sz : Nat, Met l y ws rm (va_Pc av (gPreU D cA adK adV tN w sz)) (va_Qi (fun (x : Int32) (_ : Unit) => x = r) (gPost D (va_A w sz) w2) (va_A w sz)) 0 0 (va_A w sz)
theorem mT_blind : FrameBlind (va_Pc av (fun U => va_P D vwCl w U.heap ∧ gK D cA U ∧ gSt adK adV tN nA U U.heap)) := fun a U g mk q => ⟨q.1, q.2.1, gK.same (s := U) (U := U.calling g mk a) rfl q.2.2.1, gSt.same (s := U) (U := U.calling g mk a) (H := U.heap) rfl q.2.2.2⟩
theorem mU_blind {sz : Nat} : FrameBlind (va_Pc av (gPreU D cA adK adV tN w sz)) := fun a U g mk q => ⟨q.1, q.2.1, q.2.2.1, gK.same (s := U) (U := U.calling g mk a) rfl q.2.2.2.1, q.2.2.2.2.1, gSt.same (s := U) (U := U.calling g mk a) (H := U.heap) rfl q.2.2.2.2.2⟩
theorem mT_of {Qc : Array Value → State → Outcome → State → Prop} (hy : plainName y.cls = true) (hw : ws = Cond.code y cc maxL ret :: ws') (hn : (lg_sl av).length ≤ maxL)
    (body : ∀ (p : Program) (e : Env) (s : State) (m : MethodId) (below : List Frame) (meth : Method) (c : Code), CallFix p m c cc maxL s av.toArray ws y.cls → meth.sig.returnType = ret → meth.locks = false → gK D cA s → gSt adK adV tN nA s s.heap → va_P D vwCl w s.heap → ∀ ls : Array Slot, lv_has ls maxL (lv_args 0 av) → W p l e rm s m av.toArray below meth c s.heap [] 0 0 (MQ below Qc av.toArray s 0 0 (fun _ => False)) (F0 m 0 ls [])) : Met l y ws rm (va_Pc av (fun U => va_P D vwCl w U.heap ∧ gK D cA U ∧ gSt adK adV tN nA U U.heap)) Qc 0 0 (fun _ => False) := by
  refine Met.ofW (cc := cc) (maxL := maxL) (ret := ret) hy hw ?_
  intro p e s m args below meth c s₁ B hml hv
  obtain ⟨rfl, hP, hK, hG⟩ := hv
  have hl := lv_entry av (n := maxL) hn
  rw [lg_entry_eq]
  exact body p e s m below meth c ⟨B.exec, B.bytes, hml, findClass_of_methodNamed B.named, atoms_spec (ws := ws) B.pre⟩ B.returns B.notSynchronized hK hG hP _ hl
theorem mU_of {Qc : (Nat → Prop) → Array Value → State → Outcome → State → Prop} (hy : plainName y.cls = true) (hw : ws = Cond.code y cc maxL ret :: ws') (hn : (lg_sl av).length ≤ maxL)
    (body : ∀ (p : Program) (e : Env) (s : State) (m : MethodId) (below : List Frame) (meth : Method) (c : Code) (A : Nat → Prop), CallFix p m c cc maxL s av.toArray ws y.cls → meth.sig.returnType = ret → meth.locks = false → gK D cA s → gSt adK adV tN A s s.heap → (∀ q : Nat, s.heap.size ≤ q → A q) → va_P D vwCl w s.heap → va_D A w → va_S A s.heap s.heap [] → ∀ ls : Array Slot, lv_has ls maxL (lv_args 0 av) → W p l e rm s m av.toArray below meth c s.heap [] 0 0 (MQ below (Qc A) av.toArray s 0 0 A) (F0 m 0 ls [])) : ∀ sz : Nat, Met l y ws rm (va_Pc av (gPreU D cA adK adV tN w sz)) (Qc (va_A w sz)) 0 0 (va_A w sz) := by
  intro sz
  refine Met.ofW (cc := cc) (maxL := maxL) (ret := ret) hy hw ?_
  intro p e s m args below meth c s₁ B hml hv
  obtain ⟨rfl, hsz, hP, hK, hD0, hG⟩ := hv
  subst hsz
  have hl := lv_entry av (n := maxL) hn
  rw [lg_entry_eq]
  exact body p e s m below meth c (va_A w s.heap.size) ⟨B.exec, B.bytes, hml, findClass_of_methodNamed B.named, atoms_spec (ws := ws) B.pre⟩ B.returns B.notSynchronized hK hG (fun q h => Or.inr h) hP (hD0.self (sz := s.heap.size)) va_S.rf _ hl
end GST
section GSW
variable {p : Program} {l : Launch} {e : Env} {R : Room} {s : State} {m : MethodId} {args : Array Value} {below : List Frame} {meth : Method} {c : Code} {H : Heap} {locs : List Loc} {cells slots : Nat} {Q : State → Prop}
variable {cc : ByteArray} {nL pc : Nat} {Ts : List Cond} {own : String} {D : va_G} {cA : Nat → ClassId} {W0 w : va_W} {A : Nat → Prop} {ls : Array Slot} {rest As : List Value} {β : Type} {r : β} {adK adV : Nat → Nat} {tN : Nat}
theorem pre_SV {i : Nat} (hG : gSt adK adV tN A s s.heap) (hS : va_S A s.heap H locs) (hi : i < 4) : PreV s H "java/lang/String" (adK i) (va_Pc (.ref (adK i) :: As) (fun U => gSt adK adV tN nA U U.heap)) As :=
  ⟨mS_blind, vk_recv hG.1 hi hS, fun U hU hW => ⟨rfl, by show gSt adK adV tN nA U U.heap; rw [hU]; exact ((hG.kept hS.2.1).narrow (fun _ h => h.elim)).warm hW⟩⟩
theorem pre_SS (hG : gSt adK adV tN A s s.heap) (hS : va_S A s.heap H locs) : PreS s H (va_Pc As (fun U => gSt adK adV tN nA U U.heap)) As :=
  ⟨mS_blind, fun U hU hW => ⟨rfl, by show gSt adK adV tN nA U U.heap; rw [hU]; exact ((hG.kept hS.2.1).narrow (fun _ h => h.elim)).warm hW⟩⟩
theorem pre_TV {b ci q0 : Nat} {q : vw_C} {fs : List Value} (hG : gSt adK adV tN A s s.heap) (hS : va_S A s.heap H locs) (hK : gK D cA s) (hP : va_P D vwCl W0 H) (is : List Nat) (hw : is.map (fun i => W0[i]?) = w.map some) (hc : vwCl[ci]? = some q) (he : W0[q0]? = some (b, .inr (ci, fs))) : PreV s H q.1 b (va_Pc (.ref b :: As) (fun U => va_P D vwCl w U.heap ∧ gK D cA U ∧ gSt adK adV tN nA U U.heap)) As :=
  ⟨mT_blind, va_recv hK.1 hP hc he, fun U hU hW => ⟨rfl, by rw [hU]; exact hP.sub is (mMapF _ _ _ hw), hK.warm hW, by rw [hU]; exact ((hG.kept hS.2.1).narrow (fun _ h => h.elim)).warm hW⟩⟩
theorem pre_UV {b ci q0 : Nat} {q : vw_C} {fs : List Value} (hG : gSt adK adV tN A s s.heap) (hS : va_S A s.heap H locs) (hA : ∀ q : Nat, s.heap.size ≤ q → A q) (hK : gK D cA s) (hP : va_P D vwCl W0 H) (hD : va_D A W0) (is : List Nat) (hw : is.map (fun i => W0[i]?) = w.map some) (hnd : va_nd is = true) (hc : vwCl[ci]? = some q) (he : W0[q0]? = some (b, .inr (ci, fs))) : PreV s H q.1 b (va_Pc (.ref b :: As) (gPreU D cA adK adV tN w H.size)) As :=
  ⟨mU_blind, va_recv hK.1 hP hc he, fun U hU hW => ⟨rfl, by rw [hU], by rw [hU]; exact hP.sub is (mMapF _ _ _ hw), hK.warm hW, (hD.sub is hnd hw).weaken (fun _ _ _ _ => trivial), by rw [hU]; exact ((hG.kept hS.2.1).narrow (va_free (wc := w) hD hS hA is hw)).warm hW⟩⟩
def mCh {β : Type} (i : Nat) (a : Int32) (K : Int32 → Option β) : Option β := if a < 0 ∨ sLenL.getD i 0 ≤ a.toNatClampNeg then none else K (sCh i a.toNatClampNeg)
theorem mCh_use {β : Type} {i : Nat} {a : Int32} {K : Int32 → Option β} {r : β} (h : mCh i a K = some r) : vp_in a (sLenL.getD i 0) ∧ K (sCh i a.toNatClampNeg) = some r := by
  unfold mCh at h
  by_cases c : a < 0 ∨ sLenL.getD i 0 ≤ a.toNatClampNeg
  · rw [if_pos c] at h; cases h
  · rw [if_neg c] at h; exact ⟨c, h⟩
theorem mi_num (S : CallFix p m c cc nL s args Ts own) (hG : gSt adK adV tN A s s.heap) (hS : va_S A s.heap H locs) {i : Int32} {K : Int32 → Option β} (h : mRd (fun j => sNumL.getD j 0) 4 i K = some r) (hdg : decode cc pc = .ok (.iaload, 1))
    (kk : ∀ x : Int32, K x = some r → W p l e R s m args below meth c H locs cells slots Q (F0 m (pc + 1) ls (.int x :: rest))) : W p l e R s m args below meth c H locs cells slots Q (F0 m pc ls (.int i :: .ref tN :: rest)) :=
  va_ti S.1 S.2.1 hG.2.2.2.2.1 hS (mRd_use h).1 rfl hdg (kk _ (mRd_use h).2)
end GSW
-- the JDK's methods
theorem jl1 : Cond.fieldLink RJ0 38 "java/lang/String" "COMPACT_STRINGS" "Z" ∈ wsJ0_coder_7d493 := by decide +kernel
theorem jl2 : Cond.fieldLink RJ0 15 "java/lang/String" "coder" "B" ∈ wsJ0_coder_7d493 := by decide +kernel
theorem jl3 : Cond.fieldLink RJ0 38 "java/lang/String" "COMPACT_STRINGS" "Z" ∈ wsJ0_isLatin1_aae02 := by decide +kernel
theorem jl4 : Cond.fieldLink RJ0 15 "java/lang/String" "coder" "B" ∈ wsJ0_isLatin1_aae02 := by decide +kernel
theorem jl5 : Cond.fieldLink RJ0 9 "java/lang/String" "value" "[B" ∈ wsJ0_length_8abf5 := by decide +kernel
theorem jl6 : Cond.fieldLink RJ0 9 "java/lang/String" "value" "[B" ∈ wsJ0_charAt_5068e := by decide +kernel
theorem jl7 : Cond.fieldLink RJ0 1053 "jdk/internal/util/Preconditions" "SIOOBE_FORMATTER" "Ljava/util/function/BiFunction;" ∈ wsJ0_checkIndex_df160 := by decide +kernel
set_option maxHeartbeats 4000000 in
set_option maxRecDepth 100000 in
theorem c_coder (l : Launch) (adK adV : Nat → Nat) (tN i : Nat) (hi : i < 4) : MSi l yJ0_coder_7d493 wsJ0_coder_7d493 { frames := 0, cells := 0, slots := 0, locals := 0 } adK adV tN [.ref (adK i)] 0 := by
  refine mS_of (cc := cJ0_coder_7d493) (maxL := 1) (ret := some .byte) (by decide) rfl (Nat.le_of_ble_eq_true rfl) ?_
  intro p e s m below meth c S hr hlk hG hS ls hl
  refine va_gets S.1 S.2.1 hG.2.1 hS S.2.2.2.1 (S.2.2.2.2 _ jl1) (fun _ h => h) dJ0_coder_7d493_0 ?_
  refine lv_if_eq (tgt := 13) S.1 S.2.1 dJ0_coder_7d493_3 (by decide) (fun q => absurd q (by decide)) (fun _ => ?_)
  refine lv_aload_n S.1 S.2.1 dJ0_coder_7d493_6 rfl (lv_at hl 0 rfl) ?_
  refine vk_getf S.1 S.2.1 (hG.1.1 i hi).2.1 hS S.2.2.2.1 (S.2.2.2.2 _ jl2) (fun _ h => h) dJ0_coder_7d493_7 ?_
  refine lv_goto (tgt := 14) S.1 S.2.1 dJ0_coder_7d493_10 (by decide) ?_
  exact W.zret S.1 S.2.1 hr rfl (fun t ht _ => ⟨0, rfl, rfl, ht⟩) (fun q hq => by cases hq) dJ0_coder_7d493_14 hlk
set_option maxHeartbeats 4000000 in
set_option maxRecDepth 100000 in
theorem c_isLatin1 (l : Launch) (adK adV : Nat → Nat) (tN i : Nat) (hi : i < 4) : MSi l yJ0_isLatin1_aae02 wsJ0_isLatin1_aae02 { frames := 0, cells := 0, slots := 0, locals := 0 } adK adV tN [.ref (adK i)] 1 := by
  refine mS_of (cc := cJ0_isLatin1_aae02) (maxL := 1) (ret := some .boolean) (by decide) rfl (Nat.le_of_ble_eq_true rfl) ?_
  intro p e s m below meth c S hr hlk hG hS ls hl
  refine va_gets S.1 S.2.1 hG.2.1 hS S.2.2.2.1 (S.2.2.2.2 _ jl3) (fun _ h => h) dJ0_isLatin1_aae02_0 ?_
  refine lv_if_eq (tgt := 17) S.1 S.2.1 dJ0_isLatin1_aae02_3 (by decide) (fun q => absurd q (by decide)) (fun _ => ?_)
  refine lv_aload_n S.1 S.2.1 dJ0_isLatin1_aae02_6 rfl (lv_at hl 0 rfl) ?_
  refine vk_getf S.1 S.2.1 (hG.1.1 i hi).2.1 hS S.2.2.2.1 (S.2.2.2.2 _ jl4) (fun _ h => h) dJ0_isLatin1_aae02_7 ?_
  refine lv_if_ne (tgt := 17) S.1 S.2.1 dJ0_isLatin1_aae02_10 (by decide) (fun q => absurd rfl q) (fun _ => ?_)
  refine lv_iconst (v := (1 : Int32)) S.1 S.2.1 dJ0_isLatin1_aae02_13 (by decide) ?_
  refine lv_goto (tgt := 18) S.1 S.2.1 dJ0_isLatin1_aae02_14 (by decide) ?_
  exact W.zret S.1 S.2.1 hr rfl (fun t ht _ => ⟨1, rfl, rfl, ht⟩) (fun q hq => by cases hq) dJ0_isLatin1_aae02_18 hlk
theorem sLn_shr : ∀ i, i < 4 → Int32.ofNat (sLenL.getD i 0) >>> ((0 : Int32) &&& 31) = sLn i := by decide
set_option maxHeartbeats 4000000 in
set_option maxRecDepth 100000 in
theorem c_slen (l : Launch) (adK adV : Nat → Nat) (tN i : Nat) (hi : i < 4) : MSi l yJ0_length_8abf5 wsJ0_length_8abf5 { frames := 1, cells := 0, slots := 0, locals := 20 } adK adV tN [.ref (adK i)] (sLn i) := by
  refine mS_of (cc := cJ0_length_8abf5) (maxL := 1) (ret := some .int) (by decide) rfl (Nat.le_of_ble_eq_true rfl) ?_
  intro p e s m below meth c S hr hlk hG hS ls hl
  refine lv_aload_n S.1 S.2.1 dJ0_length_8abf5_0 rfl (lv_at hl 0 rfl) ?_
  refine vk_getf S.1 S.2.1 (hG.1.1 i hi).2.2.1 hS S.2.2.2.1 (S.2.2.2.2 _ jl5) (fun _ h => h) dJ0_length_8abf5_1 ?_
  refine va_tlen S.1 S.2.1 (hG.1.1 i hi).2.2.2 hS (v := Int32.ofNat (sLenL.getD i 0)) rfl dJ0_length_8abf5_4 ?_
  refine lv_aload_n S.1 S.2.1 dJ0_length_8abf5_5 rfl (lv_at hl 0 rfl) ?_
  refine mc_Pi (va_runV (As := []) (rest := [.int (Int32.ofNat (sLenL.getD i 0))]) S (c_coder l adK adV tN i hi) (cwV 0 S.2.2.2.2 gJ0_length_8abf5_J0_coder_7d493 rfl rfl rfl (by decide +kernel) ⟨Nat.le_of_ble_eq_true rfl, Nat.le_of_ble_eq_true rfl⟩) (pre_SV hG hS hi) rfl rfl hl.1 rfl (lv_room (Nat.le_of_ble_eq_true rfl)) dJ0_length_8abf5_6 ⟨Nat.le_of_ble_eq_true rfl, Nat.le_of_ble_eq_true rfl⟩) ?_
  refine lv_ishr S.1 S.2.1 dJ0_length_8abf5_9 ?_
  exact mi_iretP S hr hlk (sLn_shr i hi) dJ0_length_8abf5_10
set_option maxHeartbeats 4000000 in
set_option maxRecDepth 100000 in
theorem c_chk3 (l : Launch) (adK adV : Nat → Nat) (tN : Nat) (a b : Int32) (v : Value) (hv : v.category = 1) (h0 : ¬ a < 0) (h1 : a < b) : MSi l yJ3_checkIndex_8e157 wsJ3_checkIndex_8e157 { frames := 0, cells := 0, slots := 0, locals := 0 } adK adV tN [.int a, .int b, v] a := by
  refine mS_of (cc := cJ3_checkIndex_8e157) (maxL := 3) (ret := some .int) (by decide) rfl (by cases v <;> first | exact Nat.le_of_ble_eq_true rfl | cases hv) ?_
  intro p e s m below meth c S hr hlk hG hS ls hl
  refine lv_iload_n S.1 S.2.1 dJ3_checkIndex_8e157_0 rfl (lv_at hl 0 rfl) ?_
  refine lv_if_lt (tgt := 9) S.1 S.2.1 dJ3_checkIndex_8e157_1 (by decide) (fun q => absurd q h0) (fun _ => ?_)
  refine lv_iload_n S.1 S.2.1 dJ3_checkIndex_8e157_4 rfl (lv_at hl 0 rfl) ?_
  refine lv_iload_n S.1 S.2.1 dJ3_checkIndex_8e157_5 rfl (lv_at hl 1 rfl) ?_
  refine lv_icmp_lt (tgt := 16) S.1 S.2.1 dJ3_checkIndex_8e157_6 (by decide) (fun _ => ?_) (fun q => absurd h1 q)
  refine lv_iload_n S.1 S.2.1 dJ3_checkIndex_8e157_16 rfl (lv_at hl 0 rfl) ?_
  exact mi_iretP S hr hlk rfl dJ3_checkIndex_8e157_17
set_option maxHeartbeats 4000000 in
set_option maxRecDepth 100000 in
theorem c_chk0 (l : Launch) (adK adV : Nat → Nat) (tN : Nat) (a b : Int32) (h0 : ¬ a < 0) (h1 : a < b) : MSv l yJ0_checkIndex_df160 wsJ0_checkIndex_df160 { frames := 1, cells := 0, slots := 0, locals := 22 } adK adV tN [.int a, .int b] := by
  refine mS_of (cc := cJ0_checkIndex_df160) (maxL := 2) (ret := none) (by decide) rfl (Nat.le_of_ble_eq_true rfl) ?_
  intro p e s m below meth c S hr hlk hG hS ls hl
  refine lv_iload_n S.1 S.2.1 dJ0_checkIndex_df160_0 rfl (lv_at hl 0 rfl) ?_
  refine lv_iload_n S.1 S.2.1 dJ0_checkIndex_df160_1 rfl (lv_at hl 1 rfl) ?_
  have step : ∀ v : Value, v.category = 1 → W p l e { frames := 1, cells := 0, slots := 0, locals := 22 } s m [Value.int a, Value.int b].toArray below meth c s.heap [] 0 0 (MQ below (va_Sv (fun _ => True)) [Value.int a, Value.int b].toArray s 0 0 (fun _ => False)) (F0 m 5 ls [v, .int b, .int a]) := by
    intro v hv
    refine mc_Pi (va_runS (As := [.int a, .int b, v]) (rest := []) S (c_chk3 l adK adV tN a b v hv h0 h1) (va_cwS 3 S.2.2.2.2 gJ0_checkIndex_df160_J3_checkIndex_8e157 rfl rfl rfl (by decide +kernel) ⟨Nat.le_of_ble_eq_true rfl, Nat.le_of_ble_eq_true rfl⟩) (pre_SS hG hS) rfl rfl hl.1 rfl (lv_room (Nat.le_of_ble_eq_true rfl)) dJ0_checkIndex_df160_5 ⟨Nat.le_of_ble_eq_true rfl, Nat.le_of_ble_eq_true rfl⟩) ?_
    refine lv_pop S.1 S.2.1 dJ0_checkIndex_df160_8 rfl ?_
    exact W.vret S.1 S.2.1 hr (fun t ht _ => ⟨rfl, trivial, ht⟩) (fun q hq => by cases hq) dJ0_checkIndex_df160_9 hlk
  rcases hG.2.2.1 with hz | ⟨t, hz⟩
  · refine va_gets S.1 S.2.1 hz hS S.2.2.2.1 (S.2.2.2.2 _ jl7) (fun _ h => h) dJ0_checkIndex_df160_2 ?_
    exact step .null rfl
  · refine va_gets S.1 S.2.1 hz hS S.2.2.2.1 (S.2.2.2.2 _ jl7) (fun _ h => h) dJ0_checkIndex_df160_2 ?_
    exact step (.ref t) rfl
theorem sCh_ok : ∀ i, i < 4 → ∀ j, j < sLenL.getD i 0 → ((sCh i j &&& 255).toUInt32 % 65536).toInt32 = sCh i j ∧ narrow .char (.int (sCh i j)) = .int (sCh i j) := by decide
theorem sLen_small : ∀ i, i < 4 → sLenL.getD i 0 < 2147483648 := by decide
set_option maxHeartbeats 4000000 in
set_option maxRecDepth 100000 in
theorem c_char1 (l : Launch) (adK adV : Nat → Nat) (tN i : Nat) (hi : i < 4) (a : Int32) (ha : vp_in a (sLenL.getD i 0)) : MSi l yJ1_charAt_3b067 wsJ1_charAt_3b067 { frames := 2, cells := 0, slots := 0, locals := 43 } adK adV tN [.ref (adV i), .int a] (sCh i a.toNatClampNeg) := by
  have hlt : a.toNatClampNeg < sLenL.getD i 0 := Nat.not_le.mp fun q => ha (Or.inr q)
  have h0 : ¬ a < 0 := fun q => ha (Or.inl q)
  have h1 : a < Int32.ofNat (sLenL.getD i 0) := by
    obtain ⟨j, hj, e⟩ := vp_in_of ha (sLen_small i hi)
    rw [e]
    exact nI_lt hj (sLen_small i hi)
  refine mS_of (cc := cJ1_charAt_3b067) (maxL := 2) (ret := some .char) (by decide) rfl (Nat.le_of_ble_eq_true rfl) ?_
  intro p e s m below meth c S hr hlk hG hS ls hl
  refine lv_iload_n S.1 S.2.1 dJ1_charAt_3b067_0 rfl (lv_at hl 1 rfl) ?_
  refine lv_aload_n S.1 S.2.1 dJ1_charAt_3b067_1 rfl (lv_at hl 0 rfl) ?_
  refine va_tlen S.1 S.2.1 (hG.1.1 i hi).2.2.2 hS (v := Int32.ofNat (sLenL.getD i 0)) rfl dJ1_charAt_3b067_2 ?_
  refine va_csv (va_runS (As := [.int a, .int (Int32.ofNat (sLenL.getD i 0))]) (rest := []) S (c_chk0 l adK adV tN a (Int32.ofNat (sLenL.getD i 0)) h0 h1) (va_cwS 2 S.2.2.2.2 gJ1_charAt_3b067_J0_checkIndex_df160 rfl rfl rfl (by decide +kernel) ⟨Nat.le_of_ble_eq_true rfl, Nat.le_of_ble_eq_true rfl⟩) (pre_SS hG hS) rfl rfl hl.1 rfl (lv_room (Nat.le_of_ble_eq_true rfl)) dJ1_charAt_3b067_3 ⟨Nat.le_of_ble_eq_true rfl, Nat.le_of_ble_eq_true rfl⟩).run (fun _ => ?_)
  refine lv_aload_n S.1 S.2.1 dJ1_charAt_3b067_6 rfl (lv_at hl 0 rfl) ?_
  refine lv_iload_n S.1 S.2.1 dJ1_charAt_3b067_7 rfl (lv_at hl 1 rfl) ?_
  refine va_tb S.1 S.2.1 (hG.1.1 i hi).2.2.2 hS ha (v := .int (sCh i a.toNatClampNeg)) rfl dJ1_charAt_3b067_8 ?_
  refine lv_sipush (v := (255 : Int32)) S.1 S.2.1 dJ1_charAt_3b067_9 (by decide) ?_
  refine lv_iand S.1 S.2.1 dJ1_charAt_3b067_12 ?_
  refine lv_i2c S.1 S.2.1 dJ1_charAt_3b067_13 (sCh_ok i hi _ hlt).1 ?_
  exact W.zret S.1 S.2.1 hr (sCh_ok i hi _ hlt).2 (fun t ht _ => ⟨_, rfl, rfl, ht⟩) (fun q hq => by cases hq) dJ1_charAt_3b067_14 hlk
set_option maxHeartbeats 4000000 in
set_option maxRecDepth 100000 in
theorem c_schar (l : Launch) (adK adV : Nat → Nat) (tN i : Nat) (hi : i < 4) (a : Int32) (ha : vp_in a (sLenL.getD i 0)) : MSi l yJ0_charAt_5068e wsJ0_charAt_5068e { frames := 3, cells := 0, slots := 0, locals := 64 } adK adV tN [.ref (adK i), .int a] (sCh i a.toNatClampNeg) := by
  have hlt : a.toNatClampNeg < sLenL.getD i 0 := Nat.not_le.mp fun q => ha (Or.inr q)
  refine mS_of (cc := cJ0_charAt_5068e) (maxL := 2) (ret := some .char) (by decide) rfl (Nat.le_of_ble_eq_true rfl) ?_
  intro p e s m below meth c S hr hlk hG hS ls hl
  refine lv_aload_n S.1 S.2.1 dJ0_charAt_5068e_0 rfl (lv_at hl 0 rfl) ?_
  refine mc_Pi (va_runV (As := []) (rest := []) S (c_isLatin1 l adK adV tN i hi) (cwV 0 S.2.2.2.2 gJ0_charAt_5068e_J0_isLatin1_aae02 rfl rfl rfl (by decide +kernel) ⟨Nat.le_of_ble_eq_true rfl, Nat.le_of_ble_eq_true rfl⟩) (pre_SV hG hS hi) rfl rfl hl.1 rfl (lv_room (Nat.le_of_ble_eq_true rfl)) dJ0_charAt_5068e_1 ⟨Nat.le_of_ble_eq_true rfl, Nat.le_of_ble_eq_true rfl⟩) ?_
  refine lv_if_eq (tgt := 16) S.1 S.2.1 dJ0_charAt_5068e_4 (by decide) (fun q => absurd q (by decide)) (fun _ => ?_)
  refine lv_aload_n S.1 S.2.1 dJ0_charAt_5068e_7 rfl (lv_at hl 0 rfl) ?_
  refine vk_getf S.1 S.2.1 (hG.1.1 i hi).2.2.1 hS S.2.2.2.1 (S.2.2.2.2 _ jl6) (fun _ h => h) dJ0_charAt_5068e_8 ?_
  refine lv_iload_n S.1 S.2.1 dJ0_charAt_5068e_11 rfl (lv_at hl 1 rfl) ?_
  refine mc_Pi (va_runS (As := [.ref (adV i), .int a]) (rest := []) S (c_char1 l adK adV tN i hi a ha) (va_cwS 2 S.2.2.2.2 gJ0_charAt_5068e_J1_charAt_3b067 rfl rfl rfl (by decide +kernel) ⟨Nat.le_of_ble_eq_true rfl, Nat.le_of_ble_eq_true rfl⟩) (pre_SS hG hS) rfl rfl hl.1 rfl (lv_room (Nat.le_of_ble_eq_true rfl)) dJ0_charAt_5068e_12 ⟨Nat.le_of_ble_eq_true rfl, Nat.le_of_ble_eq_true rfl⟩) ?_
  exact W.zret S.1 S.2.1 hr (sCh_ok i hi _ hlt).2 (fun t ht _ => ⟨_, rfl, rfl, ht⟩) (fun q hq => by cases hq) dJ0_charAt_5068e_15 hlk
theorem c_slenA (l : Launch) (adK adV : Nat → Nat) (tN i : Nat) (hi : i < 4) (a : Nat) (ha : a = adK i) : MSi l yJ0_length_8abf5 wsJ0_length_8abf5 { frames := 1, cells := 0, slots := 0, locals := 20 } adK adV tN [.ref a] (sLn i) := by
  subst ha
  exact c_slen l adK adV tN i hi
theorem c_scharA (l : Launch) (adK adV : Nat → Nat) (tN i : Nat) (hi : i < 4) (a : Nat) (ha : a = adK i) (x z : Int32) (hx : vp_in x (sLenL.getD i 0)) (hz : z = sCh i x.toNatClampNeg) : MSi l yJ0_charAt_5068e wsJ0_charAt_5068e { frames := 3, cells := 0, slots := 0, locals := 64 } adK adV tN [.ref a, .int x] z := by
  subst ha
  subst hz
  exact c_schar l adK adV tN i hi x hx
theorem pre_SVA {s : State} {H : Heap} {locs : List Loc} {A : Nat → Prop} {As : List Value} {adK adV : Nat → Nat} {tN a i : Nat} (hG : gSt adK adV tN A s s.heap) (hS : va_S A s.heap H locs) (hi : i < 4) (ha : a = adK i) : PreV s H "java/lang/String" a (va_Pc (.ref a :: As) (fun U => gSt adK adV tN nA U U.heap)) As := by
  subst ha
  exact pre_SV hG hS hi
