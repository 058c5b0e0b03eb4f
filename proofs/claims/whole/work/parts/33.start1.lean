theorem lw_n1X11 : Cond.classLink RL 7 RX11 ∈ wsL_law := by decide +kernel
theorem lw_n2X11 : Cond.instantiable RX11 12 ∈ wsL_law := by decide +kernel
theorem lw_n3X11 : Cond.initialized RX11 ∈ wsL_law := by decide +kernel
theorem lw_n4X11 : Cond.methodLink RL 9 yX11_init ∈ wsL_law := by decide +kernel
theorem lw_n5X11 : Cond.instanceMethod yX11_init ∈ wsL_law := by decide +kernel
theorem lw_n1X12 : Cond.classLink RL 10 RX12 ∈ wsL_law := by decide +kernel
theorem lw_n2X12 : Cond.instantiable RX12 25 ∈ wsL_law := by decide +kernel
theorem lw_n3X12 : Cond.initialized RX12 ∈ wsL_law := by decide +kernel
theorem lw_n4X12 : Cond.methodLink RL 12 yX12_init ∈ wsL_law := by decide +kernel
theorem lw_n5X12 : Cond.instanceMethod yX12_init ∈ wsL_law := by decide +kernel
theorem st_iX0 : Cond.instantiable RX0 0 ∈ lw_tbl := by decide +kernel
theorem st_iX1 : Cond.instantiable RX1 0 ∈ lw_tbl := by decide +kernel
theorem st_iX2 : Cond.instantiable RX2 6 ∈ lw_tbl := by decide +kernel
theorem st_iX3 : Cond.instantiable RX3 0 ∈ lw_tbl := by decide +kernel
theorem st_iX4 : Cond.instantiable RX4 13 ∈ lw_tbl := by decide +kernel
theorem st_iX5 : Cond.instantiable RX5 0 ∈ lw_tbl := by decide +kernel
theorem st_iX6 : Cond.instantiable RX6 11 ∈ lw_tbl := by decide +kernel
theorem st_iX7 : Cond.instantiable RX7 0 ∈ lw_tbl := by decide +kernel
theorem st_iX8 : Cond.instantiable RX8 0 ∈ lw_tbl := by decide +kernel
theorem st_iX9 : Cond.instantiable RX9 3 ∈ lw_tbl := by decide +kernel
theorem st_iX10 : Cond.instantiable RX10 6 ∈ lw_tbl := by decide +kernel
theorem st_iX11 : Cond.instantiable RX11 12 ∈ lw_tbl := by decide +kernel
theorem st_iX12 : Cond.instantiable RX12 25 ∈ lw_tbl := by decide +kernel
theorem st_nest : ∀ q ∈ nestL, Cond.methodLinkNest q.1 q.2.1 q.2.2.1 q.2.2.2 ∈ lw_tbl := by decide +kernel
theorem st_extra : ∀ w ∈ extraW, w ∈ lw_tbl := by decide +kernel
theorem st_aI : Cond.arrayClass .int ∈ lw_tbl := by decide +kernel
theorem st_aB : Cond.arrayClass .byte ∈ lw_tbl := by decide +kernel
theorem st_aJ : Cond.arrayClass .long ∈ lw_tbl := by decide +kernel
theorem st_aZ : Cond.arrayClass .boolean ∈ lw_tbl := by decide +kernel
theorem st_oP : Cond.arrayOver (.object "CoalWood$Plain") ∈ lw_tbl := by decide +kernel
theorem st_oQ : Cond.arrayOver (.object "CoalWood$Pit") ∈ lw_tbl := by decide +kernel
theorem st_ca : ∀ C ∈ ["CoalWood$Back", "CoalWood$Slack", "CoalWood$Damp", "CoalWood$Cannel", "CoalWood$Spit"], Cond.castable C "CoalWood$Plain" ∈ lw_tbl := by decide +kernel
theorem st_gX {args : Array Value} {s : State} (hts : ∀ w ∈ lw_tbl, w.before args s = true) : gX s := ⟨va_AO.of (hts _ st_oP), va_AO.of (hts _ st_oQ), fun C hC => va_Nw.of rfl (hts _ (st_ca C hC))⟩
theorem st_arr {args : Array Value} {s : State} {ty : FieldType} (h : (Cond.arrayClass ty).before args s = true) (hp : ∀ c : ClassId, s.vm.findClass ("[" ++ ty.toString) = some c → va_RA s c ty) : ∃ cX : ClassId, ArrOfT s cX ty ∧ va_RA s cX ty := by
  obtain ⟨c, k, comp, h1, h2, h3⟩ := Cond.arrayClass_spec h
  exact ⟨c, fun n z => ⟨fun k h => (by cases h), k, h2, comp, h3⟩, hp c h1⟩
theorem st_arrO {s : State} {C : String} (h : va_AO C s) : ∃ cX : ClassId, ArrOfT s cX (.object C) ∧ va_RA s cX (.object C) := by
  obtain ⟨comp, c, k, h1, h2, h3, h4, h5⟩ := Cond.arrayOver_spec h
  exact ⟨c, fun n z => ⟨fun k h => (by cases h), k, h3, comp, h4⟩, k, comp, h3, h4, h1, h5⟩
set_option maxHeartbeats 8000000 in
set_option maxRecDepth 100000 in
theorem st_gK {args : Array Value} {s : State} (hts : ∀ w ∈ lw_tbl, w.before args s = true) : ∃ (D : va_G) (cA : Nat → ClassId), gK D cA s := by
  obtain ⟨c0, i0, k0⟩ := u_known (C := RX0) (T := TX0) (N := 0) (n := 0) hts inX0 (hts _ st_iX0)
  obtain ⟨c1, i1, k1⟩ := u_known (C := RX1) (T := TX1) (N := 0) (n := 0) hts inX1 (hts _ st_iX1)
  obtain ⟨c2, i2, k2⟩ := u_known (C := RX2) (T := TX2) (N := 6) (n := 6) hts inX2 (hts _ st_iX2)
  obtain ⟨c3, i3, k3⟩ := u_known (C := RX3) (T := TX3) (N := 0) (n := 0) hts inX3 (hts _ st_iX3)
  obtain ⟨c4, i4, k4⟩ := u_known (C := RX4) (T := TX4) (N := 13) (n := 13) hts inX4 (hts _ st_iX4)
  obtain ⟨c5, i5, k5⟩ := u_known (C := RX5) (T := TX5) (N := 0) (n := 0) hts inX5 (hts _ st_iX5)
  obtain ⟨c6, i6, k6⟩ := u_known (C := RX6) (T := TX6) (N := 11) (n := 11) hts inX6 (hts _ st_iX6)
  obtain ⟨c7, i7, k7⟩ := u_known (C := RX7) (T := TX7) (N := 0) (n := 0) hts inX7 (hts _ st_iX7)
  obtain ⟨c8, i8, k8⟩ := u_known (C := RX8) (T := TX8) (N := 0) (n := 0) hts inX8 (hts _ st_iX8)
  obtain ⟨c9, i9, k9⟩ := u_known (C := RX9) (T := TX9) (N := 3) (n := 3) hts inX9 (hts _ st_iX9)
  obtain ⟨c10, i10, k10⟩ := u_known (C := RX10) (T := TX10) (N := 6) (n := 6) hts inX10 (hts _ st_iX10)
  obtain ⟨c11, i11, k11⟩ := u_known (C := RX11) (T := TX11) (N := 12) (n := 12) hts inX11 (hts _ st_iX11)
  obtain ⟨c12, i12, k12⟩ := u_known (C := RX12) (T := TX12) (N := 25) (n := 25) hts inX12 (hts _ st_iX12)
  obtain ⟨a0, b0⟩ := st_arr (hts _ st_aI) (fun c h => h)
  obtain ⟨a1, b1⟩ := st_arr (hts _ st_aB) (fun c h => h)
  obtain ⟨a2, b2⟩ := st_arr (hts _ st_aJ) (fun c h => h)
  obtain ⟨a3, b3⟩ := st_arr (hts _ st_aZ) (fun c h => h)
  obtain ⟨a4, b4⟩ := st_arrO (C := "CoalWood$Pit") (va_AO.of (hts _ st_oQ))
  obtain ⟨a5, b5⟩ := st_arrO (C := "CoalWood$Plain") (va_AO.of (hts _ st_oP))
  refine ⟨(fun k => match k with | 0 => c0 | 1 => c1 | 2 => c2 | 3 => c3 | 4 => c4 | 5 => c5 | 6 => c6 | 7 => c7 | 8 => c8 | 9 => c9 | 10 => c10 | 11 => c11 | _ => c12, fun k => match k with | 0 => i0 | 1 => i1 | 2 => i2 | 3 => i3 | 4 => i4 | 5 => i5 | 6 => i6 | 7 => i7 | 8 => i8 | 9 => i9 | 10 => i10 | 11 => i11 | _ => i12), fun k => match k with | 0 => a0 | 1 => a1 | 2 => a2 | 3 => a3 | 4 => a4 | _ => a5, ⟨fun k q hq => ?_, fun k q hq => ?_⟩, fun q hq => va_Nw.of rfl (hts _ (st_nest q hq)), fun w hw => va_Nw.of (by have := extraW_ok w hw; simp only [Bool.and_eq_true] at this; exact this.1) (hts _ (st_extra w hw))⟩
  · match k, hq with
    | 0, hq => cases hq; exact k0
    | 1, hq => cases hq; exact k1
    | 2, hq => cases hq; exact k2
    | 3, hq => cases hq; exact k3
    | 4, hq => cases hq; exact k4
    | 5, hq => cases hq; exact k5
    | 6, hq => cases hq; exact k6
    | 7, hq => cases hq; exact k7
    | 8, hq => cases hq; exact k8
    | 9, hq => cases hq; exact k9
    | 10, hq => cases hq; exact k10
    | 11, hq => cases hq; exact k11
    | 12, hq => cases hq; exact k12
    | k + 13, hq => simp [vwCl] at hq
  · match k, hq with
    | 0, hq => cases hq; exact b0
    | 1, hq => cases hq; exact b1
    | 2, hq => cases hq; exact b2
    | 3, hq => cases hq; exact b3
    | 4, hq => cases hq; exact b4
    | 5, hq => cases hq; exact b5
    | k + 6, hq => simp [gT] at hq

theorem st_l1 : Cond.laysStatic "java/lang/String" "COMPACT_STRINGS" "Z" ∈ lw_tbl := by decide +kernel
theorem st_l2 : Cond.laysStatic "jdk/internal/util/Preconditions" "SIOOBE_FORMATTER" "Ljava/util/function/BiFunction;" ∈ lw_tbl := by decide +kernel
theorem st_l3 : Cond.laysStatic "CoalWood$Text" "NUMBERS" "[I" ∈ lw_tbl := by decide +kernel
theorem st_l4 : Cond.initialized "java/lang/String" ∈ lw_tbl := by decide +kernel
theorem st_l5 : Cond.initialized "jdk/internal/util/Preconditions" ∈ lw_tbl := by decide +kernel
theorem st_l6 : Cond.initialized "CoalWood$Text" ∈ lw_tbl := by decide +kernel
theorem st_sr : ∀ q ∈ sRefL, Cond.stringRef "CoalWood$Text" q.1 q.2.1 ∈ lw_tbl := by decide +kernel
def sTm (i : Nat) : Term := .string "CoalWood$Text" (([83, 89, 91, 93] : List Nat).getD i 0)

theorem vk_Rof {k a b : Nat} {tx : String} {s : State} (h : (Cond.stringRef "CoalWood$Text" k tx).before #[Value.ref b] s = true) (he : (Term.string "CoalWood$Text" k).eval #[Value.ref b] s none [] s = some (.ref a)) : vk_R "CoalWood$Text" k tx a s := vk_R.of h he
set_option maxHeartbeats 8000000 in
set_option maxRecDepth 100000 in
theorem st_gSt {s : State} {b : Nat} (hts : ∀ w ∈ lw_tbl, w.before #[Value.ref b] s = true) (hgv : (Jvm.Cond.and given_1 narrow_1).before #[Value.ref b] s = true) : ∃ (adK adV : Nat → Nat) (tN : Nat), gSt adK adV tN (fun q : Nat => s.heap.size ≤ q) s s.heap := by
  have hs := flat_of_before _ hgv
  have hA : ∀ a : Nat, a < s.heap.size → ¬ (fun q : Nat => s.heap.size ≤ q) a := fun a h => Nat.not_le.mpr h
  have hne : ∀ i j : Nat, i < 4 → j < 4 → i ≠ j → (Cond.not (Cond.eq (sTm i) (sTm j))).before #[Value.ref b] s = true ∨ (Cond.not (Cond.eq (sTm j) (sTm i))).before #[Value.ref b] s = true := by
    intro i j hi hj hne
    match i, j, hi, hj, hne with
    | 0, 0, _, _, h => exact absurd rfl h
    | 0, 1, _, _, _ => exact Or.inl (hs _ (by decide +kernel))
    | 0, 2, _, _, _ => exact Or.inl (hs _ (by decide +kernel))
    | 0, 3, _, _, _ => exact Or.inl (hs _ (by decide +kernel))
    | 1, 0, _, _, _ => exact Or.inr (hs _ (by decide +kernel))
    | 1, 1, _, _, h => exact absurd rfl h
    | 1, 2, _, _, _ => exact Or.inl (hs _ (by decide +kernel))
    | 1, 3, _, _, _ => exact Or.inl (hs _ (by decide +kernel))
    | 2, 0, _, _, _ => exact Or.inr (hs _ (by decide +kernel))
    | 2, 1, _, _, _ => exact Or.inr (hs _ (by decide +kernel))
    | 2, 2, _, _, h => exact absurd rfl h
    | 2, 3, _, _, _ => exact Or.inl (hs _ (by decide +kernel))
    | 3, 0, _, _, _ => exact Or.inr (hs _ (by decide +kernel))
    | 3, 1, _, _, _ => exact Or.inr (hs _ (by decide +kernel))
    | 3, 2, _, _, _ => exact Or.inr (hs _ (by decide +kernel))
    | 3, 3, _, _, h => exact absurd rfl h
    | i + 4, _, hi, _, _ => exact absurd hi (by omega)
    | _, j + 4, _, hj, _ => exact absurd hj (by omega)
  obtain ⟨adK, adV, hk, hev⟩ := vk_Sof (N := 4) (tm := sTm) (len := sLenL) (byt := sBytL) (A := fun q : Nat => s.heap.size ≤ q) (args := #[Value.ref b]) (s := s) (fun i hi => match i, hi with | 0, _ => by decide | 1, _ => by decide | 2, _ => by decide | 3, _ => by decide | i + 4, hi => absurd hi (by omega)) (fun i hi => match i, hi with | 0, _ => hs _ (by decide +kernel) | 1, _ => hs _ (by decide +kernel) | 2, _ => hs _ (by decide +kernel) | 3, _ => hs _ (by decide +kernel) | i + 4, hi => absurd hi (by omega)) (fun i hi => match i, hi with | 0, _ => hs _ (by decide +kernel) | 1, _ => hs _ (by decide +kernel) | 2, _ => hs _ (by decide +kernel) | 3, _ => hs _ (by decide +kernel) | i + 4, hi => absurd hi (by omega)) (fun i hi => match i, hi with | 0, _ => hs _ (by decide +kernel) | 1, _ => hs _ (by decide +kernel) | 2, _ => hs _ (by decide +kernel) | 3, _ => hs _ (by decide +kernel) | i + 4, hi => absurd hi (by omega)) (fun i hi => match i, hi with | 0, _ => hs _ (by decide +kernel) | 1, _ => hs _ (by decide +kernel) | 2, _ => hs _ (by decide +kernel) | 3, _ => hs _ (by decide +kernel) | i + 4, hi => absurd hi (by omega)) (fun i hi => match i, hi with | 0, _ => (fun j hj => match j, hj with | 0, _ => hs _ (by decide +kernel) | 1, _ => hs _ (by decide +kernel) | 2, _ => hs _ (by decide +kernel) | j + 3, hj => absurd (show j + 3 < 3 from hj) (by omega)) | 1, _ => (fun j hj => match j, hj with | 0, _ => hs _ (by decide +kernel) | 1, _ => hs _ (by decide +kernel) | 2, _ => hs _ (by decide +kernel) | 3, _ => hs _ (by decide +kernel) | 4, _ => hs _ (by decide +kernel) | j + 5, hj => absurd (show j + 5 < 5 from hj) (by omega)) | 2, _ => (fun j hj => match j, hj with | 0, _ => hs _ (by decide +kernel) | 1, _ => hs _ (by decide +kernel) | 2, _ => hs _ (by decide +kernel) | 3, _ => hs _ (by decide +kernel) | 4, _ => hs _ (by decide +kernel) | j + 5, hj => absurd (show j + 5 < 5 from hj) (by omega)) | 3, _ => (fun j hj => match j, hj with | 0, _ => hs _ (by decide +kernel) | 1, _ => hs _ (by decide +kernel) | 2, _ => hs _ (by decide +kernel) | 3, _ => hs _ (by decide +kernel) | j + 4, hj => absurd (show j + 4 < 4 from hj) (by omega)) | i + 4, hi => absurd hi (by omega)) hne hA
  obtain ⟨tN, ht, hT⟩ := va_Tof (tm := .static "CoalWood$Text" "NUMBERS" "[I") (ty := .int) (N := 4) (f := fun j => .int (sNumL.getD j 0)) (A := fun q : Nat => s.heap.size ≤ q) (args := #[Value.ref b]) (s := s) (by decide) (hs _ (by decide +kernel)) (va_eqt (hs _ (by decide +kernel))) (fun j hj => match j, hj with | 0, _ => va_eqt (hs _ (by decide +kernel)) | 1, _ => va_eqt (hs _ (by decide +kernel)) | 2, _ => va_eqt (hs _ (by decide +kernel)) | 3, _ => va_eqt (hs _ (by decide +kernel)) | j + 4, hj => absurd hj (by omega)) hA
  refine ⟨adK, adV, tN, hk, va_Zof (hts _ st_l1) (hts _ st_l4) (va_eqi (hs _ (by decide +kernel))) hA, va_Zqof (hts _ st_l2) (hts _ st_l5) (hs _ (by decide +kernel)) hA, va_Zof (hts _ st_l3) (hts _ st_l6) ht hA, hT, fun q hq => ?_⟩
  have hm := hts _ (st_sr q hq)
  simp only [sRefL, List.mem_cons, List.not_mem_nil, or_false] at hq
  rcases hq with rfl | rfl | rfl | rfl
  · exact vk_Rof hm (hev 0 (by decide))
  · exact vk_Rof hm (hev 1 (by decide))
  · exact vk_Rof hm (hev 2 (by decide))
  · exact vk_Rof hm (hev 3 (by decide))

