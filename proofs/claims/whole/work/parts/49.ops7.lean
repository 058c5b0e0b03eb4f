-- undo
def undoF (n : Nat → Int32) (u b : Nat) : Nat → Int32 := upd (upd (upd (upd n 53 (nI u)) (18 + 4 * b + 3) 0) 51 (n (54 + 3 * u + 1))) 52 (n (54 + 3 * u + 2))
theorem relP_undo {F F' : Nat → Nat → Int32} {V V' n : Nat → Int32} {u b : Nat} (h : relP F V n) (hu : n 53 = nI (u + 1)) (hu8 : u < 8) (hb : n (54 + 3 * u) = nI b) (hb8 : b < 8) (hF : ∀ j, j < 8 → j ≠ 2 → F' j = F j) (hV : ∀ j, j < 10 → j ≠ 3 → V' j = V j) (hV13 : V' 13 = V 13) (hV3 : V' 3 = nI u) (hV10 : V' 10 = F 4 (3 * u)) (hV11 : V' 11 = n (54 + 3 * u + 1)) (hV12 : V' 12 = n (54 + 3 * u + 2)) : relP F' V' (undoF n u b) := by
  have hL := h.2.2.2.1
  obtain ⟨Mu, hB, hU⟩ := h.2.2.2.2.1
  have nvU : nv (n 53) = u + 1 := by rw [hu]; exact nv_nI (by omega)
  rw [nvU] at hB
  obtain ⟨u1, u2, u3, u4, u5⟩ := hU
  rw [nvU] at u3 u4 u5
  obtain ⟨t1, t2, t3, t4, t5, t6, t7, t8⟩ := u5 u (by omega)
  have nvb : nv (n (54 + 3 * u)) = b := by rw [hb]; exact nv_nI (by omega)
  rw [nvb] at t6 t7
  obtain ⟨d1, d2⟩ := bit_del (Mu (u + 1)) t8 b hb8 t6
  rw [← t7] at d1 d2
  obtain ⟨n', en⟩ : ∃ n', n' = undoF n u b := ⟨_, rfl⟩
  have o : ∀ k, k ≠ 53 → k ≠ 18 + 4 * b + 3 → k ≠ 51 → k ≠ 52 → n' k = n k := fun k h1 h2 h3 h4 => by rw [en]; unfold undoF; rw [upd_ne h4, upd_ne h3, upd_ne h2, upd_ne h1]
  have p53 : n' 53 = nI u := by rw [en]; unfold undoF; rw [upd_ne (by omega), upd_ne (by omega), upd_ne (by omega), upd_eq]
  have p51 : n' 51 = n (54 + 3 * u + 1) := by rw [en]; unfold undoF; rw [upd_ne (by omega), upd_eq]
  have p52 : n' 52 = n (54 + 3 * u + 2) := by rw [en]; unfold undoF; rw [upd_eq]
  have pb : n' (18 + 4 * b + 3) = 0 := by rw [en]; unfold undoF; rw [upd_ne (by omega), upd_ne (by omega), upd_eq]
  rw [← en]
  have nv53 : nv (n' 53) = u := by rw [p53]; exact nv_nI (by omega)
  have e50 : n' 50 = n 50 := o 50 (by omega) (by omega) (by omega) (by omega)
  have N9 := hL.2.1.1
  refine relP_LU h (fun i hi h2 h3 h4 => hF i hi h2) (fun i hi h1 h3 h10 h11 h12 => ?_) (fun k hk hn => o k (by omega) (by omega) (by omega) (by omega)) ⟨by rw [hV 1 (by omega) (by omega), e50]; exact hL.1, by rw [e50]; exact hL.2.1, ?_⟩ ⟨Mu, ?_, by rw [hV3, p53], by rw [p53]; exact sm_nI (by omega) (by omega), by rw [hV10, nv53]; exact t1, by rw [nv53, p51]; exact t4, ?_⟩ ⟨by rw [hV11, p51], by rw [hV12, p52]⟩
  · by_cases h13 : i = 13
    · rw [h13]; exact hV13
    · exact hV i (by omega) h3
  · rw [e50, hF 3 (by omega) (by omega)]
    intro i hi
    obtain ⟨c1, c2, c3, c4⟩ := hL.2.2 i hi
    rw [o (18 + 4 * i) (by omega) (by omega) (by omega) (by omega), o (18 + 4 * i + 1) (by omega) (by omega) (by omega) (by omega), o (18 + 4 * i + 2) (by omega) (by omega) (by omega) (by omega)]
    refine ⟨c1, c2, c3, ?_⟩
    by_cases hij : i = b
    · rw [hij, pb]; exact sm0 (by omega)
    · rw [o (18 + 4 * i + 3) (by omega) (by omega) (by omega) (by omega)]; exact c4
  · rw [nv53]
    refine ⟨d1, fun i hi => ?_⟩
    rw [d2 i hi, e50]
    by_cases hij : i = b
    · rw [hij, pb]
      constructor
      · intro q; simp at q
      · intro q; exact absurd q.2 (by decide)
    · rw [o (18 + 4 * i + 3) (by omega) (by omega) (by omega) (by omega), ← hB.2 i hi]
      simp [hij]
  · rw [nv53, hF 4 (by omega) (by omega)]
    intro i hi
    rw [o (54 + 3 * i) (by omega) (by omega) (by omega) (by omega), o (54 + 3 * i + 1) (by omega) (by omega) (by omega) (by omega), o (54 + 3 * i + 2) (by omega) (by omega) (by omega) (by omega)]
    exact u5 i (by omega)
theorem o_undo : opSpec_undo Rel := by
  intro FI FL VI VL h
  have h1 := h.1
  have hL := h1.2.2.2.1
  obtain ⟨Mu, hB, hU⟩ := h1.2.2.2.2.1
  obtain ⟨U, hUb, eU⟩ := sm_of hU.2.1
  have ev : VI 3 = nI U := hU.1.trans eU
  have nvU : nv (FI 49 53) = U := by rw [eU]; exact nv_nI (by omega)
  cases U with
  | zero =>
    refine ⟨(-3, VI 62, VI 63 + 1, VI 64, VI 10, VI 11, VI 12, VI 3), (-3, FI 49, upd (FI 48) 1 (FI 48 1 + 1)), ?_, ?_, rfl, ?_⟩
    · unfold m_X11_undo m_X4_goBack
      rw [ev, q_let, if_neg (show ¬ (0 : Int32) ≤ nI 0 - 1 by decide), q_some, q_call (counted_no _ _ _)]
    · unfold m_X12_undo
      rw [show (53 : Int32) = nI 53 from rfl, q_at (by omega) (by omega), eU, if_pos (by decide), q_call (no_ok _)]
    · have := rel_no h
      simp only [up_id]
      exact this
  | succ u =>
    obtain ⟨u1, u2, u3, u4, u5⟩ := hU
    rw [nvU] at u5
    obtain ⟨t1, t2, t3, t4, t5, t6, t7, t8⟩ := u5 u (by omega)
    obtain ⟨b, hb, eb⟩ := sm_of t5
    obtain ⟨y, hy, ey⟩ := sm_of t4
    have hpc : pcn (Mu u) ≤ 8 := by unfold pcn; have hh : ∀ q : Bool, q.toNat ≤ 1 := (by decide); have := hh ((Mu u).testBit 0); have := hh ((Mu u).testBit 1); have := hh ((Mu u).testBit 2); have := hh ((Mu u).testBit 3); have := hh ((Mu u).testBit 4); have := hh ((Mu u).testBit 5); have := hh ((Mu u).testBit 6); have := hh ((Mu u).testBit 7); omega
    refine ⟨(nI y, VI 62, VI 63, VI 64, FI 4 (3 * u), nI y, FI 49 (54 + 3 * u + 2), nI u), (nI y, undoF (FI 49) u b, FI 48), ?_, ?_, rfl, ?_⟩
    · unfold m_X11_undo m_X4_goBack
      rw [ev, q_let, nI_pred, if_pos (nI_pos' (by omega)), q_call (show m_X9_at (nI (u + 1)) (FI 4) (nI u) (0 : Int32) = some (FI 4 (3 * u)) from at_ok (c := 0) (by omega) (by omega) (by omega)), q_call (show m_X9_at (nI (u + 1)) (FI 4) (nI u) (1 : Int32) = some (nI y) from (at_ok (c := 1) (by omega) (by omega) (by omega)).trans (by rw [t2, ey])), q_call (show m_X9_at (nI (u + 1)) (FI 4) (nI u) (2 : Int32) = some (FI 49 (54 + 3 * u + 2)) from (at_ok (c := 2) (by omega) (by omega) (by omega)).trans (by rw [t3]))]
      unfold m_X9_dropLast
      rw [if_neg (nI_nle (by omega) (by omega)), q_let, nI_pred, q_some, q_some, q_call (counted_ok _ _ _ (by omega))]
    · unfold m_X12_undo
      rw [show (53 : Int32) = nI 53 from rfl, show (51 : Int32) = nI 51 from rfl, show (52 : Int32) = nI 52 from rfl, q_at (by omega) (by omega), eU, if_neg (nI_ne0 (by omega) (by omega)), q_at (by omega) (by omega), eU, nI_pred, q_wr (by omega) (by omega), q_at (by omega) (by omega), upd_eq, show (3 : Int32) * nI u = nI (3 * u) from pk_mul 3 u, show (54 : Int32) + nI (3 * u) = nI (54 + 3 * u) from nI_add 54 _, q_let, q_at (by omega) (by omega), upd_ne (by omega), eb, show (4 : Int32) * nI b = nI (4 * b) from pk_mul 4 b, show (18 : Int32) + nI (4 * b) = nI (18 + 4 * b) from nI_add 18 _, show nI (18 + 4 * b) + (3 : Int32) = nI (18 + 4 * b + 3) from nI_add _ 3, q_wr (by omega) (by omega), nI_1, q_at (by omega) (by omega), upd_ne (by omega), upd_ne (by omega), q_wr (by omega) (by omega), show nI (54 + 3 * u) + (2 : Int32) = nI (54 + 3 * u + 2) from nI_add _ 2, q_at (by omega) (by omega), upd_ne (by omega), upd_ne (by omega), upd_ne (by omega), q_wr (by omega) (by omega), q_at (by omega) (by omega), upd_ne (by omega), upd_eq, ey]
      show some (nI y, upd (upd (upd (upd (FI 49) 53 (nI u)) (18 + 4 * b + 3) 0) 51 (nI y)) 52 (FI 49 (54 + 3 * u + 2)), FI 48) = _
      rw [← ey]
      rfl
    · obtain ⟨g1, g2⟩ := h
      refine ⟨relP_undo g1 eU (by omega) eb hb (fun i hi i2 => ?_) (fun i hi i3 => ?_) rfl rfl rfl ey.symm rfl, g2⟩
      · show va_up (va_up FI 48 _) 49 _ i = FI i
        rw [up_ne (by omega), up_ne (by omega)]
      · show va_up (va_up (va_up (va_up (va_up (va_up (va_up VI 3 _) 10 _) 11 _) 12 _) 62 _) 63 _) 64 _ i = VI i
        rw [up_ne (by omega), up_ne (by omega), up_ne (by omega), up_ne (by omega), up_ne (by omega), up_ne (by omega), up_ne (by omega)]
-- count
theorem burnt_aux {F : Nat → Nat → Int32} {V n : Nat → Int32} {M : Nat} (h : relL F V n) (hB : relB n M) : ∀ (k i fu m : Nat), i + k = nv (n 50) → k < fu → m < 256 → (∀ b, b < 8 → (m.testBit b = true ↔ (b < i ∧ M.testBit b = true))) → ∃ m', m' < 256 ∧ m_X12_burnt_L4 n fu (nI m) (nI i) = some (nI m') ∧ ∀ b, b < 8 → (m'.testBit b = true ↔ (b < nv (n 50) ∧ M.testBit b = true))
  | k, i, 0, m, _, h, _, _ => absurd h (Nat.not_lt_zero k)
  | 0, i, fu + 1, m, e, _, hm, hb => by
    have h9 := h.2.1.1
    refine ⟨m, hm, ?_, ?_⟩
    · rw [m_X12_burnt_L4, show (50 : Int32) = nI 50 from rfl, q_at (by omega) (by omega), h.2.1.2, if_pos (nI_le (by omega) (by omega))]
    · rw [show nv (n 50) = i by omega]; exact hb
  | k + 1, i, fu + 1, m, e, hfu, hm, hb => by
    have h9 := h.2.1.1
    have hR : m_X12_isBurnt n (nI i) = if n (18 + 4 * i + 3) = 1 then some 1 else some 0 := by
      unfold m_X12_isBurnt
      rw [q_call (show m_X12_lumpAt n (nI i) (3 : Int32) = some (n (18 + 4 * i + 3)) from lumpAt_ok (c := 3) (by omega) (by omega))]
    have g2 : ¬ n 50 ≤ nI i := by rw [h.2.1.2]; exact nI_ge (by omega) (by omega)
    have hbi := hB.2 i (by omega)
    rw [m_X12_burnt_L4, show (50 : Int32) = nI 50 from rfl, q_at (by omega) (by omega), if_neg g2, hR]
    by_cases hz : n (18 + 4 * i + 3) = 1
    · have ht : M.testBit i = true := hbi.mpr ⟨by omega, hz⟩
      have hmi : m.testBit i = false := by
        cases hq : m.testBit i with
        | false => rfl
        | true => have := ((hb i (by omega)).mp hq).1; omega
      obtain ⟨a1, a2, a3, a4⟩ := bit_add m hm i (by omega) hmi
      rw [if_pos hz, q_some, if_neg one_ne0, q_let, q_let, a2, nI_1]
      refine burnt_aux h hB k (i + 1) fu (m + 2 ^ i) (by omega) (by omega) a1 (fun b hb8 => ?_)
      rw [a4 b hb8]
      by_cases hbi2 : b = i
      · subst hbi2
        constructor
        · intro _; exact ⟨by omega, ht⟩
        · intro _; simp
      · have := hb b hb8
        simp only [hbi2, beq_iff_eq, Bool.or_false, Bool.or_eq_true, or_false]
        rw [this]
        constructor
        · intro q; exact ⟨by omega, q.2⟩
        · intro q; exact ⟨by omega, q.2⟩
    · have ht : ¬ M.testBit i = true := fun q => hz (hbi.mp q).2
      rw [if_neg hz, q_some, if_pos rfl, q_let, q_let, Int32.or_zero, nI_1]
      refine burnt_aux h hB k (i + 1) fu m (by omega) (by omega) hm (fun b hb8 => ?_)
      rw [hb b hb8]
      constructor
      · intro q; exact ⟨by omega, q.2⟩
      · intro q
        refine ⟨?_, q.2⟩
        rcases Nat.lt_or_ge b i with hlt | hge
        · exact hlt
        · exact absurd (show M.testBit i = true by rw [show i = b by omega]; exact q.2) ht
theorem mask_ext (a b : Nat) (ha : a < 256) (hb : b < 256) (h : ∀ j, j < 8 → a.testBit j = b.testBit j) : a = b := by
  apply Nat.eq_of_testBit_eq
  intro i
  rcases Nat.lt_or_ge i 8 with hi | hi
  · exact h i hi
  · rw [Nat.testBit_lt_two_pow (Nat.lt_of_lt_of_le ha (Nat.pow_le_pow_right (n := 2) (by omega) hi)), Nat.testBit_lt_two_pow (Nat.lt_of_lt_of_le hb (Nat.pow_le_pow_right (n := 2) (by omega) hi))]
theorem burnt_ok {F : Nat → Nat → Int32} {V n : Nat → Int32} {Mu : Nat → Nat} (h : relL F V n) (hB : relB n (Mu (nv (n 53)))) (hU : relU F V n Mu) : m_X12_burnt n = some (V 10) := by
  have h9 := h.2.1.1
  obtain ⟨m', h1, h2, h3⟩ := burnt_aux h hB (nv (n 50)) 0 mFU 0 (by omega) (by unfold mFU; omega) (by omega) (fun b hb => ⟨fun q => absurd q (by simp), fun q => by omega⟩)
  unfold m_X12_burnt
  rw [show m_X12_burnt_L4 n mFU (0 : Int32) (0 : Int32) = some (nI m') from h2, hU.2.2.1]
  have e : m' = Mu (nv (n 53)) := by
    refine mask_ext _ _ h1 hB.1 (fun j hj => ?_)
    have q1 := h3 j hj
    have q2 := hB.2 j hj
    rw [Bool.eq_iff_iff, q1]
    constructor
    · intro q; exact q.2
    · intro q; exact ⟨(q2.mp q).1, q⟩
  rw [e]
theorem counted_c {F : Nat → Nat → Int32} {V n : Nat → Int32} {T : Int32} (h : relP F V n) {k : Nat} (hk : k < 9) : ∃ x, m_X11_howMany T (V 10) (V 11) (V 12) (V 3) (V 9) (V 7) (V 5) (V 1) (nI k) = some x ∧ m_X12_counted T n (nI k) = some x := by
  have hL := h.2.2.2.1
  obtain ⟨Mu, hB, hU⟩ := h.2.2.2.2.1
  have hM := h.2.2.2.2.2.1
  have hE := h.2.2.2.2.2.2.1
  have hS := h.2.2.2.2.2.2.2.1
  have hG := h.2.2.2.2.2.2.2.2
  have hb := burnt_ok hL hB hU
  have hc : k = 0 ∨ k = 1 ∨ k = 2 ∨ k = 3 ∨ k = 4 ∨ k = 5 ∨ k = 6 ∨ k = 7 ∨ k = 8 := by omega
  unfold m_X11_howMany m_X12_counted
  rw [show (50 : Int32) = nI 50 from rfl, show (51 : Int32) = nI 51 from rfl, show (52 : Int32) = nI 52 from rfl, show (78 : Int32) = nI 78 from rfl, show (89 : Int32) = nI 89 from rfl, show (107 : Int32) = nI 107 from rfl, show (53 : Int32) = nI 53 from rfl, q_at (by omega) (by omega), q_at (by omega) (by omega), q_at (by omega) (by omega), q_at (by omega) (by omega), q_at (by omega) (by omega), q_at (by omega) (by omega), q_at (by omega) (by omega), q_call hb, ← hL.1, ← hM.1, ← hM.2, ← hE.1, ← hS.1, ← hG.1, ← hU.1]
  rcases hc with rfl | rfl | rfl | rfl | rfl | rfl | rfl | rfl | rfl
  · exact ⟨V 1, rfl, rfl⟩
  · exact ⟨V 10, rfl, rfl⟩
  · exact ⟨V 11, rfl, rfl⟩
  · exact ⟨V 12, rfl, rfl⟩
  · exact ⟨V 5, rfl, rfl⟩
  · exact ⟨V 7, rfl, rfl⟩
  · exact ⟨V 9, rfl, rfl⟩
  · exact ⟨V 3, rfl, rfl⟩
  · exact ⟨T, rfl, rfl⟩
theorem o_count : opSpec_count Rel := by
  intro FI FL VI VL a1 h
  have hT : VI 56 = VI 65 := h.2.2.2.1.1
  rcases qIn_c a1 0 8 (by omega) (by omega) with e | ⟨e, k, _, hk, rfl⟩
  · have e' : qIn a1 0 8 = 0 := e
    refine ⟨(-2, VI 62 + 1, VI 63, VI 64), (-2, upd (FI 48) 0 (FI 48 0 + 1)), ?_, ?_, rfl, rel_bad h⟩
    · unfold m_X11_count; rw [q_call (within_ok _ _ _), e', if_pos rfl, q_call (counted_bad _ _ _)]
    · unfold m_X12_count; rw [q_call (in_ok _ _ _), e', if_pos rfl, q_call (bad_ok _)]
  · have e' : qIn (nI k) 0 8 = 1 := e
    obtain ⟨x, x1, x2⟩ := counted_c (T := VI 65) h.1 (k := k) (by omega)
    refine ⟨(x, VI 62, VI 63, VI 64), (x, FI 48), ?_, ?_, rfl, rel_same h⟩
    · unfold m_X11_count; rw [q_call (within_ok _ _ _), e', if_neg one_ne0, hT, q_call x1]
    · unfold m_X12_count; rw [q_call (in_ok _ _ _), e', if_neg one_ne0, q_call x2]
