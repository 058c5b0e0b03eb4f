-- best
def sumN (f : Nat → Int32) (s : Nat) : Nat → Int32
  | 0 => 0
  | l + 1 => if s.testBit l = true then sumN f s l + f l else sumN f s l
theorem sumN_c {f g : Nat → Int32} {s t : Nat} : ∀ m, (∀ l, l < m → f l = g l ∧ s.testBit l = t.testBit l) → sumN f s m = sumN g t m
  | 0, _ => rfl
  | m + 1, e => by
    show (if s.testBit m = true then sumN f s m + f m else sumN f s m) = (if t.testBit m = true then sumN g t m + g m else sumN g t m)
    rw [sumN_c m (fun l hl => e l (by omega)), (e m (by omega)).1, (e m (by omega)).2]
theorem sumN_z {f : Nat → Int32} {s : Nat} (a : Nat) : ∀ d, (∀ l, a ≤ l → l < a + d → s.testBit l = true → f l = 0) → sumN f s (a + d) = sumN f s a
  | 0, _ => rfl
  | d + 1, e => by
    show (if s.testBit (a + d) = true then sumN f s (a + d) + f (a + d) else sumN f s (a + d)) = _
    rw [sumN_z a d (fun l h1 h2 => e l h1 (by omega))]
    by_cases hb : s.testBit (a + d) = true
    · rw [if_pos hb, e (a + d) (by omega) (by omega) hb, Int32.add_zero]
    · rw [if_neg hb]
theorem bit_is : ∀ s, s < 256 → ∀ l, l < 8 → ((nI s >>> (nI l &&& 31)) &&& (1 : Int32)) = if s.testBit l = true then 1 else 0 := by decide +kernel
theorem sumOver_aux (f : Nat → Int32) {s : Nat} (hs : s < 256) : ∀ (k l fu : Nat), l + k = 8 → k < fu → m_X6_sumOver_L4 f fu (nI s) (sumN f s l) (nI l) = some (sumN f s 8)
  | k, l, 0, _, h => absurd h (Nat.not_lt_zero k)
  | 0, l, fu + 1, e, _ => by
    rw [m_X6_sumOver_L4, if_pos (show (8 : Int32) ≤ nI l from nI_le (a := 8) (by omega) (by omega)), show l = 8 by omega]
  | k + 1, l, fu + 1, e, hfu => by
    rw [m_X6_sumOver_L4, if_neg (show ¬ (8 : Int32) ≤ nI l from nI_ge (b := 8) (by omega) (by omega)), bit_is s hs l (by omega)]
    have hx := sumOver_aux f hs k (l + 1) fu (by omega) (by omega)
    rw [show sumN f s (l + 1) = if s.testBit l = true then sumN f s l + f l else sumN f s l from rfl] at hx
    by_cases hb : s.testBit l = true
    · rw [if_pos hb] at hx
      rw [if_pos hb, if_pos rfl, q_at (by omega) (by omega), q_let, q_let, nI_1]
      exact hx
    · rw [if_neg hb] at hx
      rw [if_neg hb, if_neg (by decide), q_let, nI_1]
      exact hx
theorem sumOver_ok (f : Nat → Int32) {s : Nat} (hs : s < 256) : m_X6_sumOver f (nI s) = some (sumN f s 8) := by
  unfold m_X6_sumOver
  exact sumOver_aux f hs 8 0 mFU (by omega) (by unfold mFU; omega)
theorem and_nI (a b : Nat) (ha : a < 256) (hb : b < 256) : nI a &&& nI b = nI (a &&& b) := by
  unfold nI
  apply Int32.toBitVec_inj.mp
  rw [Int32.toBitVec_and]
  apply BitVec.eq_of_toNat_eq
  have hab : a &&& b < 256 := Nat.lt_of_le_of_lt Nat.and_le_left ha
  show ((Int32.ofNat a).toBitVec &&& (Int32.ofNat b).toBitVec).toNat = (Int32.ofNat (a &&& b)).toBitVec.toNat
  rw [BitVec.toNat_and]
  show (a % 2 ^ 32) &&& (b % 2 ^ 32) = (a &&& b) % 2 ^ 32
  rw [Nat.mod_eq_of_lt (by omega), Nat.mod_eq_of_lt (by omega), Nat.mod_eq_of_lt (by omega)]
theorem and_zero (a b : Nat) (ha : a < 256) (hb : b < 256) : (nI a &&& nI b = 0) ↔ ∀ j, j < 8 → ¬ (a.testBit j = true ∧ b.testBit j = true) := by
  have hab : a &&& b < 256 := Nat.lt_of_le_of_lt Nat.and_le_left ha
  rw [and_nI a b ha hb, show (0 : Int32) = nI 0 from rfl, nI_eq (by omega) (by omega)]
  constructor
  · intro h j hj hq
    have := congrArg (fun z => z.testBit j) h
    simp only [Nat.testBit_and, Nat.zero_testBit, hq.1, hq.2] at this
    exact absurd this (by decide)
  · intro h
    refine mask_ext _ _ hab (by omega) (fun j hj => ?_)
    rw [Nat.testBit_and, Nat.zero_testBit]
    have := h j hj
    cases h1 : a.testBit j <;> cases h2 : b.testBit j <;> simp [h1, h2] at this ⊢
theorem pow_is : ∀ N, N < 9 → ((1 : Int32) <<< (nI N &&& 31)) = nI (2 ^ N) ∧ 2 ^ N ≤ 256 ∧ 1 ≤ 2 ^ N := by decide +kernel
theorem tb_lt {s N l : Nat} (h : s < 2 ^ N) (hl : N ≤ l) : s.testBit l = false := Nat.testBit_lt_two_pow (Nat.lt_of_lt_of_le h (Nat.pow_le_pow_right (n := 2) (by omega) hl))
section BE
variable {F : Nat → Nat → Int32} {V n : Nat → Int32} {M : Nat}
/-- whether no lump of a set, up to l, is burnt -/
def mayN (M s : Nat) : Nat → Int32
  | 0 => 1
  | l + 1 => if s.testBit l = true ∧ M.testBit l = true then 0 else mayN M s l
theorem may_1 {M s : Nat} : ∀ l, (∀ j, j < l → ¬ (s.testBit j = true ∧ M.testBit j = true)) → mayN M s l = 1
  | 0, _ => rfl
  | l + 1, h => by
    show (if s.testBit l = true ∧ M.testBit l = true then 0 else mayN M s l) = 1
    rw [if_neg (h l (by omega)), may_1 l (fun j hj => h j (by omega))]
theorem may_0 {M s j : Nat} (hq : s.testBit j = true ∧ M.testBit j = true) : ∀ l, j < l → mayN M s l = 0
  | 0, h => absurd h (Nat.not_lt_zero j)
  | l + 1, h => by
    show (if s.testBit l = true ∧ M.testBit l = true then 0 else mayN M s l) = 0
    by_cases e : s.testBit l = true ∧ M.testBit l = true
    · rw [if_pos e]
    · rw [if_neg e]
      refine may_0 hq l ?_
      rcases Nat.lt_or_ge j l with h2 | h2
      · exact h2
      · have : j = l := by omega
        subst this
        exact absurd hq e
theorem may_c (M s l : Nat) : mayN M s l = 0 ∨ mayN M s l = 1 := by
  by_cases h : ∀ j, j < l → ¬ (s.testBit j = true ∧ M.testBit j = true)
  · exact Or.inr (may_1 l h)
  · refine Or.inl ?_
    have : ∃ j, j < l ∧ s.testBit j = true ∧ M.testBit j = true := by
      apply Classical.byContradiction
      intro hc
      exact h (fun j hj hq => hc ⟨j, hj, hq.1, hq.2⟩)
    obtain ⟨j, hj, hq⟩ := this
    exact may_0 hq l hj
theorem has_is {s l : Nat} (hs : s < 256) (hl : l < 8) : m_X12_has (nI s) (nI l) = some (if s.testBit l = true then 1 else 0) := by
  unfold m_X12_has
  rw [bit_is s hs l hl]
  by_cases hb : s.testBit l = true
  · rw [if_pos hb, if_pos rfl]
  · rw [if_neg hb, if_neg (by decide)]
/-- a set that costs too much, or holds a burnt one, or is worth no more -/
def bsk (n : Nat → Int32) (M s : Nat) (p w : Int32) : Prop := mayN M s (nv (n 50)) = 0 ∨ p < sumN (csN n) s (nv (n 50)) ∨ sumN (woN n) s (nv (n 50)) ≤ w
theorem best58 (hw : relW F n) (h : relL F V n) (hB : relB n M) {s : Nat} (hs : s < 256) (k32 : (Nat → Int32) → Int32 → Int32 → Int32 → Int32 → Int32 → Option (Int32 × (Nat → Int32))) (r : Nat → Int32) (p w b most : Int32) : ∀ (k l fu : Nat), l + k = nv (n 50) → k < fu → m_X12_best_L58 n k32 fu r p w b most (nI s) (sumN (csN n) s l) (sumN (woN n) s l) (mayN M s l) (nI l) = (if mayN M s (nv (n 50)) = 0 then k32 r p w b most (nI (s + 1)) else if p < sumN (csN n) s (nv (n 50)) then k32 r p w b most (nI (s + 1)) else if sumN (woN n) s (nv (n 50)) ≤ most then k32 r p w b most (nI (s + 1)) else k32 r p w (nI s) (sumN (woN n) s (nv (n 50))) (nI (s + 1)))
  | k, l, 0, _, h0 => absurd h0 (Nat.not_lt_zero k)
  | 0, l, fu + 1, e, _ => by
    have h9 := h.2.1.1
    have g2 : n 50 ≤ nI l := by rw [h.2.1.2]; exact nI_le (by omega) (by omega)
    rw [m_X12_best_L58, show (50 : Int32) = nI 50 from rfl, q_at (by omega) (by omega), if_pos g2, nI_1, q_let, q_let, show l = nv (n 50) by omega]
  | k + 1, l, fu + 1, e, hfu => by
    have h9 := h.2.1.1
    have hl : l < nv (n 50) := by omega
    have g2 : ¬ n 50 ≤ nI l := by rw [h.2.1.2]; exact nI_ge (by omega) (by omega)
    obtain ⟨f1, f2, f3, e1, e2, e3, k1, k2, k3, k4, k5, k6⟩ := lump_get h hl
    have hx := best58 hw h hB hs k32 r p w b most k (l + 1) fu (by omega) (by omega)
    rw [show sumN (csN n) s (l + 1) = if s.testBit l = true then sumN (csN n) s l + csN n l else sumN (csN n) s l from rfl, show sumN (woN n) s (l + 1) = if s.testBit l = true then sumN (woN n) s l + woN n l else sumN (woN n) s l from rfl, show mayN M s (l + 1) = if s.testBit l = true ∧ M.testBit l = true then 0 else mayN M s l from rfl] at hx
    rw [m_X12_best_L58, show (50 : Int32) = nI 50 from rfl, q_at (by omega) (by omega), if_neg g2, q_call (has_is hs k6)]
    have hbi := hB.2 l k6
    have ec : csN n l = nI (2 * sN n l) := by unfold csN; rw [if_pos hl]
    have ew : woN n l = ws n l (bn n l) := by unfold woN; rw [if_pos hl]
    have B99 : ∀ z, m_X12_best_B99 n k32 (m_X12_best_L58 n k32 fu) r p w b most (nI s) (sumN (csN n) s l) (sumN (woN n) s l) (nI l) z = m_X12_best_L58 n k32 fu r p w b most (nI s) (sumN (csN n) s l + csN n l) (sumN (woN n) s l + woN n l) z (nI (l + 1)) := by
      intro z
      unfold m_X12_best_B99
      rw [q_call (show m_X12_lumpAt n (nI l) (2 : Int32) = some (nI (sN n l)) from (lumpAt_ok (c := 2) k6 (by omega)).trans (congrArg some e3)), show (2 : Int32) * nI (sN n l) = nI (2 * sN n l) from pk_mul 2 _, q_let, q_call (worthR_ok hw h hl), q_let, q_let, nI_1, ec, ew]
    by_cases hb : s.testBit l = true
    · rw [if_pos hb, if_pos hb] at hx
      rw [if_pos hb, if_neg one_ne0]
      have hm0 := may_c M s l
      have hR : m_X12_isBurnt n (nI l) = if n (18 + 4 * l + 3) = 1 then some 1 else some 0 := by
        unfold m_X12_isBurnt
        rw [q_call (show m_X12_lumpAt n (nI l) (3 : Int32) = some (n (18 + 4 * l + 3)) from lumpAt_ok (c := 3) k6 (by omega))]
      unfold m_X12_best_B98
      rw [B99, B99]
      by_cases hm : mayN M s l = 0
      · rw [if_pos hm]
        rw [show (if s.testBit l = true ∧ M.testBit l = true then (0 : Int32) else mayN M s l) = 0 by
          by_cases q : s.testBit l = true ∧ M.testBit l = true
          · rw [if_pos q]
          · rw [if_neg q, hm]] at hx
        exact hx
      · have hm1 : mayN M s l = 1 := hm0.resolve_left hm
        rw [if_neg hm, hR]
        by_cases hz : n (18 + 4 * l + 3) = 1
        · have ht : M.testBit l = true := hbi.mpr ⟨hl, hz⟩
          rw [if_pos ⟨hb, ht⟩] at hx
          rw [if_pos hz, q_some, if_neg one_ne0]
          exact hx
        · have ht : ¬ (s.testBit l = true ∧ M.testBit l = true) := fun q => hz (hbi.mp q.2).2
          rw [if_neg ht, hm1] at hx
          rw [if_neg hz, q_some, if_pos rfl]
          exact hx
    · rw [if_neg hb, if_neg hb, if_neg (fun q => hb q.1)] at hx
      rw [if_neg hb, if_pos rfl, q_let, nI_1]
      exact hx
/-- one set, in the class -/
theorem best10 {fc fw : Nat → Int32} (hf : ∀ l, l < 8 → fc l = csN n l ∧ fw l = woN n l) (hM : M < 256) {s : Nat} (hs : s < 256) (fu : Nat) (bw p bits : Int32) : m_X6_bestFor_L10 fc fw (fu + 1) bw p (nI M) bits (nI s) = (if mayN M s 8 = 0 then m_X6_bestFor_L10 fc fw fu bw p (nI M) bits (nI (s + 1)) else if p < sumN (csN n) s 8 then m_X6_bestFor_L10 fc fw fu bw p (nI M) bits (nI (s + 1)) else if sumN (woN n) s 8 ≤ bw then m_X6_bestFor_L10 fc fw fu bw p (nI M) bits (nI (s + 1)) else m_X6_bestFor_L10 fc fw fu (sumN (woN n) s 8) p (nI M) (nI s) (nI (s + 1))) := by
  have e1 : sumN fc s 8 = sumN (csN n) s 8 := sumN_c 8 (fun l hl => ⟨(hf l hl).1, rfl⟩)
  have e2 : sumN fw s 8 = sumN (woN n) s 8 := sumN_c 8 (fun l hl => ⟨(hf l hl).2, rfl⟩)
  rw [m_X6_bestFor_L10, if_neg (show ¬ (256 : Int32) ≤ nI s from nI_ge (b := 256) hs (by omega)), nI_1, q_let, q_call (sumOver_ok fc hs), q_call (sumOver_ok fw hs), q_let, e1, e2]
  by_cases ha : nI s &&& nI M = 0
  · rw [if_pos ha, may_1 8 ((and_zero s M hs hM).mp ha), if_neg one_ne0]
  · rw [if_neg ha]
    have : ∃ j, j < 8 ∧ s.testBit j = true ∧ M.testBit j = true := by
      apply Classical.byContradiction
      intro hc
      exact ha ((and_zero s M hs hM).mpr (fun j hj hq => hc ⟨j, hj, hq.1, hq.2⟩))
    obtain ⟨j, hj, hq⟩ := this
    rw [may_0 hq 8 hj, if_pos rfl]
theorem low8 (hB : relB n M) (h9 : nv (n 50) < 9) {s : Nat} : mayN M s 8 = mayN M (s % 2 ^ nv (n 50)) (nv (n 50)) ∧ sumN (csN n) s 8 = sumN (csN n) (s % 2 ^ nv (n 50)) (nv (n 50)) ∧ sumN (woN n) s 8 = sumN (woN n) (s % 2 ^ nv (n 50)) (nv (n 50)) := by
  have hb : ∀ l, l < nv (n 50) → (s % 2 ^ nv (n 50)).testBit l = s.testBit l := fun l hl => by
    rw [Nat.testBit_mod_two_pow]
    simp [hl]
  have e8 : nv (n 50) + (8 - nv (n 50)) = 8 := by omega
  refine ⟨?_, ?_, ?_⟩
  · by_cases h : ∀ j, j < 8 → ¬ (s.testBit j = true ∧ M.testBit j = true)
    · rw [may_1 8 h, may_1 _ (fun j hj hq => h j (by omega) ⟨by rw [← hb j hj]; exact hq.1, hq.2⟩)]
    · have : ∃ j, j < 8 ∧ s.testBit j = true ∧ M.testBit j = true := by
        apply Classical.byContradiction
        intro hc
        exact h (fun j hj hq => hc ⟨j, hj, hq.1, hq.2⟩)
      obtain ⟨j, hj, h1, h2⟩ := this
      have hjN := ((hB.2 j hj).mp h2).1
      rw [may_0 ⟨h1, h2⟩ 8 hj, may_0 (j := j) ⟨by rw [hb j hjN]; exact h1, h2⟩ _ hjN]
  · rw [← e8, sumN_z (nv (n 50)) (8 - nv (n 50)) (fun l h1 _ _ => by unfold csN; rw [if_neg (by omega)])]
    exact sumN_c _ (fun l hl => ⟨rfl, (hb l hl).symm⟩)
  · rw [← e8, sumN_z (nv (n 50)) (8 - nv (n 50)) (fun l h1 _ _ => by unfold woN; rw [if_neg (by omega)])]
    exact sumN_c _ (fun l hl => ⟨rfl, (hb l hl).symm⟩)
theorem best_rest {fc fw : Nat → Int32} (hf : ∀ l, l < 8 → fc l = csN n l ∧ fw l = woN n l) (hB : relB n M) (h9 : nv (n 50) < 9) (p bw bits : Int32) (inv : ∀ s, s < 2 ^ nv (n 50) → bsk n M s p bw) : ∀ (k s fu : Nat), s + k = 256 → k < fu → m_X6_bestFor_L10 fc fw fu bw p (nI M) bits (nI s) = some (bits, bw)
  | k, s, 0, _, h0 => absurd h0 (Nat.not_lt_zero k)
  | 0, s, fu + 1, e, _ => by
    rw [m_X6_bestFor_L10, if_pos (show (256 : Int32) ≤ nI s from nI_le (a := 256) (by omega) (by omega))]
  | k + 1, s, fu + 1, e, hfu => by
    rw [best10 hf hB.1 (by omega), best_rest hf hB h9 p bw bits inv k (s + 1) fu (by omega) (by omega)]
    obtain ⟨l1, l2, l3⟩ := low8 (s := s) hB h9
    rw [l1, l2, l3]
    rcases inv (s % 2 ^ nv (n 50)) (Nat.mod_lt _ (Nat.two_pow_pos _)) with q | q | q
    · rw [if_pos q]
    · rw [if_pos q]
      by_cases q2 : mayN M (s % 2 ^ nv (n 50)) (nv (n 50)) = 0
      · rw [if_pos q2]
      · rw [if_neg q2]
    · rw [if_pos q]
      by_cases q2 : mayN M (s % 2 ^ nv (n 50)) (nv (n 50)) = 0
      · rw [if_pos q2]
      · rw [if_neg q2]
        by_cases q3 : p < sumN (csN n) (s % 2 ^ nv (n 50)) (nv (n 50))
        · rw [if_pos q3]
        · rw [if_neg q3]
theorem best_sim {fc fw : Nat → Int32} (hw : relW F n) (h : relL F V n) (hf : ∀ l, l < 8 → fc l = csN n l ∧ fw l = woN n l) (hB : relB n M) (r : Nat → Int32) (p w : Int32) : ∀ (k s fu fu2 : Nat) (bw bits : Int32), s + k = 2 ^ nv (n 50) → 256 < fu + s → k < fu2 → (∀ t, t < s → bsk n M t p bw) → ∃ bits' bw', m_X6_bestFor_L10 fc fw fu bw p (nI M) bits (nI s) = some (bits', bw') ∧ m_X12_best_L32 n fu2 r p w bits bw (nI s) = some (if w = 0 then bits' else bw', r)
  | k, s, fu, 0, bw, bits, _, _, h0, _ => absurd h0 (Nat.not_lt_zero k)
  | 0, s, fu, fu2 + 1, bw, bits, e, hfu, _, inv => by
    have h9 := h.2.1.1
    obtain ⟨p1, p2, p3⟩ := pow_is (nv (n 50)) h9
    refine ⟨bits, bw, best_rest hf hB h9 p bw bits (fun t ht => inv t (by omega)) (256 - s) s fu (by omega) (by omega), ?_⟩
    rw [m_X12_best_L32, show (50 : Int32) = nI 50 from rfl, q_at (by omega) (by omega), h.2.1.2, p1, if_pos (nI_le (by omega) (by omega))]
    by_cases hz : w = 0
    · rw [if_pos hz, if_pos hz]
    · rw [if_neg hz, if_neg hz]
  | k + 1, s, 0, fu2 + 1, bw, bits, e, hfu, _, inv => by
    have h9 := h.2.1.1
    obtain ⟨p1, p2, p3⟩ := pow_is (nv (n 50)) h9
    omega
  | k + 1, s, fu + 1, fu2 + 1, bw, bits, e, hfu, hfu2, inv => by
    have h9 := h.2.1.1
    obtain ⟨p1, p2, p3⟩ := pow_is (nv (n 50)) h9
    have hmod : s % 2 ^ nv (n 50) = s := Nat.mod_eq_of_lt (by omega)
    obtain ⟨l1, l2, l3⟩ := low8 (s := s) hB h9
    rw [hmod] at l1 l2 l3
    have g2 : ¬ ((1 : Int32) <<< (n 50 &&& 31)) ≤ nI s := by rw [h.2.1.2, p1]; exact nI_ge (by omega) (by omega)
    rw [best10 hf hB.1 (by omega), l1, l2, l3, m_X12_best_L32, show (50 : Int32) = nI 50 from rfl, q_at (by omega) (by omega), if_neg g2]
    have hR := best58 hw h hB (s := s) (by omega) (m_X12_best_L32 n fu2) r p w bits bw (nv (n 50)) 0 mFU (by omega) (by unfold mFU; omega)
    rw [show m_X12_best_L58 n (m_X12_best_L32 n fu2) mFU r p w bits bw (nI s) (0 : Int32) (0 : Int32) (1 : Int32) (0 : Int32) = _ from hR]
    have keep : bsk n M s p bw → ∃ bits' bw', m_X6_bestFor_L10 fc fw fu bw p (nI M) bits (nI (s + 1)) = some (bits', bw') ∧ m_X12_best_L32 n fu2 r p w bits bw (nI (s + 1)) = some (if w = 0 then bits' else bw', r) := fun q => best_sim hw h hf hB r p w k (s + 1) fu fu2 bw bits (by omega) (by omega) (by omega) (fun t ht => by
      by_cases hts : t = s
      · rw [hts]; exact q
      · exact inv t (by omega))
    by_cases q1 : mayN M s (nv (n 50)) = 0
    · rw [if_pos q1, if_pos q1]; exact keep (Or.inl q1)
    · rw [if_neg q1, if_neg q1]
      by_cases q2 : p < sumN (csN n) s (nv (n 50))
      · rw [if_pos q2, if_pos q2]; exact keep (Or.inr (Or.inl q2))
      · rw [if_neg q2, if_neg q2]
        by_cases q3 : sumN (woN n) s (nv (n 50)) ≤ bw
        · rw [if_pos q3, if_pos q3]; exact keep (Or.inr (Or.inr q3))
        · rw [if_neg q3, if_neg q3]
          refine best_sim hw h hf hB r p w k (s + 1) fu fu2 _ _ (by omega) (by omega) (by omega) (fun t ht => ?_)
          by_cases hts : t = s
          · rw [hts]; exact Or.inr (Or.inr (Int32.le_refl _))
          · rcases inv t (by omega) with z | z | z
            · exact Or.inl z
            · exact Or.inr (Or.inl z)
            · refine Or.inr (Or.inr ?_)
              have a1 := Int32.le_iff_toInt_le.mp z
              have a2 := mt Int32.le_iff_toInt_le.mpr q3
              exact Int32.le_iff_toInt_le.mpr (by omega)
end BE
theorem o_best : opSpec_best Rel := by
  intro FI FL VI VL a1 a2 h
  have h1 := h.1
  have hw := h1.2.1
  have hp := h1.2.2.1
  have hL := h1.2.2.2.1
  obtain ⟨Mu, hB, hU⟩ := h1.2.2.2.2.1
  have h9 := hL.2.1.1
  have badX : m_X11_best_B19 (VI 10) (VI 1) (FI 3) (FI 0) (FI 1) (VI 62) (VI 63) (VI 64) (VI 60) (FI 39) (FI 2) (FI 40) = some (-2, VI 62 + 1, VI 63, VI 64, VI 60, FI 39, FI 2, FI 40) := by unfold m_X11_best_B19; rw [q_call (counted_bad _ _ _)]
  have badM : m_X12_best_B19 (FI 49) (FI 48) = some (-2, upd (FI 48) 0 (FI 48 0 + 1)) := by unfold m_X12_best_B19; rw [q_call (bad_ok _)]
  have bad : m_X11_best (VI 62) (VI 63) (VI 64) (VI 60) (VI 10) (VI 1) (FI 3) (FI 39) (FI 2) (FI 0) (FI 1) (FI 40) a1 a2 = some (-2, VI 62 + 1, VI 63, VI 64, VI 60, FI 39, FI 2, FI 40) → m_X12_best (FI 48) (FI 49) a1 a2 = some (-2, upd (FI 48) 0 (FI 48 0 + 1)) → ∃ (rx : Int32 × (Int32) × (Int32) × (Int32) × (Int32) × (Nat → Int32) × (Nat → Int32) × (Nat → Int32)) (rm : Int32 × (Nat → Int32)), m_X11_best (VI 62) (VI 63) (VI 64) (VI 60) (VI 10) (VI 1) (FI 3) (FI 39) (FI 2) (FI 0) (FI 1) (FI 40) a1 a2 = some rx ∧ m_X12_best (FI 48) (FI 49) a1 a2 = some rm ∧ rx.1 = rm.1 ∧ Rel (va_up (va_up (va_up (va_up FI 2 rx.2.2.2.2.2.2.1) 39 rx.2.2.2.2.2.1) 40 rx.2.2.2.2.2.2.2) 48 rm.2) FL (va_up (va_up (va_up (va_up VI 60 rx.2.2.2.2.1) 62 rx.2.1) 63 rx.2.2.1) 64 rx.2.2.2.1) VL := fun q1 q2 => ⟨_, _, q1, q2, rfl, by
      have := rel_bad h
      simp only [up_id]
      exact this⟩
  rcases qIn_c a1 0 99 (by omega) (by omega) with e | ⟨e, s, _, hs, rfl⟩
  · have e' : qIn a1 0 99 = 0 := e
    refine bad ?_ ?_
    · unfold m_X11_best; rw [q_call (within_ok _ _ _), e', if_pos rfl, badX]
    · unfold m_X12_best; rw [q_call (in_ok _ _ _), e', if_pos rfl, badM]
  · have e' : qIn (nI s) 0 99 = 1 := e
    rcases qIn_c a2 0 1 (by omega) (by omega) with e2 | ⟨e2, N, _, hN, rfl⟩
    · have e2' : qIn a2 0 1 = 0 := e2
      refine bad ?_ ?_
      · unfold m_X11_best; rw [q_call (within_ok _ _ _), e', if_neg one_ne0, q_call (within_ok _ _ _), e2', if_pos rfl, badX]
      · unfold m_X12_best; rw [q_call (in_ok _ _ _), e', if_neg one_ne0, q_call (in_ok _ _ _), e2', if_pos rfl, badM]
    · have e2' : qIn (nI N) 0 1 = 1 := e2
      obtain ⟨fc, fs, fw, w1, w2⟩ := weigh_ok hw hp hL (FI 39) (FI 2) (FI 40)
      have p2 := (pow_is _ h9).2.1
      obtain ⟨b', bw', z1, z2⟩ := best_sim hw hL w2 hB (FI 48) (nI s) (nI N) (2 ^ nv (FI 49 50)) 0 mFU mFU 0 0 (by omega) (by unfold mFU; omega) (by unfold mFU; omega) (fun t ht => absurd ht (Nat.not_lt_zero t))
      refine ⟨(if nI N = 0 then b' else bw', VI 62, VI 63, VI 64, bw', fc, fs, fw), (if nI N = 0 then b' else bw', FI 48), ?_, ?_, rfl, ?_⟩
      · unfold m_X11_best m_X6_bestFor
        rw [q_call (within_ok _ _ _), e', if_neg one_ne0, q_call (within_ok _ _ _), e2', if_neg one_ne0, q_call w1, hU.2.2.1, q_call (show m_X6_bestFor_L10 fc fw mFU (0 : Int32) (nI s) (nI (Mu (nv (FI 49 53)))) (0 : Int32) (0 : Int32) = some (b', bw') from z1)]
        by_cases hz : nI N = 0
        · rw [if_pos hz, if_pos hz]
        · rw [if_neg hz, if_neg hz]
      · unfold m_X12_best
        rw [q_call (in_ok _ _ _), e', if_neg one_ne0, q_call (in_ok _ _ _), e2', if_neg one_ne0]
        exact z2
      · refine rel_wk h (fun j j2 j3 j4 j5 => ?_) (fun j j1 j2 => ?_) (fun j _ => rfl)
        · show va_up (va_up (va_up (va_up FI 2 fs) 39 fc) 40 fw) 48 (FI 48) j = FI j
          exact up_or rfl (fun _ => by rw [up_ne (by omega), up_ne (by omega), up_ne (by omega)])
        · show va_up (va_up (va_up (va_up VI 60 bw') 62 (VI 62)) 63 (VI 63)) 64 (VI 64) j = VI j
          exact up_or rfl (fun _ => up_or rfl (fun _ => up_or rfl (fun _ => up_ne (by omega))))
