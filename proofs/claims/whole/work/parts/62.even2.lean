-- rows, fewest: the class's table of lumps
def fbTo (n : Nat → Int32) (M : Nat) (le fb : Nat → Int32) (i : Nat) : Prop := ∀ l, l < i → (l < nv (n 50) → M.testBit l = false → le l = nI (lnN n l) ∧ fb l = nI (pm (nx n l) (nv (n 78) + 1 - lnN n l))) ∧ ((nv (n 50) ≤ l ∨ M.testBit l = true) → fb l = 0)
theorem w28 (a b e : Int32) (c d f : Nat → Int32) (k2 : (Nat → Int32) → (Nat → Int32) → (Nat → Int32) → (Nat → Int32) → (Nat → Int32) → Int32 → Option ((Nat → Int32) × (Nat → Int32) × (Nat → Int32) × (Nat → Int32) × (Nat → Int32))) (sw le fb wy re : Nat → Int32) {i : Nat} (hi : i < 8) : m_X6_findWays_B28 a b c d e f k2 sw le fb wy re (nI i) = k2 sw (upd le i 0) (upd fb i 0) wy re (nI (i + 1)) := by
  unfold m_X6_findWays_B28 m_X6_findWays_B29 m_X6_findWays_B48
  rw [if_pos rfl, q_wr hi (by omega), if_pos rfl, q_wr hi (by omega), q_let, nI_1]
section FW
variable {F : Nat → Nat → Int32} {V n : Nat → Int32} {Mu : Nat → Nat}
theorem ways2 (hw : relW F n) (h : relL F V n) (hE : relE F V n) (hB : relB n (Mu (nv (n 53)))) (hU : relU F V n Mu) : ∀ (m i fu : Nat) (sw le fb wy re : Nat → Int32), i + m = 8 → m < fu → fbTo n (Mu (nv (n 53))) le fb i → ∃ sw' le' fb', m_X6_findWays_L2 (V 10) (V 1) (F 3) (F 0) (V 5) (F 5) fu sw le fb wy re (nI i) = m_X6_findWays_L103 (V 10) (V 1) (F 3) (F 0) (V 5) (F 5) mFU sw' le' fb' (upd (fun j => if j < 256 then 0 else wy j) 0 1) (upd re 0 0) (0 : Int32) ∧ fbOk n (Mu (nv (n 53))) le' fb'
  | m, i, 0, sw, le, fb, wy, re, _, h0, _ => absurd h0 (Nat.not_lt_zero m)
  | 0, i, fu + 1, sw, le, fb, wy, re, e, _, hf => by
    refine ⟨sw, le, fb, ?_, by
      intro l hl
      exact hf l (by omega)⟩
    rw [m_X6_findWays_L2, if_pos (show (8 : Int32) ≤ nI i from nI_le (a := 8) (by omega) (by omega)), q_call (fill_I 256 (by omega) wy 0), show mWr (fun j => if j < 256 then (0 : Int32) else wy j) 256 (0 : Int32) (1 : Int32) = mWr (fun j => if j < 256 then (0 : Int32) else wy j) 256 (nI 0) (1 : Int32) from rfl, q_wr (by omega) (by omega), show mWr re 256 (0 : Int32) (0 : Int32) = mWr re 256 (nI 0) (0 : Int32) from rfl, q_wr (by omega) (by omega)]
  | m + 1, i, fu + 1, sw, le, fb, wy, re, e, hfu, hf => by
    have h9 := h.2.1.1
    have none : (nv (n 50) ≤ i ∨ (Mu (nv (n 53))).testBit i = true) → ∃ sw' le' fb', m_X6_findWays_B28 (V 10) (V 1) (F 3) (F 0) (V 5) (F 5) (m_X6_findWays_L2 (V 10) (V 1) (F 3) (F 0) (V 5) (F 5) fu) sw le fb wy re (nI i) = m_X6_findWays_L103 (V 10) (V 1) (F 3) (F 0) (V 5) (F 5) mFU sw' le' fb' (upd (fun j => if j < 256 then 0 else wy j) 0 1) (upd re 0 0) (0 : Int32) ∧ fbOk n (Mu (nv (n 53))) le' fb' := by
      intro hno
      rw [w28 _ _ _ _ _ _ _ _ _ _ _ _ (by omega)]
      refine ways2 hw h hE hB hU m (i + 1) fu _ _ _ _ _ (by omega) (by omega) (fun l hl => ?_)
      by_cases hli : l = i
      · subst hli
        rw [upd_eq, upd_eq]
        refine ⟨fun q1 q2 => ?_, fun _ => rfl⟩
        rcases hno with q | q
        · omega
        · rw [q] at q2; exact absurd q2 (by decide)
      · rw [upd_ne hli, upd_ne hli]
        exact hf l (by omega)
    rw [m_X6_findWays_L2, if_neg (show ¬ (8 : Int32) ≤ nI i from nI_ge (b := 8) (by omega) (by omega))]
    by_cases hi : i < nv (n 50)
    · rw [q_call (has1 h hi), if_neg one_ne0]
      rcases burnt_c h hB hU hi with ⟨_, c2, _, c4⟩ | ⟨_, c2, _, c4⟩
      · rw [q_call c2, if_pos rfl]
        obtain ⟨f', w1, w2⟩ := write_ok hw h hi sw
        have w1' : m_X4_writeShown (V 1) (F 3) sw (F 0) (nI i) = some (nI (lnN n i), f') := w1
        unfold m_X6_findWays_B29
        rw [if_neg one_ne0, q_call w1']
        unfold m_X6_findWays_B48
        rw [q_wr (by omega) (by omega), if_neg one_ne0, q_at (by omega) (by omega), upd_eq, q_call (placesFor_ok hE w2 (lnN_le h hi)), q_wr (by omega) (by omega), q_let, nI_1]
        refine ways2 hw h hE hB hU m (i + 1) fu _ _ _ _ _ (by omega) (by omega) (fun l hl => ?_)
        by_cases hli : l = i
        · subst hli
          rw [upd_eq, upd_eq]
          refine ⟨fun _ _ => ⟨rfl, rfl⟩, fun q => ?_⟩
          rcases q with q | q
          · omega
          · rw [c4] at q; exact absurd q (by decide)
        · rw [upd_ne hli, upd_ne hli]
          exact hf l (by omega)
      · rw [q_call c2, if_neg one_ne0]
        exact none (Or.inr c4)
    · rw [q_call (has0 h (by omega) (by omega)), if_pos rfl]
      exact none (Or.inl (by omega))
end FW
-- how many ways at most
def pr (t s l : Nat) : Nat → Nat
  | 0 => 0
  | k + 1 => pr t s l k + (if t.testBit k = true ∧ (t - 2 ^ k < s ∨ (t - 2 ^ k = s ∧ k < l)) then 1 else 0)
theorem pr_le (t s l : Nat) : ∀ k, pr t s l k ≤ k
  | 0 => Nat.le_refl 0
  | k + 1 => by
    have ih := pr_le t s l k
    show pr t s l k + (if t.testBit k = true ∧ (t - 2 ^ k < s ∨ (t - 2 ^ k = s ∧ k < l)) then 1 else 0) ≤ k + 1
    by_cases h : t.testBit k = true ∧ (t - 2 ^ k < s ∨ (t - 2 ^ k = s ∧ k < l))
    · rw [if_pos h]; omega
    · rw [if_neg h]; omega
theorem pr_mono {t s l s' l' : Nat} (hm : ∀ k, (t - 2 ^ k < s ∨ (t - 2 ^ k = s ∧ k < l)) → (t - 2 ^ k < s' ∨ (t - 2 ^ k = s' ∧ k < l'))) : ∀ k, pr t s l k ≤ pr t s' l' k
  | 0 => Nat.le_refl 0
  | k + 1 => by
    have ih := pr_mono hm k
    show pr t s l k + (if t.testBit k = true ∧ (t - 2 ^ k < s ∨ (t - 2 ^ k = s ∧ k < l)) then 1 else 0) ≤ pr t s' l' k + (if t.testBit k = true ∧ (t - 2 ^ k < s' ∨ (t - 2 ^ k = s' ∧ k < l')) then 1 else 0)
    by_cases h : t.testBit k = true ∧ (t - 2 ^ k < s ∨ (t - 2 ^ k = s ∧ k < l))
    · rw [if_pos h, if_pos ⟨h.1, hm k h.2⟩]; omega
    · rw [if_neg h]; omega
theorem pr_step {t s b : Nat} (hb : t.testBit b = true) (hs : t - 2 ^ b = s) : ∀ k, b < k → pr t s b k + 1 ≤ pr t s (b + 1) k
  | 0, h0 => absurd h0 (Nat.not_lt_zero b)
  | k + 1, h0 => by
    show pr t s b k + (if t.testBit k = true ∧ (t - 2 ^ k < s ∨ (t - 2 ^ k = s ∧ k < b)) then 1 else 0) + 1 ≤ pr t s (b + 1) k + (if t.testBit k = true ∧ (t - 2 ^ k < s ∨ (t - 2 ^ k = s ∧ k < b + 1)) then 1 else 0)
    by_cases hk : k = b
    · have hmn : pr t s b k ≤ pr t s (b + 1) k := pr_mono (fun j q => by
        rcases q with q | q
        · exact Or.inl q
        · exact Or.inr ⟨q.1, by omega⟩) k
      rw [hk] at hmn ⊢
      rw [if_neg (fun q => by rcases q.2 with q2 | q2 <;> omega), if_pos ⟨hb, Or.inr ⟨hs, by omega⟩⟩]
      omega
    · have ih := pr_step hb hs k (by omega)
      by_cases h : t.testBit k = true ∧ (t - 2 ^ k < s ∨ (t - 2 ^ k = s ∧ k < b))
      · rw [if_pos h, if_pos ⟨h.1, by
          rcases h.2 with q | q
          · exact Or.inl q
          · exact Or.inr ⟨q.1, by omega⟩⟩]
        omega
      · rw [if_neg h]; omega
def bd (t s l : Nat) : Nat := if t = 0 then 1 else pr t s l 8 * 8 ^ (pcn t - 1)
theorem pcn_le (m : Nat) : pcn m ≤ 8 := by
  unfold pcn
  have hh : ∀ q : Bool, q.toNat ≤ 1 := by decide
  have := hh (m.testBit 0)
  have := hh (m.testBit 1)
  have := hh (m.testBit 2)
  have := hh (m.testBit 3)
  have := hh (m.testBit 4)
  have := hh (m.testBit 5)
  have := hh (m.testBit 6)
  have := hh (m.testBit 7)
  omega
theorem pcn_pos : ∀ m, m < 256 → m ≠ 0 → 1 ≤ pcn m := by decide +kernel
theorem bd_le {t s l : Nat} (ht : t < 256) : bd t s l ≤ 8 ^ pcn t := by
  unfold bd
  by_cases h : t = 0
  · rw [if_pos h]; exact Nat.pow_pos (by omega)
  · rw [if_neg h]
    have h1 := pcn_pos t ht h
    have h2 : 8 ^ pcn t = 8 * 8 ^ (pcn t - 1) := by
      have : pcn t = (pcn t - 1) + 1 := by omega
      rw [this, Nat.pow_succ, Nat.mul_comm]
      rfl
    rw [h2]
    exact Nat.mul_le_mul_right _ (pr_le t s l 8)
theorem p8_le (t : Nat) : 8 ^ pcn t ≤ 16777216 := Nat.le_trans (Nat.pow_le_pow_right (n := 8) (by omega) (pcn_le t)) (by decide)
theorem bd_l (t s l : Nat) : bd t s l ≤ bd t s (l + 1) := by
  unfold bd
  by_cases h : t = 0
  · rw [if_pos h, if_pos h]; exact Nat.le_refl 1
  · rw [if_neg h, if_neg h]
    exact Nat.mul_le_mul_right _ (pr_mono (fun j q => by
      rcases q with q | q
      · exact Or.inl q
      · exact Or.inr ⟨q.1, by omega⟩) 8)
theorem bd_s (t s l : Nat) : bd t s l ≤ bd t (s + 1) 0 := by
  unfold bd
  by_cases h : t = 0
  · rw [if_pos h, if_pos h]; exact Nat.le_refl 1
  · rw [if_neg h, if_neg h]
    exact Nat.mul_le_mul_right _ (pr_mono (fun j q => by
      rcases q with q | q
      · exact Or.inl (by omega)
      · exact Or.inl (by omega)) 8)
theorem bd_add {s b : Nat} (hs : s < 256) (hb : b < 8) (h : s.testBit b = false) : bd (s + 2 ^ b) s b + 8 ^ pcn s ≤ bd (s + 2 ^ b) s (b + 1) := by
  obtain ⟨a1, a2, a3, a4⟩ := bit_add s hs b hb h
  have hbit : (s + 2 ^ b).testBit b = true := by rw [a4 b hb]; simp
  have hpc : pcn (s + 2 ^ b) = pcn s + 1 := by
    have := pcn_del (s + 2 ^ b) a1 b hb hbit
    rw [a3] at this
    omega
  have hne : s + 2 ^ b ≠ 0 := by
    have := Nat.two_pow_pos b
    omega
  have hst := pr_step hbit a3 8 hb
  unfold bd
  rw [if_neg hne, if_neg hne, hpc, show pcn s + 1 - 1 = pcn s by omega]
  have : (pr (s + 2 ^ b) s b 8 + 1) * 8 ^ pcn s ≤ pr (s + 2 ^ b) s (b + 1) 8 * 8 ^ pcn s := Nat.mul_le_mul_right _ hst
  rw [Nat.succ_mul] at this
  exact this
def wR (n : Nat → Int32) (M s l : Nat) (wy re wr : Nat → Int32) (wv : Nat → Nat) : Prop :=
  (∀ t, t < 256 → wy t = nI (wv t) ∧ wv t ≤ bd t s l) ∧ (∀ t, t < 2 ^ nv (n 50) → wr t = nI (wv t)) ∧ (∀ t, t < 256 → 2 ^ nv (n 50) ≤ t → wv t = 0) ∧ (∀ t, t < 256 → 0 < wv t → re t = nI (shN n t (nv (n 50))) ∧ shN n t (nv (n 50)) ≤ nv (n 78)) ∧ 0 < wv 0 ∧ (∀ t j, (t < s ∨ (t = s ∧ j < l)) → t < 256 → j < nv (n 50) → 0 < wv t → cf n M t j = true → 0 < wv (t + 2 ^ j))
theorem wR_l {n : Nat → Int32} {M s l : Nat} {wy re wr : Nat → Int32} {wv : Nat → Nat} (h : wR n M s l wy re wr wv) (hc : 0 < wv s → ¬ cf n M s l = true) : wR n M s (l + 1) wy re wr wv := by
  obtain ⟨h1, h2, h3, h4, h5, h6⟩ := h
  refine ⟨fun t ht => ⟨(h1 t ht).1, Nat.le_trans (h1 t ht).2 (bd_l t s l)⟩, h2, h3, h4, h5, fun t j hj ht hjN hp hcf => ?_⟩
  rcases hj with q | q
  · exact h6 t j (Or.inl q) ht hjN hp hcf
  · by_cases hjl : j = l
    · rw [q.1, hjl] at hcf
      rw [q.1] at hp
      exact absurd hcf (hc hp)
    · exact h6 t j (Or.inr ⟨q.1, by omega⟩) ht hjN hp hcf
theorem wR_s {n : Nat → Int32} {M s l : Nat} {wy re wr : Nat → Int32} {wv : Nat → Nat} (h : wR n M s l wy re wr wv) (hc : wv s = 0 ∨ nv (n 50) ≤ l) : wR n M (s + 1) 0 wy re wr wv := by
  obtain ⟨h1, h2, h3, h4, h5, h6⟩ := h
  refine ⟨fun t ht => ⟨(h1 t ht).1, Nat.le_trans (h1 t ht).2 (bd_s t s l)⟩, h2, h3, h4, h5, fun t j hj ht hjN hp hcf => ?_⟩
  rcases hj with q | q
  · by_cases hts : t = s
    · rcases hc with hc | hc
      · rw [hts, hc] at hp; omega
      · exact h6 t j (Or.inr ⟨hts, by omega⟩) ht hjN hp hcf
    · exact h6 t j (Or.inl (by omega)) ht hjN hp hcf
  · omega
theorem lt_add {s l N : Nat} (hs : s < 2 ^ N) (hN : N ≤ 8) (hl : l < N) (hb : s.testBit l = false) : s + 2 ^ l < 2 ^ N := by
  have h256 : s < 256 := Nat.lt_of_lt_of_le hs (Nat.le_trans (Nat.pow_le_pow_right (n := 2) (by omega) hN) (by decide))
  obtain ⟨a1, _, _, a4⟩ := bit_add s h256 l (by omega) hb
  refine Nat.lt_pow_two_of_testBit _ (fun i hi => ?_)
  rcases Nat.lt_or_ge i 8 with h8 | h8
  · rw [a4 i h8, tb_lt hs hi]
    simp
    omega
  · exact tb_lt (N := 8) a1 h8
/-- a lump follows -/
theorem wR_add {n : Nat → Int32} {M s l : Nat} {wy re wr le : Nat → Int32} {wv : Nat → Nat} (h : wR n M s l wy re wr wv) (h9 : nv (n 50) < 9) (hs : s < 2 ^ nv (n 50)) (hl : l < nv (n 50)) (hp : 0 < wv s) (hcf : cf n M s l = true) (hle : le l = nI (lnN n l)) : wR n M s (l + 1) (upd wy (s + 2 ^ l) (wy (s + 2 ^ l) + wy s)) (upd re (s + 2 ^ l) (re s + le l)) (upd wr (s + 2 ^ l) (wr (s + 2 ^ l) + wr s)) (fun t => if t = s + 2 ^ l then wv (s + 2 ^ l) + wv s else wv t) := by
  obtain ⟨h1, h2, h3, h4, h5, h6⟩ := h
  obtain ⟨p1, p2, p3⟩ := pow_is (nv (n 50)) h9
  obtain ⟨c1, c2, c3⟩ := cf_bit hcf
  have hmore := lt_add hs (by omega) hl c1
  have hpw := Nat.two_pow_pos l
  have e1 := h1 s (by omega)
  have e2 := h1 (s + 2 ^ l) (by omega)
  have hb := bd_add (s := s) (by omega) (show l < 8 by omega) c1
  have hbs : wv s ≤ 8 ^ pcn s := Nat.le_trans e1.2 (bd_le (by omega))
  refine ⟨fun t ht => ?_, fun t ht => ?_, fun t ht ht2 => ?_, fun t ht hq => ?_, ?_, fun t j hj ht hjN hq hc2 => ?_⟩
  · show upd wy (s + 2 ^ l) (wy (s + 2 ^ l) + wy s) t = nI (if t = s + 2 ^ l then wv (s + 2 ^ l) + wv s else wv t) ∧ (if t = s + 2 ^ l then wv (s + 2 ^ l) + wv s else wv t) ≤ bd t s (l + 1)
    by_cases e : t = s + 2 ^ l
    · rw [if_pos e, e, upd_eq, e1.1, e2.1, nI_add]
      exact ⟨rfl, by omega⟩
    · rw [if_neg e, upd_ne e]
      exact ⟨(h1 t ht).1, Nat.le_trans (h1 t ht).2 (bd_l t s l)⟩
  · show upd wr (s + 2 ^ l) (wr (s + 2 ^ l) + wr s) t = nI (if t = s + 2 ^ l then wv (s + 2 ^ l) + wv s else wv t)
    by_cases e : t = s + 2 ^ l
    · rw [if_pos e, e, upd_eq, h2 s hs, h2 _ hmore, nI_add]
    · rw [if_neg e, upd_ne e]
      exact h2 t ht
  · show (if t = s + 2 ^ l then wv (s + 2 ^ l) + wv s else wv t) = 0
    rw [if_neg (by omega)]
    exact h3 t ht ht2
  · have hq' : 0 < (if t = s + 2 ^ l then wv (s + 2 ^ l) + wv s else wv t) := hq
    by_cases e : t = s + 2 ^ l
    · obtain ⟨r1, r2⟩ := h4 s (by omega) hp
      have hsum : shN n (s + 2 ^ l) (nv (n 50)) = shN n s (nv (n 50)) + lnN n l := by
        rw [shN_add (by omega) (by omega) c1 _ (by omega), if_pos hl]
      rw [e, upd_eq, r1, hle, nI_add, hsum]
      refine ⟨rfl, ?_⟩
      rcases Nat.lt_or_ge (nv (n 78)) (shN n s (nv (n 50)) + lnN n l) with q | q
      · rw [nx_high q r2] at c3
        exact absurd c3 (by decide)
      · exact q
    · rw [if_neg e] at hq'
      rw [upd_ne e]
      exact h4 t ht hq'
  · show 0 < (if 0 = s + 2 ^ l then wv (s + 2 ^ l) + wv s else wv 0)
    rw [if_neg (by omega)]
    exact h5
  · have hq' : 0 < (if t = s + 2 ^ l then wv (s + 2 ^ l) + wv s else wv t) := hq
    show 0 < (if t + 2 ^ j = s + 2 ^ l then wv (s + 2 ^ l) + wv s else wv (t + 2 ^ j))
    by_cases e : t + 2 ^ j = s + 2 ^ l
    · rw [if_pos e]; omega
    · rw [if_neg e]
      rw [if_neg (by omega)] at hq'
      refine h6 t j ?_ ht hjN hq' hc2
      rcases hj with q | q
      · exact Or.inl q
      · refine Or.inr ⟨q.1, ?_⟩
        rcases Nat.lt_or_ge j l with q2 | q2
        · exact q2
        · have : j = l := by omega
          rw [q.1, this] at e
          exact absurd rfl e
section DL
variable {F : Nat → Nat → Int32} {V n : Nat → Int32} {Mu : Nat → Nat} {le fb sh : Nat → Int32}
theorem x112r (hE : relE F V n) (h9 : nv (n 50) < 9) {M : Nat} (hfb : fbOk n M le fb) (a b : Int32) (c d : Nat → Int32) (k103 : (Nat → Int32) → (Nat → Int32) → (Nat → Int32) → (Nat → Int32) → (Nat → Int32) → Int32 → Option ((Nat → Int32) × (Nat → Int32) × (Nat → Int32) × (Nat → Int32) × (Nat → Int32))) (sw wy re wr : Nat → Int32) (wv : Nat → Nat) {s q : Nat} (hs : s < 256) (hR : wR n M s q wy re wr wv) : ∀ (m l fu : Nat), l + m = 8 → m < fu → nv (n 50) ≤ l → m_X6_findWays_L112 a b c d (V 5) (F 5) k103 fu sw le fb wy re (nI s) (nI l) = k103 sw le fb wy re (nI (s + 1))
  | m, l, 0, _, h0, _ => absurd h0 (Nat.not_lt_zero m)
  | 0, l, fu + 1, e, _, _ => by
    rw [m_X6_findWays_L112, if_pos (show (8 : Int32) ≤ nI l from nI_le (a := 8) (by omega) (by omega)), q_let, nI_1]
  | m + 1, l, fu + 1, e, hfu, hN => by
    obtain ⟨w1, w2⟩ := hR.1 s hs
    have hb := bd_le (s := s) (l := q) hs
    have hp := p8_le s
    rw [m_X6_findWays_L112, if_neg (show ¬ (8 : Int32) ≤ nI l from nI_ge (b := 8) (by omega) (by omega)), q_at hs (by omega), w1]
    by_cases hz : wv s = 0
    · rw [if_pos (show nI (wv s) ≤ 0 by rw [hz]; decide), q_let, nI_1]
    · obtain ⟨r1, r2⟩ := hR.2.2.2.1 s hs (by omega)
      rw [if_neg (nI_nle (by omega) (by omega)), q_call (folX hE hs (by omega) hfb r1 r2), if_neg (show ¬ l < nv (n 50) by omega), if_pos (show b2 false = 0 from rfl), q_let, nI_1 l]
      exact x112r hE h9 hfb a b c d k103 sw wy re wr wv hs hR m (l + 1) fu (by omega) (by omega) (by omega)
theorem dl_in (h : relL F V n) (hE : relE F V n) (hB : relB n (Mu (nv (n 53)))) (hU : relU F V n Mu) (hfb : fbOk n (Mu (nv (n 53))) le fb) (hsh : ∀ t, t < 2 ^ nv (n 50) → sh t = nI (shN n t (nv (n 50)))) (a b : Int32) (c d : Nat → Int32) (k103 : (Nat → Int32) → (Nat → Int32) → (Nat → Int32) → (Nat → Int32) → (Nat → Int32) → Int32 → Option ((Nat → Int32) × (Nat → Int32) × (Nat → Int32) × (Nat → Int32) × (Nat → Int32))) (k51 : (Nat → Int32) → (Nat → Int32) → (Nat → Int32) → Int32 → Int32 → Option ((Nat → Int32) × (Nat → Int32) × (Nat → Int32))) (sw yet : Nat → Int32) (x1 : Int32) {s : Nat} (hs : s < 2 ^ nv (n 50)) : ∀ (m l fu fu2 : Nat) (wy re wr : Nat → Int32) (wv : Nat → Nat), l + m = nv (n 50) → 8 < fu + l → m < fu2 → wR n (Mu (nv (n 53))) s l wy re wr wv → ∃ wy' re' wr' wv', m_X6_findWays_L112 a b c d (V 5) (F 5) k103 fu sw le fb wy re (nI s) (nI l) = k103 sw le fb wy' re' (nI (s + 1)) ∧ m_X12_layEvening_L58 n k51 fu2 sh wr yet x1 (nI s) (nI l) = k51 sh wr' yet x1 (nI (s + 1)) ∧ wR n (Mu (nv (n 53))) (s + 1) 0 wy' re' wr' wv'
  | m, l, fu, 0, wy, re, wr, wv, _, _, h0, _ => absurd h0 (Nat.not_lt_zero m)
  | 0, l, fu, fu2 + 1, wy, re, wr, wv, e, hfu, _, hR => by
    have h9 := h.2.1.1
    obtain ⟨p1, p2, p3⟩ := pow_is (nv (n 50)) h9
    have g : n 50 ≤ nI l := by rw [h.2.1.2]; exact nI_le (by omega) (by omega)
    refine ⟨wy, re, wr, wv, x112r hE h9 hfb a b c d k103 sw wy re wr wv (by omega) hR (8 - l) l fu (by omega) (by omega) (by omega), ?_, wR_s hR (Or.inr (by omega))⟩
    rw [m_X12_layEvening_L58, show (50 : Int32) = nI 50 from rfl, q_at (by omega) (by omega), if_pos g, q_let, nI_1]
  | m + 1, l, 0, fu2 + 1, wy, re, wr, wv, e, hfu, _, hR => by
    have h9 := h.2.1.1
    omega
  | m + 1, l, fu + 1, fu2 + 1, wy, re, wr, wv, e, hfu, hfu2, hR => by
    have h9 := h.2.1.1
    obtain ⟨p1, p2, p3⟩ := pow_is (nv (n 50)) h9
    have hs256 : s < 256 := by omega
    have g : ¬ n 50 ≤ nI l := by rw [h.2.1.2]; exact nI_ge (by omega) (by omega)
    obtain ⟨w1, w2⟩ := hR.1 s hs256
    have w3 := hR.2.1 s hs
    have hb := bd_le (s := s) (l := l) hs256
    have hp := p8_le s
    rw [m_X6_findWays_L112, m_X12_layEvening_L58, if_neg (show ¬ (8 : Int32) ≤ nI l from nI_ge (b := 8) (by omega) (by omega)), q_at hs256 (by omega), w1, show (50 : Int32) = nI 50 from rfl, q_at (by omega) (by omega), if_neg g, q_at hs256 (by omega), w3]
    by_cases hz : wv s = 0
    · have hle : nI (wv s) ≤ 0 := by rw [hz]; decide
      refine ⟨wy, re, wr, wv, ?_, ?_, wR_s hR (Or.inl hz)⟩
      · rw [if_pos hle, q_let, nI_1]
      · rw [if_pos hle, q_let, nI_1]
    · have hnle : ¬ nI (wv s) ≤ 0 := nI_nle (by omega) (by omega)
      obtain ⟨r1, r2⟩ := hR.2.2.2.1 s hs256 (by omega)
      rw [if_neg hnle, if_neg hnle, q_call (folX hE hs256 (by omega) hfb r1 r2), q_call (folR h hE hB hU hs256 (show l < nv (n 50) by omega) (hsh s hs)), if_pos (show l < nv (n 50) by omega)]
      by_cases hcf : cf n (Mu (nv (n 53))) s l = true
      · obtain ⟨c1, c2, c3⟩ := cf_bit hcf
        obtain ⟨a1, a2, a3, a4⟩ := bit_add s hs256 l (by omega) c1
        have hle := ((hfb l (by omega)).1 (by omega) c2).1
        rw [b2_t hcf, if_neg one_ne0, if_neg one_ne0, a2, q_let, q_let, q_at a1 (by omega), q_at hs256 (by omega), q_wr a1 (by omega), q_at hs256 (by omega), q_at (by omega) (by omega), q_wr a1 (by omega), q_at a1 (by omega), q_at hs256 (by omega), q_wr a1 (by omega), nI_1, q_let, q_let]
        exact dl_in h hE hB hU hfb hsh a b c d k103 k51 sw yet x1 hs m (l + 1) fu fu2 _ _ _ _ (by omega) (by omega) (by omega) (wR_add hR h9 hs (by omega) (by omega) hcf hle)
      · rw [b2_f hcf, if_pos rfl, if_pos rfl, q_let, q_let, nI_1]
        exact dl_in h hE hB hU hfb hsh a b c d k103 k51 sw yet x1 hs m (l + 1) fu fu2 _ _ _ _ (by omega) (by omega) (by omega) (wR_l hR (fun _ => hcf))
theorem x103r (h9 : nv (n 50) < 9) {M : Nat} (a b e5 : Int32) (c d f5 : Nat → Int32) (sw wy re : Nat → Int32) (hz : ∀ t, t < 256 → 2 ^ nv (n 50) ≤ t → wy t = 0) : ∀ (m s fu : Nat), s + m = 256 → m < fu → 2 ^ nv (n 50) ≤ s → m_X6_findWays_L103 a b c d e5 f5 fu sw le fb wy re (nI s) = some (sw, le, fb, wy, re)
  | m, s, 0, _, h0, _ => absurd h0 (Nat.not_lt_zero m)
  | 0, s, fu + 1, e, _, _ => by
    rw [m_X6_findWays_L103, if_pos (show (256 : Int32) ≤ nI s from nI_le (a := 256) (by omega) (by omega))]
  | m + 1, s, fu + 1, e, hfu, hN => by
    rw [m_X6_findWays_L103, if_neg (show ¬ (256 : Int32) ≤ nI s from nI_ge (b := 256) (by omega) (by omega))]
    have : m_X6_findWays_L112 a b c d e5 f5 (m_X6_findWays_L103 a b c d e5 f5 fu) mFU sw le fb wy re (nI s) (0 : Int32) = m_X6_findWays_L103 a b c d e5 f5 fu sw le fb wy re (nI (s + 1)) := by
      show m_X6_findWays_L112 a b c d e5 f5 (m_X6_findWays_L103 a b c d e5 f5 fu) (999 + 1) sw le fb wy re (nI s) (0 : Int32) = _
      rw [m_X6_findWays_L112, if_neg (by decide), q_at (by omega) (by omega), hz s (by omega) hN, if_pos (by decide), q_let, nI_1]
    rw [this]
    exact x103r h9 (M := M) a b e5 c d f5 sw wy re hz m (s + 1) fu (by omega) (by omega) (by omega)
theorem dl_out (h : relL F V n) (hE : relE F V n) (hB : relB n (Mu (nv (n 53)))) (hU : relU F V n Mu) (hfb : fbOk n (Mu (nv (n 53))) le fb) (hsh : ∀ t, t < 2 ^ nv (n 50) → sh t = nI (shN n t (nv (n 50)))) (a b : Int32) (c d : Nat → Int32) (sw yet : Nat → Int32) : ∀ (m s fu fu2 : Nat) (wy re wr : Nat → Int32) (wv : Nat → Nat), s + m = 2 ^ nv (n 50) → 256 < fu + s → m < fu2 → wR n (Mu (nv (n 53))) s 0 wy re wr wv → ∃ wy' re' wr' wv', m_X6_findWays_L103 a b c d (V 5) (F 5) fu sw le fb wy re (nI s) = some (sw, le, fb, wy', re') ∧ m_X12_layEvening_L51 n fu2 sh wr yet (nI (2 ^ nv (n 50))) (nI s) = m_X12_layEvening_L122 n mFU sh wr' yet (nI (2 ^ nv (n 50) - 1)) ∧ wR n (Mu (nv (n 53))) (2 ^ nv (n 50)) 0 wy' re' wr' wv'
  | m, s, fu, 0, wy, re, wr, wv, _, _, h0, _ => absurd h0 (Nat.not_lt_zero m)
  | 0, s, fu, fu2 + 1, wy, re, wr, wv, e, hfu, _, hR => by
    have h9 := h.2.1.1
    obtain ⟨p1, p2, p3⟩ := pow_is (nv (n 50)) h9
    have es : s = 2 ^ nv (n 50) := by omega
    refine ⟨wy, re, wr, wv, x103r h9 (M := 0) a b (V 5) c d (F 5) sw wy re (fun t ht ht2 => by rw [(hR.1 t ht).1, hR.2.2.1 t ht ht2]; rfl) (256 - s) s fu (by omega) (by omega) (by omega), ?_, by rw [es] at hR; exact hR⟩
    rw [m_X12_layEvening_L51, if_pos (nI_le (by omega) (by omega)), show nI (2 ^ nv (n 50)) - (1 : Int32) = nI (2 ^ nv (n 50) - 1) from pk_sub (b := 1) (by omega), q_let]
  | m + 1, s, 0, fu2 + 1, wy, re, wr, wv, e, hfu, _, hR => by
    have h9 := h.2.1.1
    obtain ⟨p1, p2, p3⟩ := pow_is (nv (n 50)) h9
    omega
  | m + 1, s, fu + 1, fu2 + 1, wy, re, wr, wv, e, hfu, hfu2, hR => by
    have h9 := h.2.1.1
    obtain ⟨p1, p2, p3⟩ := pow_is (nv (n 50)) h9
    obtain ⟨wy1, re1, wr1, wv1, d1, d2, d3⟩ := dl_in h hE hB hU hfb hsh a b c d (m_X6_findWays_L103 a b c d (V 5) (F 5) fu) (m_X12_layEvening_L51 n fu2) sw yet (nI (2 ^ nv (n 50))) (s := s) (by omega) (nv (n 50)) 0 mFU mFU wy re wr wv (by omega) (by unfold mFU; omega) (by unfold mFU; omega) hR
    rw [m_X6_findWays_L103, m_X12_layEvening_L51, if_neg (show ¬ (256 : Int32) ≤ nI s from nI_ge (b := 256) (by omega) (by omega)), if_neg (nI_ge (by omega) (by omega)), show m_X6_findWays_L112 a b c d (V 5) (F 5) (m_X6_findWays_L103 a b c d (V 5) (F 5) fu) mFU sw le fb wy re (nI s) (0 : Int32) = _ from d1, show m_X12_layEvening_L58 n (m_X12_layEvening_L51 n fu2) mFU sh wr yet (nI (2 ^ nv (n 50))) (nI s) (0 : Int32) = _ from d2]
    exact dl_out h hE hB hU hfb hsh a b c d sw yet m (s + 1) fu fu2 wy1 re1 wr1 wv1 (by omega) (by omega) (by omega) d3
theorem r12 (hw : relW F n) (h : relL F V n) (yet : Nat → Int32) : ∀ (m s fu : Nat) (sh wr : Nat → Int32), s + m = 2 ^ nv (n 50) → m < fu → (∀ t, t < s → sh t = nI (shN n t (nv (n 50))) ∧ wr t = if t = 0 then 1 else 0) → ∃ sh' wr', m_X12_layEvening_L12 n fu sh wr yet (nI (2 ^ nv (n 50))) (nI s) = m_X12_layEvening_L51 n mFU sh' wr' yet (nI (2 ^ nv (n 50))) (0 : Int32) ∧ ∀ t, t < 2 ^ nv (n 50) → sh' t = nI (shN n t (nv (n 50))) ∧ wr' t = if t = 0 then 1 else 0
  | m, s, 0, sh, wr, _, h0, _ => absurd h0 (Nat.not_lt_zero m)
  | 0, s, fu + 1, sh, wr, e, _, hi => by
    have h9 := h.2.1.1
    obtain ⟨p1, p2, p3⟩ := pow_is (nv (n 50)) h9
    refine ⟨sh, wr, ?_, fun t ht => hi t (by omega)⟩
    rw [m_X12_layEvening_L12, if_pos (nI_le (by omega) (by omega))]
  | m + 1, s, fu + 1, sh, wr, e, hfu, hi => by
    have h9 := h.2.1.1
    obtain ⟨p1, p2, p3⟩ := pow_is (nv (n 50)) h9
    have hn : ∀ v : Int32, v = (if s = 0 then 1 else 0) → ∃ sh' wr', m_X12_layEvening_L12 n fu (upd sh s (nI (shN n s (nv (n 50))))) (upd wr s v) yet (nI (2 ^ nv (n 50))) (nI (s + 1)) = m_X12_layEvening_L51 n mFU sh' wr' yet (nI (2 ^ nv (n 50))) (0 : Int32) ∧ ∀ t, t < 2 ^ nv (n 50) → sh' t = nI (shN n t (nv (n 50))) ∧ wr' t = if t = 0 then 1 else 0 := fun v hv => r12 hw h yet m (s + 1) fu _ _ (by omega) (by omega) (fun t ht => by
      by_cases hts : t = s
      · rw [hts, upd_eq, upd_eq]
        exact ⟨rfl, hv⟩
      · rw [upd_ne hts, upd_ne hts]
        exact hi t (by omega))
    rw [m_X12_layEvening_L12, if_neg (nI_ge (by omega) (by omega)), q_call (allShown_ok hw h (by omega)), q_wr (by omega) (by omega)]
    by_cases hz : s = 0
    · rw [if_pos (show nI s = 0 by rw [hz]; rfl), q_wr (by omega) (by omega), q_let, nI_1]
      exact hn 1 (if_pos hz).symm
    · rw [if_neg (nI_ne0 (by omega) (by omega)), q_wr (by omega) (by omega), q_let, nI_1]
      exact hn 0 (if_neg hz).symm
theorem shN_0 (n : Nat → Int32) : ∀ k, shN n 0 k = 0
  | 0 => rfl
  | k + 1 => by
    show (if (0 : Nat).testBit k = true then shN n 0 k + lnN n k else shN n 0 k) = 0
    rw [Nat.zero_testBit, if_neg (by decide)]
    exact shN_0 n k
/-- both have laid the ways -/
theorem ways_ok (hw : relW F n) (h : relL F V n) (hE : relE F V n) (hB : relB n (Mu (nv (n 53)))) (hU : relU F V n Mu) (sw0 le0 fb0 wy0 re0 sh0 wr0 yet : Nat → Int32) : ∃ sw le fb wy re sh wr wv, m_X6_findWays (V 10) (V 1) (F 3) sw0 (F 0) le0 (V 5) (F 5) fb0 wy0 re0 = some (sw, le, fb, wy, re) ∧ m_X12_layEvening n sh0 wr0 yet = m_X12_layEvening_L122 n mFU sh wr yet (nI (2 ^ nv (n 50) - 1)) ∧ fbOk n (Mu (nv (n 53))) le fb ∧ (∀ t, t < 2 ^ nv (n 50) → sh t = nI (shN n t (nv (n 50)))) ∧ wR n (Mu (nv (n 53))) (2 ^ nv (n 50)) 0 wy re wr wv := by
  have h9 := h.2.1.1
  obtain ⟨p1, p2, p3⟩ := pow_is (nv (n 50)) h9
  obtain ⟨sw, le, fb, a1, a2⟩ := ways2 hw h hE hB hU 8 0 mFU sw0 le0 fb0 wy0 re0 (by omega) (by unfold mFU; omega) (fun l hl => absurd hl (Nat.not_lt_zero l))
  obtain ⟨sh, wr, b1, b3⟩ := r12 hw h yet (2 ^ nv (n 50)) 0 mFU sh0 wr0 (by omega) (by unfold mFU; omega) (fun t ht => absurd ht (Nat.not_lt_zero t))
  obtain ⟨wy, re, wr', wv, d1, d2, d3⟩ := dl_out h hE hB hU a2 (fun t ht => (b3 t ht).1) (V 10) (V 1) (F 3) (F 0) sw yet (2 ^ nv (n 50)) 0 mFU mFU (upd (fun j => if j < 256 then 0 else wy0 j) 0 1) (upd re0 0 0) wr (fun t => if t = 0 then 1 else 0) (by omega) (by unfold mFU; omega) (by unfold mFU; omega) (by
    refine ⟨fun t ht => ?_, fun t ht => ?_, fun t ht ht2 => if_neg (by omega), fun t ht hp => ?_, (show 0 < (if 0 = 0 then 1 else 0) by decide), fun t j hj => by omega⟩
    · show upd (fun j => if j < 256 then 0 else wy0 j) 0 1 t = nI (if t = 0 then 1 else 0) ∧ (if t = 0 then 1 else 0) ≤ bd t 0 0
      by_cases hz : t = 0
      · subst hz
        rw [upd_eq]
        exact ⟨rfl, Nat.le_refl 1⟩
      · rw [upd_ne hz, if_neg hz]
        show (if t < 256 then 0 else wy0 t) = nI 0 ∧ _
        rw [if_pos ht]
        exact ⟨rfl, Nat.zero_le _⟩
    · rw [(b3 t ht).2]
      show _ = nI (if t = 0 then 1 else 0)
      by_cases hz : t = 0
      · rw [if_pos hz, if_pos hz]; rfl
      · rw [if_neg hz, if_neg hz]; rfl
    · have hz : t = 0 := by
        by_cases hz : t = 0
        · exact hz
        · have hp' : 0 < (if t = 0 then 1 else 0) := hp
          rw [if_neg hz] at hp'
          omega
      rw [hz, upd_eq, shN_0]
      exact ⟨rfl, Nat.zero_le _⟩)
  refine ⟨sw, le, fb, wy, re, sh, wr', wv, ?_, ?_, a2, fun t ht => (b3 t ht).1, d3⟩
  · unfold m_X6_findWays
    exact Eq.trans a1 d1
  · unfold m_X12_layEvening
    rw [show (50 : Int32) = nI 50 from rfl, q_at (by omega) (by omega), (congrArg (fun z => (1 : Int32) <<< (z &&& 31)) h.2.1.2).trans p1, q_let]
    exact Eq.trans b1 d2
end DL
