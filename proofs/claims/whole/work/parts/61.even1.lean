-- rows, fewest: where a lump fits behind
def lnN (n : Nat → Int32) (l : Nat) : Nat := cn n l (bn n l)
def nxP (n : Nat → Int32) (l r : Nat) : Prop := ∀ t, t < bn n l → ¬ wt n l t = -1 → r + cn n l t < nv (n 78) ∧ n (79 + (r + cn n l t)) = wt n l t
def nx (n : Nat → Int32) (l r : Nat) : Bool := decide (∀ t, t < bn n l → ¬ wt n l t = -1 → r + cn n l t < nv (n 78) ∧ n (79 + (r + cn n l t)) = wt n l t)
theorem nx_iff {n : Nat → Int32} {l r : Nat} : nx n l r = true ↔ nxP n l r := by
  unfold nx nxP
  exact decide_eq_true_iff
theorem nx_t {n : Nat → Int32} {l r : Nat} (h : nxP n l r) : nx n l r = true := nx_iff.mpr h
theorem nx_f {n : Nat → Int32} {l r : Nat} (h : ¬ nxP n l r) : nx n l r = false := by
  cases hq : nx n l r with
  | true => exact absurd (nx_iff.mp hq) h
  | false => rfl
section NX
variable {F : Nat → Nat → Int32} {V n : Nat → Int32} {l r : Nat}
theorem lnN_le (h : relL F V n) (hl : l < nv (n 50)) : lnN n l ≤ 12 := by
  have h1 := cn_le n l (bn n l)
  have h2 := bn_lt h hl
  unfold lnN
  omega
theorem isN_0 (h : relL F V n) (hl : l < nv (n 50)) (x3 x5 : Int32) (fu : Nat) : m_X12_isNext_L8 n (fu + 1) (nI l) x3 0 x5 = some 0 := by
  rw [m_X12_isNext_L8, q_call (burns_ok h hl), q_z (by decide), if_pos rfl]
  by_cases g : nI (bn n l) ≤ x5
  · rw [if_pos g]
  · rw [if_neg g]
theorem isN_aux (h : relL F V n) (hE : relE F V n) (hl : l < nv (n 50)) (hr : r ≤ 100) : ∀ (k t fu : Nat), t + k = bn n l → k < fu → (m_X12_isNext_L8 n fu (nI l) (nI (r + cn n l t)) 1 (nI t) = some 1 ∧ ∀ u, t ≤ u → u < bn n l → ¬ wt n l u = -1 → r + cn n l u < nv (n 78) ∧ n (79 + (r + cn n l u)) = wt n l u) ∨ (m_X12_isNext_L8 n fu (nI l) (nI (r + cn n l t)) 1 (nI t) = some 0 ∧ ∃ u, u < bn n l ∧ ¬ wt n l u = -1 ∧ ¬ (r + cn n l u < nv (n 78) ∧ n (79 + (r + cn n l u)) = wt n l u))
  | k, t, 0, _, h0 => absurd h0 (Nat.not_lt_zero k)
  | 0, t, fu + 1, e, _ => by
    have hb := bn_lt h hl
    refine Or.inl ⟨?_, fun u h1 h2 => by omega⟩
    rw [m_X12_isNext_L8, q_call (burns_ok h hl), if_pos (nI_le (by omega) (by omega)), q_z (by decide)]
  | k + 1, t, fu + 1, e, hfu => by
    have hb := bn_lt h hl
    have h11 := hE.2.1.1
    have hcn := cn_le n l t
    obtain ⟨z, ez⟩ : ∃ z, fu = z + 1 := ⟨fu - 1, by omega⟩
    rw [m_X12_isNext_L8, q_call (burns_ok h hl), if_neg (nI_ge (by omega) (by omega)), if_neg one_ne0, q_call (weatherOf_ok h hl (by omega)), nI_1, nI_1, q_let, q_let, q_let, q_let, q_let]
    by_cases hz : wt n l t = -1
    · rw [if_pos hz]
      have ih := isN_aux h hE hl hr k (t + 1) fu (by omega) (by omega)
      rw [cn_no hz] at ih
      rcases ih with ⟨i1, i2⟩ | ⟨i1, i2⟩
      · refine Or.inl ⟨i1, fun u h1 h2 h3 => ?_⟩
        by_cases hut : u = t
        · rw [hut] at h3; exact absurd hz h3
        · exact i2 u (by omega) h2 h3
      · exact Or.inr ⟨i1, i2⟩
    · rw [if_neg hz, show (78 : Int32) = nI 78 from rfl, q_at (by omega) (by omega)]
      by_cases hlt : r + cn n l t < nv (n 78)
      · have g : ¬ n 78 ≤ nI (r + cn n l t) := by rw [hE.2.1.2]; exact nI_ge hlt (by omega)
        rw [if_neg g, show (79 : Int32) + nI (r + cn n l t) = nI (79 + (r + cn n l t)) from nI_add 79 _, q_at (by omega) (by omega)]
        by_cases he : n (79 + (r + cn n l t)) = wt n l t
        · rw [if_pos he]
          have ih := isN_aux h hE hl hr k (t + 1) fu (by omega) (by omega)
          rw [cn_yes hz] at ih
          rcases ih with ⟨i1, i2⟩ | ⟨i1, i2⟩
          · refine Or.inl ⟨i1, fun u h1 h2 h3 => ?_⟩
            by_cases hut : u = t
            · rw [hut]; exact ⟨hlt, he⟩
            · exact i2 u (by omega) h2 h3
          · exact Or.inr ⟨i1, i2⟩
        · rw [if_neg he, ez]
          exact Or.inr ⟨isN_0 h hl _ _ z, t, by omega, hz, fun q => he q.2⟩
      · have g : n 78 ≤ nI (r + cn n l t) := by rw [hE.2.1.2]; exact nI_le (by omega) (by omega)
        rw [if_pos g, ez]
        exact Or.inr ⟨isN_0 h hl _ _ z, t, by omega, hz, fun q => hlt q.1⟩
theorem isNext_ok (h : relL F V n) (hE : relE F V n) (hl : l < nv (n 50)) (hr : r ≤ 100) : m_X12_isNext n (nI l) (nI r) = some (b2 (nx n l r)) := by
  have hb := bn_lt h hl
  unfold m_X12_isNext
  rcases isN_aux h hE hl hr (bn n l) 0 mFU (by omega) (by unfold mFU; omega) with ⟨i1, i2⟩ | ⟨i1, u, i2, i3, i4⟩
  · rw [nx_t (fun t h1 h2 => i2 t (Nat.zero_le t) h1 h2)]
    exact i1
  · rw [nx_f (fun q => i4 (q u i2 i3))]
    exact i1
theorem evAt (hE : relE F V n) {i : Nat} (hi : i < nv (n 78)) : m_X9_at (V 5) (F 5) (nI i) (0 : Int32) = some (n (79 + i)) := by
  obtain ⟨h1, h2, h3⟩ := hE
  have h11 := h2.1
  rw [h1, h2.2, show m_X9_at (nI (nv (n 78))) (F 5) (nI i) (0 : Int32) = _ from at_ok (c := 0) hi (by omega) (by omega)]
  exact congrArg some (h3 i hi).1
theorem pl20 (hE : relE F V n) {c p : Nat} {f : Nat → Int32} (hp : p + c ≤ nv (n 78)) (k4 : Int32 → Int32 → Int32 → Option (Int32)) (x2 : Int32) : ∀ (m k fu : Nat), k + m = c → m < fu → ∃ a, a ≤ c ∧ m_X6_placesFor_L20 (V 5) f (F 5) k4 fu (nI c) x2 (nI p) (nI k) = m_X6_placesFor_B53 (V 5) f (F 5) k4 (nI c) x2 (nI p) (nI a) ∧ (a = c ↔ ∀ j, k ≤ j → j < c → f j = n (79 + (p + j)))
  | m, k, 0, _, h0 => absurd h0 (Nat.not_lt_zero m)
  | 0, k, fu + 1, e, _ => by
    have h11 := hE.2.1.1
    refine ⟨c, Nat.le_refl c, ?_, ⟨fun _ j h1 h2 => by omega, fun _ => rfl⟩⟩
    rw [m_X6_placesFor_L20, if_pos (nI_le (by omega) (by omega)), show k = c by omega]
  | m + 1, k, fu + 1, e, hfu => by
    have h11 := hE.2.1.1
    rw [m_X6_placesFor_L20, if_neg (nI_ge (by omega) (by omega)), q_call (shownAt_ok (by omega)), nI_add, q_call (evAt hE (by omega)), nI_1, q_let]
    by_cases he : f k = n (79 + (p + k))
    · obtain ⟨a, a1, a2, a3⟩ := pl20 hE (f := f) hp k4 x2 m (k + 1) fu (by omega) (by omega)
      refine ⟨a, a1, ?_, ?_⟩
      · rw [if_pos he]; exact a2
      · rw [a3]
        constructor
        · intro q j h1 h2
          by_cases hjk : j = k
          · rw [hjk]; exact he
          · exact q j (by omega) h2
        · intro q j h1 h2
          exact q j (by omega) h2
    · refine ⟨k, by omega, ?_, ?_⟩
      · rw [if_neg he]
      · constructor
        · intro q; omega
        · intro q; exact absurd (q k (Nat.le_refl k) (by omega)) he
theorem pl53 (v : Int32) (f g : Nat → Int32) (k4 : Int32 → Int32 → Int32 → Option (Int32)) {c a p : Nat} (hc : c < 1000) (ha : a < 1000) (x2 : Int32) : m_X6_placesFor_B53 v f g k4 (nI c) x2 (nI p) (nI a) = if a = c then k4 (nI c) (x2 ||| ((1 : Int32) <<< (nI p &&& 31))) (nI (p + 1)) else k4 (nI c) x2 (nI (p + 1)) := by
  unfold m_X6_placesFor_B53
  rw [nI_1, q_let, q_let, q_let]
  by_cases h : a = c
  · rw [if_pos (show nI a = nI c by rw [h]), if_pos h]
  · rw [if_neg (fun q => h ((nI_eq (by omega) (by omega)).mp q)), if_neg h]
theorem or_tab2 : ∀ c, c < 11 → ∀ m, m < 2 ^ c → nI m ||| ((1 : Int32) <<< (nI c &&& 31)) = nI (m + 2 ^ c) := by decide +kernel
theorem al_iff {f : Nat → Int32} (hf : ∀ u, u < bn n l → ¬ wt n l u = -1 → f (cn n l u) = wt n l u) {p : Nat} (hp : p + lnN n l ≤ nv (n 78)) : (∀ j, 0 ≤ j → j < lnN n l → f j = n (79 + (p + j))) ↔ nxP n l p := by
  constructor
  · intro q t h1 h2
    have h3 := cn_lt h1 h2
    have h4 := q (cn n l t) (Nat.zero_le _) h3
    rw [hf t h1 h2] at h4
    unfold lnN at hp
    exact ⟨by omega, h4.symm⟩
  · intro q j _ hj
    obtain ⟨t, t1, t2, t3⟩ := cn_surj n l (bn n l) j hj
    have h4 := (q t t1 t3).2
    rw [← t2, h4]
    exact hf t t1 t3
theorem pl4 (hE : relE F V n) {f : Nat → Int32} (hf : ∀ u, u < bn n l → ¬ wt n l u = -1 → f (cn n l u) = wt n l u) (hc : lnN n l ≤ 12) : ∀ (m p fu : Nat), p + m = nv (n 78) + 1 - lnN n l → m < fu → m_X6_placesFor_L4 (V 5) f (F 5) fu (nI (lnN n l)) (nI (pm (nx n l) p)) (nI p) = some (nI (pm (nx n l) (nv (n 78) + 1 - lnN n l)))
  | m, p, 0, _, h0 => absurd h0 (Nat.not_lt_zero m)
  | 0, p, fu + 1, e, _ => by
    have h11 := hE.2.1.1
    have g : V 5 < nI p + nI (lnN n l) := by rw [hE.1, hE.2.1.2, nI_add]; exact nI_lt (by omega) (by omega)
    rw [m_X6_placesFor_L4, if_pos g, show p = nv (n 78) + 1 - lnN n l by omega]
  | m + 1, p, fu + 1, e, hfu => by
    have h11 := hE.2.1.1
    have g : ¬ V 5 < nI p + nI (lnN n l) := by rw [hE.1, hE.2.1.2, nI_add]; exact nI_nlt (by omega) (by omega)
    have hp : p + lnN n l ≤ nv (n 78) := by omega
    obtain ⟨a, a1, a2, a3⟩ := pl20 (p := p) hE (f := f) hp (m_X6_placesFor_L4 (V 5) f (F 5) fu) (nI (pm (nx n l) p)) (lnN n l) 0 mFU (by omega) (by unfold mFU; omega)
    rw [al_iff hf hp] at a3
    have ih := pl4 hE hf hc m (p + 1) fu (by omega) (by omega)
    rw [show pm (nx n l) (p + 1) = if nx n l p = true then pm (nx n l) p + 2 ^ p else pm (nx n l) p from rfl] at ih
    rw [m_X6_placesFor_L4, if_neg g, show m_X6_placesFor_L20 (V 5) f (F 5) (m_X6_placesFor_L4 (V 5) f (F 5) fu) mFU (nI (lnN n l)) (nI (pm (nx n l) p)) (nI p) (0 : Int32) = _ from a2, pl53 _ _ _ _ (by omega) (by omega)]
    by_cases h : nxP n l p
    · rw [if_pos (nx_t h)] at ih
      rw [if_pos (a3.mpr h), or_tab2 p (by omega) _ (pm_lt _ _)]
      exact ih
    · rw [if_neg (by rw [nx_f h]; decide)] at ih
      rw [if_neg (fun q => h (a3.mp q))]
      exact ih
theorem placesFor_ok (hE : relE F V n) {f : Nat → Int32} (hf : ∀ u, u < bn n l → ¬ wt n l u = -1 → f (cn n l u) = wt n l u) (hc : lnN n l ≤ 12) : m_X6_placesFor (V 5) f (F 5) (nI (lnN n l)) = some (nI (pm (nx n l) (nv (n 78) + 1 - lnN n l))) := by
  have h11 := hE.2.1.1
  unfold m_X6_placesFor
  exact pl4 hE hf hc (nv (n 78) + 1 - lnN n l) 0 mFU (by omega) (by unfold mFU; omega)
theorem nx_high (hr : r + lnN n l > nv (n 78)) (hr2 : r ≤ nv (n 78)) : nx n l r = false := by
  refine nx_f (fun q => ?_)
  obtain ⟨t, t1, t2, t3⟩ := cn_surj n l (bn n l) (lnN n l - 1) (show lnN n l - 1 < lnN n l by omega)
  have := (q t t1 t3).1
  omega
end NX
theorem sh_tab : ∀ r, r < 11 → ((nI r &&& 31).toBitVec.smod 32).toNat = r := by decide +kernel
theorem bit_is2 {m r : Nat} (hm : m < 2048) (hr : r < 11) : ((nI m >>> (nI r &&& 31)) &&& (1 : Int32)) = if m.testBit r = true then 1 else 0 := by
  have hd := Nat.div_le_self m (2 ^ r)
  rw [pk_shrN (by omega) _ r (sh_tab r hr), pk_andN (n := m / 2 ^ r) (by omega) (m := 1) 1 (by decide), Nat.testBit_eq_decide_div_mod_eq]
  rw [show (2 : Nat) ^ 1 = 2 from rfl]
  by_cases h : m / 2 ^ r % 2 = 1
  · rw [if_pos (decide_eq_true_iff.mpr h), h]
    rfl
  · have h0 : m / 2 ^ r % 2 = 0 := by omega
    rw [if_neg (fun q => h (decide_eq_true_iff.mp q)), h0]
    rfl
theorem pm_bit (P : Nat → Bool) {r : Nat} : ∀ k, (pm P k).testBit r = (decide (r < k) && P r)
  | 0 => by
    show (0 : Nat).testBit r = _
    rw [Nat.zero_testBit]
    simp
  | k + 1 => by
    have ih := pm_bit P (r := r) k
    have hlt := pm_lt P (k + 1)
    rcases Nat.lt_or_ge r (k + 1) with h | h
    · show (if P k = true then pm P k + 2 ^ k else pm P k).testBit r = _
      by_cases hk : P k = true
      · rw [if_pos hk, Nat.add_comm]
        by_cases hrk : r = k
        · subst hrk
          rw [Nat.testBit_two_pow_add_eq, ih, hk]
          simp
        · rw [Nat.testBit_two_pow_add_gt (by omega), ih]
          simp [show r < k by omega, h]
      · rw [if_neg hk, ih]
        by_cases hrk : r = k
        · subst hrk
          simp [hk]
        · simp [show r < k by omega, h]
    · rw [Nat.testBit_lt_two_pow (Nat.lt_of_lt_of_le hlt (Nat.pow_le_pow_right (n := 2) (by omega) h))]
      simp [show ¬ r < k + 1 by omega]
/-- how many a set shows -/
def shN (n : Nat → Int32) (s : Nat) : Nat → Nat
  | 0 => 0
  | l + 1 => if s.testBit l = true then shN n s l + lnN n l else shN n s l
theorem shN_add {n : Nat → Int32} {s l : Nat} (hs : s < 256) (hl : l < 8) (hb : s.testBit l = false) : ∀ k, k ≤ 8 → shN n (s + 2 ^ l) k = if l < k then shN n s k + lnN n l else shN n s k
  | 0, _ => by rw [if_neg (Nat.not_lt_zero l)]; rfl
  | k + 1, hk => by
    have ih := shN_add (n := n) hs hl hb k (by omega)
    have hbit := (bit_add s hs l hl hb).2.2.2 k (by omega)
    show (if (s + 2 ^ l).testBit k = true then shN n (s + 2 ^ l) k + lnN n k else shN n (s + 2 ^ l) k) = if l < k + 1 then (if s.testBit k = true then shN n s k + lnN n k else shN n s k) + lnN n l else (if s.testBit k = true then shN n s k + lnN n k else shN n s k)
    rw [ih, hbit]
    by_cases hkl : k = l
    · subst hkl
      rw [hb, if_neg (Nat.lt_irrefl k), if_pos (show k < k + 1 by omega), if_neg (show ¬ false = true by decide), if_pos (by simp)]
    · rw [show (s.testBit k || k == l) = s.testBit k by simp [hkl]]
      by_cases hlk : l < k
      · rw [if_pos hlk, if_pos (show l < k + 1 by omega)]
        by_cases hq : s.testBit k = true
        · rw [if_pos hq, if_pos hq]; omega
        · rw [if_neg hq, if_neg hq]
      · rw [if_neg hlk, if_neg (show ¬ l < k + 1 by omega)]
theorem shN_le {F : Nat → Nat → Int32} {V n : Nat → Int32} (h : relL F V n) (s : Nat) : ∀ k, k ≤ nv (n 50) → shN n s k ≤ 12 * k
  | 0, _ => Nat.le_refl 0
  | k + 1, hk => by
    have ih := shN_le h s k (by omega)
    have h2 := lnN_le h (l := k) (by omega)
    show (if s.testBit k = true then shN n s k + lnN n k else shN n s k) ≤ 12 * (k + 1)
    by_cases hq : s.testBit k = true
    · rw [if_pos hq]; omega
    · rw [if_neg hq]; omega
/-- whether a lump can follow a set -/
def cf (n : Nat → Int32) (M s l : Nat) : Bool := !(s.testBit l) && !(M.testBit l) && nx n l (shN n s (nv (n 50)))
theorem cf_bit {n : Nat → Int32} {M s l : Nat} (h : cf n M s l = true) : s.testBit l = false ∧ M.testBit l = false ∧ nx n l (shN n s (nv (n 50))) = true := by
  unfold cf at h
  cases h1 : s.testBit l <;> cases h2 : M.testBit l <;> cases h3 : nx n l (shN n s (nv (n 50))) <;> simp [h1, h2, h3] at h ⊢
section CF
variable {F : Nat → Nat → Int32} {V n : Nat → Int32} {s l : Nat} {Mu : Nat → Nat}
theorem allShown_aux (hw : relW F n) (h : relL F V n) (hs : s < 256) : ∀ (k l fu : Nat), l + k = nv (n 50) → k < fu → m_X12_allShown_L4 n fu (nI s) (nI (shN n s l)) (nI l) = some (nI (shN n s (nv (n 50))))
  | k, l, 0, _, h0 => absurd h0 (Nat.not_lt_zero k)
  | 0, l, fu + 1, e, _ => by
    have h9 := h.2.1.1
    have g : n 50 ≤ nI l := by rw [h.2.1.2]; exact nI_le (by omega) (by omega)
    rw [m_X12_allShown_L4, show (50 : Int32) = nI 50 from rfl, q_at (by omega) (by omega), if_pos g, show l = nv (n 50) by omega]
  | k + 1, l, fu + 1, e, hfu => by
    have h9 := h.2.1.1
    have g : ¬ n 50 ≤ nI l := by rw [h.2.1.2]; exact nI_ge (by omega) (by omega)
    have ih := allShown_aux hw h hs k (l + 1) fu (by omega) (by omega)
    rw [show shN n s (l + 1) = if s.testBit l = true then shN n s l + lnN n l else shN n s l from rfl] at ih
    rw [m_X12_allShown_L4, show (50 : Int32) = nI 50 from rfl, q_at (by omega) (by omega), if_neg g, q_call (has_is hs (by omega))]
    by_cases hq : s.testBit l = true
    · rw [if_pos hq] at ih
      rw [if_pos hq, if_neg one_ne0, q_call (many_ok hw h (by omega)), nI_add, nI_1, q_let, q_let]
      exact ih
    · rw [if_neg hq] at ih
      rw [if_neg hq, if_pos rfl, show nI (shN n s l) + (0 : Int32) = nI (shN n s l) from nI_add _ 0, nI_1, q_let, q_let]
      exact ih
theorem allShown_ok (hw : relW F n) (h : relL F V n) (hs : s < 256) : m_X12_allShown n (nI s) = some (nI (shN n s (nv (n 50)))) := by
  have h9 := h.2.1.1
  unfold m_X12_allShown
  exact allShown_aux hw h hs (nv (n 50)) 0 mFU (by omega) (by unfold mFU; omega)
theorem folR (h : relL F V n) (hE : relE F V n) (hB : relB n (Mu (nv (n 53)))) (hU : relU F V n Mu) {sh : Nat → Int32} (hs : s < 256) (hl : l < nv (n 50)) (hsh : sh s = nI (shN n s (nv (n 50)))) : m_X12_canFollow n sh (nI s) (nI l) = some (b2 (cf n (Mu (nv (n 53))) s l)) := by
  have h9 := h.2.1.1
  have h96 := shN_le h s (nv (n 50)) (Nat.le_refl _)
  unfold m_X12_canFollow cf
  rw [q_call (has_is hs (by omega))]
  by_cases hq : s.testBit l = true
  · rw [if_pos hq, if_neg one_ne0, hq]
    rfl
  · have hq' : s.testBit l = false := by
      cases hh : s.testBit l with
      | true => exact absurd hh hq
      | false => rfl
    rw [if_neg hq, if_pos rfl, hq']
    rcases burnt_c h hB hU hl with ⟨_, _, b3, b4⟩ | ⟨_, _, b3, b4⟩
    · rw [q_call b3, if_pos rfl, q_at hs (by omega), hsh, q_call (isNext_ok h hE hl (by omega)), b4]
      cases nx n l (shN n s (nv (n 50))) with
      | true => rw [if_neg (show ¬ b2 true = 0 from one_ne0)]; rfl
      | false => rw [if_pos (show b2 false = 0 from rfl)]; rfl
    · rw [q_call b3, if_neg one_ne0, b4]
      rfl
/-- what the class has of each lump -/
def fbOk (n : Nat → Int32) (M : Nat) (le fb : Nat → Int32) : Prop := ∀ l, l < 8 → (l < nv (n 50) → M.testBit l = false → le l = nI (lnN n l) ∧ fb l = nI (pm (nx n l) (nv (n 78) + 1 - lnN n l))) ∧ ((nv (n 50) ≤ l ∨ M.testBit l = true) → fb l = 0)
theorem zero_sr (r : Int32) : ((0 : Int32) >>> r) &&& 1 = 0 := by
  rw [Int32.zero_shiftRight, Int32.zero_and]
theorem folX (hE : relE F V n) {M : Nat} {le fb re : Nat → Int32} (hs : s < 256) (hl : l < 8) (hfb : fbOk n M le fb) (hre : re s = nI (shN n s (nv (n 50)))) (hsE : shN n s (nv (n 50)) ≤ nv (n 78)) : m_X6_canFollow fb re (nI s) (nI l) = some (b2 (if l < nv (n 50) then cf n M s l else false)) := by
  have h11 := hE.2.1.1
  unfold m_X6_canFollow
  rw [bit_is s hs l hl]
  by_cases hq : s.testBit l = true
  · rw [if_pos hq, if_neg one_ne0]
    have : (if l < nv (n 50) then cf n M s l else false) = false := by
      unfold cf
      rw [hq]
      by_cases hN : l < nv (n 50)
      · rw [if_pos hN]; rfl
      · rw [if_neg hN]
    rw [this]
    rfl
  · have hq' : s.testBit l = false := by
      cases hh : s.testBit l with
      | true => exact absurd hh hq
      | false => rfl
    rw [if_neg hq, if_pos rfl, q_at hl (by omega), q_at hs (by omega), hre]
    obtain ⟨f1, f2⟩ := hfb l hl
    by_cases hN : l < nv (n 50)
    · rw [if_pos hN]
      cases hM : M.testBit l with
      | true =>
        rw [f2 (Or.inr hM), zero_sr, if_neg (by decide)]
        unfold cf
        rw [hM, hq']
        rfl
      | false =>
        have hpm : pm (nx n l) (nv (n 78) + 1 - lnN n l) < 2048 := Nat.lt_of_lt_of_le (pm_lt _ _) (Nat.le_trans (Nat.pow_le_pow_right (n := 2) (by omega) (show nv (n 78) + 1 - lnN n l ≤ 11 by omega)) (by decide))
        rw [(f1 hN hM).2, bit_is2 hpm (by omega), pm_bit]
        unfold cf
        rw [hM, hq']
        by_cases hlow : shN n s (nv (n 50)) < nv (n 78) + 1 - lnN n l
        · cases hx : nx n l (shN n s (nv (n 50))) with
          | true => rw [if_pos (by simp [hlow])]; rfl
          | false => rw [if_neg (by simp)]; rfl
        · rw [nx_high (by omega) hsE, if_neg (by simp)]
          rfl
    · rw [if_neg hN, f2 (Or.inl (by omega)), zero_sr, if_neg (by decide)]
      rfl
end CF
