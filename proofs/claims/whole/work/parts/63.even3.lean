-- rows, fewest: what lacks
theorem pcn_add {s b : Nat} (hs : s < 256) (hb : b < 8) (h : s.testBit b = false) : pcn (s + 2 ^ b) = pcn s + 1 := by
  obtain ⟨a1, a2, a3, a4⟩ := bit_add s hs b hb h
  have hbit : (s + 2 ^ b).testBit b = true := by rw [a4 b hb]; simp
  have := pcn_del (s + 2 ^ b) a1 b hb hbit
  rw [a3] at this
  omega
/-- what a set lacks: the class's row la, the reference's yt -/
def lB (la yt : Nat → Int32) (t : Nat) : Prop := (la t = -1 ∧ yt t = nI 1000000) ∨ ∃ k, k + pcn t ≤ 8 ∧ la t = nI k ∧ yt t = nI k
def lR (n : Nat → Int32) (M : Nat) (la yt : Nat → Int32) (t : Nat) : Prop := (la t = -1 ∧ yt t = nI 1000000) ∨ ∃ k, k + pcn t ≤ 8 ∧ la t = nI k ∧ yt t = nI k ∧ (k = 0 ∨ ∃ k' l, k = k' + 1 ∧ l < nv (n 50) ∧ cf n M t l = true ∧ la (t + 2 ^ l) = nI k' ∧ yt (t + 2 ^ l) = nI k')
theorem lR_B {n : Nat → Int32} {M : Nat} {la yt : Nat → Int32} {t : Nat} (h : lR n M la yt t) : lB la yt t := by
  rcases h with h | ⟨k, k1, k2, k3, _⟩
  · exact Or.inl h
  · exact Or.inr ⟨k, k1, k2, k3⟩
def lS (n : Nat → Int32) (M s : Nat) (la yt0 : Nat → Int32) (x2 y : Int32) : Prop := (x2 = -1 ∧ y = nI 1000000) ∨ ∃ k l, k + 1 + pcn s ≤ 8 ∧ x2 = nI (k + 1) ∧ y = nI (k + 1) ∧ l < nv (n 50) ∧ cf n M s l = true ∧ la (s + 2 ^ l) = nI k ∧ yt0 (s + 2 ^ l) = nI k
section LA
variable {F : Nat → Nat → Int32} {V n : Nat → Int32} {Mu : Nat → Nat} {le fb sh wr wy re : Nat → Int32} {wv : Nat → Nat}
theorem lb_rest (hE : relE F V n) {M s : Nat} (hs : s < 256) (hfb : fbOk n M le fb) (hre : re s = nI (shN n s (nv (n 50)))) (hsE : shN n s (nv (n 50)) ≤ nv (n 78)) (la : Nat → Int32) (x2 : Int32) : ∀ (m l fu : Nat), l + m = 8 → m < fu → nv (n 50) ≤ l → m_X6_leastBehind_L4 fb re la fu (nI s) x2 (nI l) = some x2
  | m, l, 0, _, h0, _ => absurd h0 (Nat.not_lt_zero m)
  | 0, l, fu + 1, e, _, _ => by
    rw [m_X6_leastBehind_L4, if_pos (show (8 : Int32) ≤ nI l from nI_le (a := 8) (by omega) (by omega))]
  | m + 1, l, fu + 1, e, hfu, hN => by
    rw [m_X6_leastBehind_L4, if_neg (show ¬ (8 : Int32) ≤ nI l from nI_ge (b := 8) (by omega) (by omega)), q_call (folX hE hs (by omega) hfb hre hsE), if_neg (show ¬ l < nv (n 50) by omega), if_pos (show b2 false = 0 from rfl), q_let, nI_1]
    exact lb_rest hE hs hfb hre hsE la x2 m (l + 1) fu (by omega) (by omega) (by omega)
theorem lb_sim (h : relL F V n) (hE : relE F V n) (hB : relB n (Mu (nv (n 53)))) (hU : relU F V n Mu) (hfb : fbOk n (Mu (nv (n 53))) le fb) (hsh : ∀ t, t < 2 ^ nv (n 50) → sh t = nI (shN n t (nv (n 50)))) {s : Nat} (hs : s < 2 ^ nv (n 50)) (hre : re s = nI (shN n s (nv (n 50)))) (hsE : shN n s (nv (n 50)) ≤ nv (n 78)) (la yt0 : Nat → Int32) (hla : ∀ l, l < nv (n 50) → cf n (Mu (nv (n 53))) s l = true → lB la yt0 (s + 2 ^ l)) (k122 : (Nat → Int32) → (Nat → Int32) → (Nat → Int32) → Int32 → Option ((Nat → Int32) × (Nat → Int32) × (Nat → Int32))) : ∀ (m l fu fu2 : Nat) (x2 : Int32) (yt : Nat → Int32), l + m = nv (n 50) → 8 < fu + l → m < fu2 → lS n (Mu (nv (n 53))) s la yt0 x2 (yt s) → (∀ t, t ≠ s → yt t = yt0 t) → ∃ x2' yt', m_X6_leastBehind_L4 fb re la fu (nI s) x2 (nI l) = some x2' ∧ m_X12_layEvening_L156 n k122 fu2 sh wr yt (nI s) (nI l) = k122 sh wr yt' (nI s + (-1)) ∧ lS n (Mu (nv (n 53))) s la yt0 x2' (yt' s) ∧ ∀ t, t ≠ s → yt' t = yt0 t
  | m, l, fu, 0, x2, yt, _, _, h0, _, _ => absurd h0 (Nat.not_lt_zero m)
  | 0, l, fu, fu2 + 1, x2, yt, e, hfu, _, hS, hy => by
    have h9 := h.2.1.1
    obtain ⟨p1, p2, p3⟩ := pow_is (nv (n 50)) h9
    have g : n 50 ≤ nI l := by rw [h.2.1.2]; exact nI_le (by omega) (by omega)
    refine ⟨x2, yt, lb_rest hE (by omega) hfb hre hsE la x2 (8 - l) l fu (by omega) (by omega) (by omega), ?_, hS, hy⟩
    rw [m_X12_layEvening_L156, show (50 : Int32) = nI 50 from rfl, q_at (by omega) (by omega), if_pos g, q_let]
  | m + 1, l, 0, fu2 + 1, x2, yt, e, hfu, _, hS, hy => by
    have h9 := h.2.1.1
    omega
  | m + 1, l, fu + 1, fu2 + 1, x2, yt, e, hfu, hfu2, hS, hy => by
    have h9 := h.2.1.1
    obtain ⟨p1, p2, p3⟩ := pow_is (nv (n 50)) h9
    have hs256 : s < 256 := by omega
    have g : ¬ n 50 ≤ nI l := by rw [h.2.1.2]; exact nI_ge (by omega) (by omega)
    have hpos : ¬ yt s ≤ 0 := by
      rcases hS with ⟨_, q⟩ | ⟨k, l', k1, _, q, _⟩
      · rw [q]; exact nI_nle (by omega) (by omega)
      · rw [q]; exact nI_nle (by omega) (by omega)
    rw [m_X6_leastBehind_L4, m_X12_layEvening_L156, if_neg (show ¬ (8 : Int32) ≤ nI l from nI_ge (b := 8) (by omega) (by omega)), q_call (folX hE hs256 (by omega) hfb hre hsE), show (50 : Int32) = nI 50 from rfl, q_at (by omega) (by omega), if_neg g, q_at hs256 (by omega), if_neg hpos, q_call (folR h hE hB hU hs256 (show l < nv (n 50) by omega) (hsh s hs)), if_pos (show l < nv (n 50) by omega)]
    by_cases hcf : cf n (Mu (nv (n 53))) s l = true
    · obtain ⟨c1, c2, c3⟩ := cf_bit hcf
      obtain ⟨a1, a2, a3, a4⟩ := bit_add s hs256 l (by omega) c1
      have hpw := Nat.two_pow_pos l
      have hpc := pcn_add hs256 (show l < 8 by omega) c1
      have hym : yt (s + 2 ^ l) = yt0 (s + 2 ^ l) := hy _ (by omega)
      unfold m_X6_leastBehind_B50
      rw [b2_t hcf, if_neg one_ne0, if_neg one_ne0, a2, q_at a1 (by omega), q_at a1 (by omega), q_at hs256 (by omega), q_at a1 (by omega), q_wr hs256 (by omega), hym, nI_1 l]
      have keep : ∃ x2' yt', m_X6_leastBehind_L4 fb re la fu (nI s) x2 (nI (l + 1)) = some x2' ∧ m_X12_layEvening_L156 n k122 fu2 sh wr yt (nI s) (nI (l + 1)) = k122 sh wr yt' (nI s + (-1)) ∧ lS n (Mu (nv (n 53))) s la yt0 x2' (yt' s) ∧ ∀ t, t ≠ s → yt' t = yt0 t := lb_sim h hE hB hU hfb hsh hs hre hsE la yt0 hla k122 m (l + 1) fu fu2 x2 yt (by omega) (by omega) (by omega) hS hy
      rcases hla l (by omega) hcf with ⟨l1, l2⟩ | ⟨k', l0, l1, l2⟩
      · have hle : yt s ≤ yt0 (s + 2 ^ l) + 1 := by
          rw [l2, nI_1]
          rcases hS with ⟨_, q⟩ | ⟨k, l', k1, _, q, _⟩
          · rw [q]; exact nI_le (by omega) (by omega)
          · rw [q]; exact nI_le (by omega) (by omega)
        rw [if_pos l1, if_pos hle, q_let, q_let]
        exact keep
      · have hne : ¬ la (s + 2 ^ l) = -1 := by rw [l1]; exact nI_nn (by omega) (by decide)
        have take : ∃ x2' yt', m_X6_leastBehind_L4 fb re la fu (nI s) (nI (k' + 1)) (nI (l + 1)) = some x2' ∧ m_X12_layEvening_L156 n k122 fu2 sh wr (upd yt s (nI (k' + 1))) (nI s) (nI (l + 1)) = k122 sh wr yt' (nI s + (-1)) ∧ lS n (Mu (nv (n 53))) s la yt0 x2' (yt' s) ∧ ∀ t, t ≠ s → yt' t = yt0 t := lb_sim h hE hB hU hfb hsh hs hre hsE la yt0 hla k122 m (l + 1) fu fu2 _ _ (by omega) (by omega) (by omega) (Or.inr ⟨k', l, by omega, rfl, upd_eq, by omega, hcf, l1, l2⟩) (fun t ht => by rw [upd_ne ht]; exact hy t ht)
        rw [if_neg hne, l1, l2, nI_1 k']
        rcases hS with ⟨q1, q2⟩ | ⟨k, l', k1, q1, q2, _⟩
        · rw [if_pos q1, q2, if_neg (nI_ge (by omega) (by omega)), q_let, q_let, q_let]
          exact take
        · have hx : ¬ x2 = -1 := by rw [q1]; exact nI_nn (by omega) (by decide)
          rw [if_neg hx, q2]
          by_cases hkk : k + 1 ≤ k' + 1
          · have hx2 : x2 ≤ nI (k' + 1) := by rw [q1]; exact nI_le hkk (by omega)
            rw [if_pos hx2, if_pos (nI_le hkk (by omega)), q_let, q_let]
            exact keep
          · have hx2 : ¬ x2 ≤ nI (k' + 1) := by rw [q1]; exact nI_ge (by omega) (by omega)
            rw [if_neg hx2, if_neg (nI_ge (by omega) (by omega)), q_let, q_let, q_let]
            exact take
    · rw [b2_f hcf, if_pos rfl, if_pos rfl, q_let, q_let, nI_1]
      exact lb_sim h hE hB hU hfb hsh hs hre hsE la yt0 hla k122 m (l + 1) fu fu2 x2 yt (by omega) (by omega) (by omega) hS hy
/-- the reference goes on over any set -/
theorem r156 (h : relL F V n) (hE : relE F V n) (hB : relB n (Mu (nv (n 53)))) (hU : relU F V n Mu) (hsh : ∀ t, t < 2 ^ nv (n 50) → sh t = nI (shN n t (nv (n 50)))) {s : Nat} (hs : s < 2 ^ nv (n 50)) (k122 : (Nat → Int32) → (Nat → Int32) → (Nat → Int32) → Int32 → Option ((Nat → Int32) × (Nat → Int32) × (Nat → Int32))) : ∀ (m l fu2 : Nat) (yt : Nat → Int32), l + m = nv (n 50) → m < fu2 → ∃ yt', m_X12_layEvening_L156 n k122 fu2 sh wr yt (nI s) (nI l) = k122 sh wr yt' (nI s + (-1)) ∧ ∀ t, t ≠ s → yt' t = yt t
  | m, l, 0, yt, _, h0 => absurd h0 (Nat.not_lt_zero m)
  | 0, l, fu2 + 1, yt, e, _ => by
    have h9 := h.2.1.1
    have g : n 50 ≤ nI l := by rw [h.2.1.2]; exact nI_le (by omega) (by omega)
    refine ⟨yt, ?_, fun _ _ => rfl⟩
    rw [m_X12_layEvening_L156, show (50 : Int32) = nI 50 from rfl, q_at (by omega) (by omega), if_pos g, q_let]
  | m + 1, l, fu2 + 1, yt, e, hfu2 => by
    have h9 := h.2.1.1
    obtain ⟨p1, p2, p3⟩ := pow_is (nv (n 50)) h9
    have hs256 : s < 256 := by omega
    have g : ¬ n 50 ≤ nI l := by rw [h.2.1.2]; exact nI_ge (by omega) (by omega)
    have keep := r156 h hE hB hU hsh hs k122 m (l + 1) fu2 yt (by omega) (by omega)
    rw [m_X12_layEvening_L156, show (50 : Int32) = nI 50 from rfl, q_at (by omega) (by omega), if_neg g, q_at hs256 (by omega), q_call (folR h hE hB hU hs256 (show l < nv (n 50) by omega) (hsh s hs)), nI_1]
    by_cases hp : yt s ≤ 0
    · refine ⟨yt, ?_, fun _ _ => rfl⟩
      rw [if_pos hp, q_let]
    · rw [if_neg hp]
      by_cases hcf : cf n (Mu (nv (n 53))) s l = true
      · obtain ⟨c1, c2, c3⟩ := cf_bit hcf
        obtain ⟨a1, a2, a3, a4⟩ := bit_add s hs256 l (by omega) c1
        rw [b2_t hcf, if_neg one_ne0, a2, q_at a1 (by omega), q_at hs256 (by omega), q_at a1 (by omega), q_wr hs256 (by omega)]
        by_cases hle : yt s ≤ yt (s + 2 ^ l) + 1
        · rw [if_pos hle, q_let]
          exact keep
        · rw [if_neg hle, q_let]
          obtain ⟨yt', y1, y2⟩ := r156 h hE hB hU hsh hs k122 m (l + 1) fu2 (upd yt s (yt (s + 2 ^ l) + 1)) (by omega) (by omega)
          exact ⟨yt', y1, fun t ht => by rw [y2 t ht, upd_ne ht]⟩
      · rw [b2_f hcf, if_pos rfl, q_let]
        exact keep
theorem lR_up {M : Nat} {la yt la' yt' : Nat → Int32} {s t : Nat} (hst : s < t) (h1 : ∀ q, q ≠ s → la' q = la q) (h2 : ∀ q, q ≠ s → yt' q = yt q) (h : lR n M la yt t) : lR n M la' yt' t := by
  rcases h with ⟨a, b⟩ | ⟨k, k1, k2, k3, k4⟩
  · exact Or.inl ⟨by rw [h1 t (by omega)]; exact a, by rw [h2 t (by omega)]; exact b⟩
  · refine Or.inr ⟨k, k1, by rw [h1 t (by omega)]; exact k2, by rw [h2 t (by omega)]; exact k3, ?_⟩
    rcases k4 with k4 | ⟨k', l, l1, l2, l3, l4, l5⟩
    · exact Or.inl k4
    · have hpw := Nat.two_pow_pos l
      exact Or.inr ⟨k', l, l1, l2, l3, by rw [h1 _ (by omega)]; exact l4, by rw [h2 _ (by omega)]; exact l5⟩
theorem xl_rest (h9 : nv (n 50) < 9) (hz : ∀ t, t < 256 → 2 ^ nv (n 50) ≤ t → wy t = 0) (x1 : Int32) : ∀ (m s fu : Nat) (la : Nat → Int32), s + 1 = 2 ^ nv (n 50) + m → s < 256 → s + 1 < fu → ∃ la' fu', 2 ^ nv (n 50) < fu' ∧ m_X6_findLacking_L4 wy re fb fu la x1 (nI s) = m_X6_findLacking_L4 wy re fb fu' la' x1 (nI (2 ^ nv (n 50) - 1))
  | 0, s, fu, la, e, hs, hfu => ⟨la, fu, by omega, by rw [show s = 2 ^ nv (n 50) - 1 by omega]⟩
  | m + 1, s, 0, la, e, hs, hfu => absurd hfu (Nat.not_lt_zero _)
  | m + 1, s, fu + 1, la, e, hs, hfu => by
    obtain ⟨p1, p2, p3⟩ := pow_is (nv (n 50)) h9
    obtain ⟨s', rfl⟩ : ∃ s', s = s' + 1 := ⟨s - 1, by omega⟩
    obtain ⟨la', fu', h1, h2⟩ := xl_rest h9 hz x1 m s' fu (upd la (s' + 1) (-1)) (by omega) (by omega) (by omega)
    refine ⟨la', fu', h1, ?_⟩
    rw [m_X6_findLacking_L4, if_neg (nI_pos (by omega)), q_wr hs (by omega), q_at hs (by omega), hz (s' + 1) hs (by omega), if_pos (by decide), pk_m1, q_let]
    exact h2
theorem la_sim (h : relL F V n) (hE : relE F V n) (hB : relB n (Mu (nv (n 53)))) (hU : relU F V n Mu) (hfb : fbOk n (Mu (nv (n 53))) le fb) (hsh : ∀ t, t < 2 ^ nv (n 50) → sh t = nI (shN n t (nv (n 50)))) (hR : wR n (Mu (nv (n 53))) (2 ^ nv (n 50)) 0 wy re wr wv) : ∀ (s fu fu2 : Nat) (la yt : Nat → Int32), s < 2 ^ nv (n 50) → s + 1 < fu → s + 1 < fu2 → (∀ t, s < t → t < 2 ^ nv (n 50) → 0 < wv t → lR n (Mu (nv (n 53))) la yt t) → ∃ la' yt', m_X6_findLacking_L4 wy re fb fu la (V 5) (nI s) = some la' ∧ m_X12_layEvening_L122 n fu2 sh wr yt (nI s) = some (sh, wr, yt') ∧ ∀ t, t < 2 ^ nv (n 50) → 0 < wv t → lR n (Mu (nv (n 53))) la' yt' t
  | s, 0, _, la, yt, _, h0, _, _ => absurd h0 (Nat.not_lt_zero _)
  | s, _ + 1, 0, la, yt, _, _, h0, _ => absurd h0 (Nat.not_lt_zero _)
  | s, fu + 1, fu2 + 1, la, yt, hs, hfu, hfu2, hl => by
    have h9 := h.2.1.1
    have h11 := hE.2.1.1
    obtain ⟨p1, p2, p3⟩ := pow_is (nv (n 50)) h9
    have hs256 : s < 256 := by omega
    obtain ⟨w1, w2⟩ := hR.1 s hs256
    have hb := bd_le (s := 2 ^ nv (n 50)) (l := 0) hs256
    have hp := p8_le s
    -- what follows, once s is settled
    have go : ∀ (la1 yt1 : Nat → Int32), (∀ q, q ≠ s → la1 q = la q) → (∀ q, q ≠ s → yt1 q = yt q) → (0 < wv s → lR n (Mu (nv (n 53))) la1 yt1 s) → ∃ la' yt', m_X6_findLacking_L4 wy re fb fu la1 (V 5) (nI s + (-1)) = some la' ∧ m_X12_layEvening_L122 n fu2 sh wr yt1 (nI s + (-1)) = some (sh, wr, yt') ∧ ∀ t, t < 2 ^ nv (n 50) → 0 < wv t → lR n (Mu (nv (n 53))) la' yt' t := by
      intro la1 yt1 g1 g2 g3
      have all : ∀ t, s ≤ t → t < 2 ^ nv (n 50) → 0 < wv t → lR n (Mu (nv (n 53))) la1 yt1 t := by
        intro t t1 t2 t3
        by_cases hts : t = s
        · rw [hts]; rw [hts] at t3; exact g3 t3
        · exact lR_up (by omega) g1 g2 (hl t (by omega) t2 t3)
      cases s with
      | zero =>
        obtain ⟨z, rfl⟩ : ∃ z, fu = z + 1 := ⟨fu - 1, by omega⟩
        obtain ⟨z2, rfl⟩ : ∃ z2, fu2 = z2 + 1 := ⟨fu2 - 1, by omega⟩
        refine ⟨la1, yt1, ?_, ?_, fun t ht => all t (Nat.zero_le t) ht⟩
        · rw [m_X6_findLacking_L4, if_pos (by decide)]
        · rw [m_X12_layEvening_L122, if_pos (by decide)]
      | succ s' =>
        rw [pk_m1]
        exact la_sim h hE hB hU hfb hsh hR s' fu fu2 la1 yt1 (by omega) (by omega) (by omega) (fun t ht => all t (by omega))
    rw [m_X6_findLacking_L4, m_X12_layEvening_L122, if_neg (nI_pos (by omega)), if_neg (nI_pos (by omega)), q_wr hs256 (by omega), q_at hs256 (by omega), w1, q_at hs256 (by omega), q_at hs256 (by omega), hsh s hs, show (78 : Int32) = nI 78 from rfl, q_at (by omega) (by omega), q_wr hs256 (by omega), q_wr hs256 (by omega), q_wr hs256 (by omega)]
    by_cases hz : wv s = 0
    · rw [if_pos (show nI (wv s) ≤ 0 by rw [hz]; decide), q_let]
      by_cases he : nI (shN n s (nv (n 50))) = n 78
      · rw [if_pos he]
        obtain ⟨yt1, y1, y2⟩ := r156 (wr := wr) h hE hB hU hsh hs (m_X12_layEvening_L122 n fu2) (nv (n 50)) 0 mFU (upd yt s 0) (by omega) (by unfold mFU; omega)
        rw [show m_X12_layEvening_L156 n (m_X12_layEvening_L122 n fu2) mFU sh wr (upd yt s 0) (nI s) (0 : Int32) = _ from y1]
        exact go _ _ (fun q hq => upd_ne hq) (fun q hq => by rw [y2 q hq, upd_ne hq]) (fun q => by omega)
      · rw [if_neg he]
        obtain ⟨yt1, y1, y2⟩ := r156 (wr := wr) h hE hB hU hsh hs (m_X12_layEvening_L122 n fu2) (nv (n 50)) 0 mFU (upd yt s 1000000) (by omega) (by unfold mFU; omega)
        rw [show m_X12_layEvening_L156 n (m_X12_layEvening_L122 n fu2) mFU sh wr (upd yt s 1000000) (nI s) (0 : Int32) = _ from y1]
        exact go _ _ (fun q hq => upd_ne hq) (fun q hq => by rw [y2 q hq, upd_ne hq]) (fun q => by omega)
    · obtain ⟨r1, r2⟩ := hR.2.2.2.1 s hs256 (by omega)
      have hpc := pcn_le s
      rw [if_neg (nI_nle (by omega) (by omega)), r1, hE.1]
      by_cases he : nI (shN n s (nv (n 50))) = n 78
      · rw [if_pos he, if_pos he, q_let]
        have y1 : m_X12_layEvening_L156 n (m_X12_layEvening_L122 n fu2) mFU sh wr (upd yt s 0) (nI s) (0 : Int32) = m_X12_layEvening_L122 n fu2 sh wr (upd yt s 0) (nI s + (-1)) := by
          show m_X12_layEvening_L156 n (m_X12_layEvening_L122 n fu2) (999 + 1) sh wr (upd yt s 0) (nI s) (0 : Int32) = _
          rw [m_X12_layEvening_L156, show (50 : Int32) = nI 50 from rfl, q_at (by omega) (by omega), q_at hs256 (by omega), upd_eq, if_pos (show (0 : Int32) ≤ 0 by decide), q_let]
          by_cases hn : n 50 ≤ 0
          · rw [if_pos hn]
          · rw [if_neg hn]
        rw [y1, ← hE.1]
        exact go _ _ (fun q hq => by rw [upd_ne hq, upd_ne hq]) (fun q hq => upd_ne hq) (fun _ => Or.inr ⟨0, by omega, upd_eq, upd_eq, Or.inl rfl⟩)
      · rw [if_neg he, if_neg he]
        obtain ⟨x2, yt1, y1, y2, y3, y4⟩ := lb_sim (wr := wr) h hE hB hU hfb hsh hs r1 r2 (upd la s (-1)) yt (fun l hl2 hcf => by
          obtain ⟨c1, c2, c3⟩ := cf_bit hcf
          have hmore := lt_add hs (by omega) hl2 c1
          have hpw := Nat.two_pow_pos l
          have hc := hR.2.2.2.2.2 s l (Or.inl hs) hs256 hl2 (by omega) hcf
          rcases lR_B (hl _ (by omega) hmore hc) with ⟨a1, a2⟩ | ⟨k, k1, k2, k3⟩
          · exact Or.inl ⟨by rw [upd_ne (by omega)]; exact a1, a2⟩
          · exact Or.inr ⟨k, k1, by rw [upd_ne (by omega)]; exact k2, k3⟩) (m_X12_layEvening_L122 n fu2) (nv (n 50)) 0 mFU mFU (-1) (upd yt s 1000000) (by omega) (by unfold mFU; omega) (by unfold mFU; omega) (Or.inl ⟨rfl, upd_eq⟩) (fun t ht => upd_ne ht)
        have hlb : m_X6_leastBehind fb re (upd la s (-1)) (nI s) = some x2 := y1
        rw [q_call hlb, q_wr hs256 (by omega), q_let, show m_X12_layEvening_L156 n (m_X12_layEvening_L122 n fu2) mFU sh wr (upd yt s 1000000) (nI s) (0 : Int32) = _ from y2, ← hE.1]
        refine go _ _ (fun q hq => by rw [upd_ne hq, upd_ne hq]) (fun q hq => y4 q hq) (fun _ => ?_)
        rcases y3 with ⟨a1, a2⟩ | ⟨k, l, b1, b3, b4, b5, b6, b7, b8⟩
        · exact Or.inl ⟨by rw [upd_eq]; exact a1, a2⟩
        · have hpw := Nat.two_pow_pos l
          exact Or.inr ⟨k + 1, b1, by rw [upd_eq]; exact b3, b4, Or.inr ⟨k, l, rfl, b5, b6, by rw [upd_ne (by omega)]; exact b7, by rw [y4 _ (by omega)]; exact b8⟩⟩
theorem la_ok (h : relL F V n) (hE : relE F V n) (hB : relB n (Mu (nv (n 53)))) (hU : relU F V n Mu) (hfb : fbOk n (Mu (nv (n 53))) le fb) (hsh : ∀ t, t < 2 ^ nv (n 50) → sh t = nI (shN n t (nv (n 50)))) (hR : wR n (Mu (nv (n 53))) (2 ^ nv (n 50)) 0 wy re wr wv) (la yt : Nat → Int32) : ∃ la' yt', m_X6_findLacking la wy re fb (V 5) = some la' ∧ m_X12_layEvening_L122 n mFU sh wr yt (nI (2 ^ nv (n 50) - 1)) = some (sh, wr, yt') ∧ ∀ t, t < 2 ^ nv (n 50) → 0 < wv t → lR n (Mu (nv (n 53))) la' yt' t := by
  have h9 := h.2.1.1
  obtain ⟨p1, p2, p3⟩ := pow_is (nv (n 50)) h9
  obtain ⟨la1, fu1, q1, q2⟩ := xl_rest (re := re) (fb := fb) (wy := wy) h9 (fun t ht ht2 => by rw [(hR.1 t ht).1, hR.2.2.1 t ht ht2]; rfl) (V 5) (256 - 2 ^ nv (n 50)) 255 mFU la (by omega) (by omega) (by unfold mFU; omega)
  obtain ⟨la', yt', z1, z2, z3⟩ := la_sim h hE hB hU hfb hsh hR (2 ^ nv (n 50) - 1) fu1 mFU la1 yt (by omega) (by omega) (by unfold mFU; omega) (fun t t1 t2 => by omega)
  refine ⟨la', yt', ?_, z2, z3⟩
  unfold m_X6_findLacking
  exact Eq.trans q2 z1
-- rows
theorem rows_rest (h9 : nv (n 50) < 9) (hz : ∀ t, t < 256 → 2 ^ nv (n 50) ≤ t → wy t = 0) (x1 x2 : Int32) : ∀ (m s fu : Nat), s + m = 256 → m < fu → 2 ^ nv (n 50) ≤ s → m_X6_rowsOf_L4 wy re fu x1 x2 (nI s) = some x2
  | m, s, 0, _, h0, _ => absurd h0 (Nat.not_lt_zero m)
  | 0, s, fu + 1, e, _, _ => by
    rw [m_X6_rowsOf_L4, if_pos (show (256 : Int32) ≤ nI s from nI_le (a := 256) (by omega) (by omega))]
  | m + 1, s, fu + 1, e, hfu, hN => by
    rw [m_X6_rowsOf_L4, if_neg (show ¬ (256 : Int32) ≤ nI s from nI_ge (b := 256) (by omega) (by omega)), q_at (by omega) (by omega), hz s (by omega) hN, if_pos (by decide), q_let, nI_1]
    exact rows_rest h9 hz x1 x2 m (s + 1) fu (by omega) (by omega) (by omega)
theorem rows_sim (h : relL F V n) (hE : relE F V n) (hsh : ∀ t, t < 2 ^ nv (n 50) → sh t = nI (shN n t (nv (n 50)))) {M : Nat} (hR : wR n M (2 ^ nv (n 50)) 0 wy re wr wv) (yt : Nat → Int32) : ∀ (m s fu fu2 : Nat) (x : Int32), s + m = 2 ^ nv (n 50) → 256 < fu + s → m < fu2 → ∃ y, m_X6_rowsOf_L4 wy re fu (V 5) x (nI s) = some y ∧ m_X12_rows_L8 n fu2 sh wr yt x (nI s) = some (y, sh, wr, yt)
  | m, s, fu, 0, x, _, _, h0 => absurd h0 (Nat.not_lt_zero m)
  | 0, s, fu, fu2 + 1, x, e, hfu, _ => by
    have h9 := h.2.1.1
    obtain ⟨p1, p2, p3⟩ := pow_is (nv (n 50)) h9
    have g : ((1 : Int32) <<< (n 50 &&& 31)) ≤ nI s := by rw [h.2.1.2, p1]; exact nI_le (by omega) (by omega)
    refine ⟨x, rows_rest h9 (fun t ht ht2 => by rw [(hR.1 t ht).1, hR.2.2.1 t ht ht2]; rfl) (V 5) x (256 - s) s fu (by omega) (by omega) (by omega), ?_⟩
    rw [m_X12_rows_L8, show (50 : Int32) = nI 50 from rfl, q_at (by omega) (by omega), if_pos g]
  | m + 1, s, 0, fu2 + 1, x, e, hfu, _ => by
    have h9 := h.2.1.1
    obtain ⟨p1, p2, p3⟩ := pow_is (nv (n 50)) h9
    omega
  | m + 1, s, fu + 1, fu2 + 1, x, e, hfu, hfu2 => by
    have h9 := h.2.1.1
    obtain ⟨p1, p2, p3⟩ := pow_is (nv (n 50)) h9
    have hs : s < 2 ^ nv (n 50) := by omega
    have hs256 : s < 256 := by omega
    have g : ¬ ((1 : Int32) <<< (n 50 &&& 31)) ≤ nI s := by rw [h.2.1.2, p1]; exact nI_ge (by omega) (by omega)
    obtain ⟨w1, w2⟩ := hR.1 s hs256
    have hb := bd_le (s := 2 ^ nv (n 50)) (l := 0) hs256
    have hp := p8_le s
    have ih := fun x => rows_sim h hE hsh hR yt m (s + 1) fu fu2 x (by omega) (by omega) (by omega)
    rw [m_X6_rowsOf_L4, m_X12_rows_L8, if_neg (show ¬ (256 : Int32) ≤ nI s from nI_ge (b := 256) (by omega) (by omega)), q_at hs256 (by omega), q_at hs256 (by omega), q_at hs256 (by omega), w1, show (50 : Int32) = nI 50 from rfl, q_at (by omega) (by omega), if_neg g, q_at hs256 (by omega), hsh s hs, show (78 : Int32) = nI 78 from rfl, q_at (by omega) (by omega), q_at hs256 (by omega), hR.2.1 s hs, nI_1]
    by_cases hz : wv s = 0
    · rw [if_pos (show nI (wv s) ≤ 0 by rw [hz]; decide), q_let, show nI (wv s) = 0 by rw [hz]; rfl, Int32.add_zero]
      by_cases he : nI (shN n s (nv (n 50))) = n 78
      · rw [if_pos he, q_let, q_let]
        exact ih x
      · rw [if_neg he, q_let, q_let]
        exact ih x
    · obtain ⟨r1, r2⟩ := hR.2.2.2.1 s hs256 (by omega)
      rw [if_neg (nI_nle (by omega) (by omega)), r1]
      by_cases he : nI (shN n s (nv (n 50))) = n 78
      · rw [if_pos (show nI (shN n s (nv (n 50))) = V 5 by rw [hE.1]; exact he), if_pos he, q_let, q_let, q_let, q_let]
        exact ih _
      · rw [if_neg (show ¬ nI (shN n s (nv (n 50))) = V 5 by rw [hE.1]; exact he), if_neg he, q_let, q_let, q_let, Int32.add_zero]
        exact ih _
end LA
theorem o_rows : opSpec_rows Rel := by
  intro FI FL VI VL h
  have hw := h.1.2.1
  have hL := h.1.2.2.2.1
  obtain ⟨Mu, hB, hU⟩ := h.1.2.2.2.2.1
  have hE := h.1.2.2.2.2.2.2.1
  have h9 := hL.2.1.1
  obtain ⟨p1, p2, p3⟩ := pow_is _ h9
  obtain ⟨sw, le, fb, wy, re, sh, wr, wv, a1, a2, a3, a4, a5⟩ := ways_ok hw hL hE hB hU (FI 2) (FI 34) (FI 35) (FI 36) (FI 37) (FI 53) (FI 54) (FI 55)
  obtain ⟨la, yt, b1, b3, b4⟩ := la_ok hL hE hB hU a3 a4 a5 (FI 38) (FI 55)
  obtain ⟨y, y1, y2⟩ := rows_sim hL hE a4 a5 yt (2 ^ nv (FI 49 50)) 0 mFU mFU 0 (by omega) (by unfold mFU; omega) (by unfold mFU; omega)
  refine ⟨(y, sw, le, fb, wy, re), (y, sh, wr, yt), ?_, ?_, rfl, ?_⟩
  · unfold m_X11_rows m_X6_rowsOf
    rw [q_call a1, q_call (show m_X6_rowsOf_L4 wy re mFU (VI 5) (0 : Int32) (0 : Int32) = some y from y1)]
  · unfold m_X12_rows
    rw [q_call (Eq.trans a2 b3)]
    exact y2
  · refine rel_wk h (fun j j2 j3 j4 j5 => ?_) (fun j j1 j2 => rfl) (fun j _ => rfl)
    repeat (first | refine up_or rfl (fun _ => ?_) | rw [up_ne (by omega)])
