/-! a lump: its kind, layer, size; what it shows -/
theorem li0 : (0 : Int32) = nI 0 := rfl
theorem li1 : (1 : Int32) = nI 1 := rfl
theorem li2 : (2 : Int32) = nI 2 := rfl
theorem li3 : (3 : Int32) = nI 3 := rfl
theorem li4 : (4 : Int32) = nI 4 := rfl
theorem li5 : (5 : Int32) = nI 5 := rfl
theorem li6 : (6 : Int32) = nI 6 := rfl
theorem li8 : (8 : Int32) = nI 8 := rfl
theorem li9 : (9 : Int32) = nI 9 := rfl
theorem li10 : (10 : Int32) = nI 10 := rfl
theorem li12 : (12 : Int32) = nI 12 := rfl
theorem li18 : (18 : Int32) = nI 18 := rfl
theorem q_some {α β : Type} (x : α) (K : α → Option β) : mCall (some x) K = K x := rfl
theorem q_id {α : Type} (o : Option α) : mCall o (fun r => some r) = o := by cases o <;> rfl
theorem q_k6 {α β : Type} (i : Int32) (A0 A1 A2 A3 A4 A5 : Option α) (K : α → Option β) : mK6 i (mCall A0 K) (mCall A1 K) (mCall A2 K) (mCall A3 K) (mCall A4 K) (mCall A5 K) = mCall (mK6 i A0 A1 A2 A3 A4 A5) K := by
  unfold mK6
  by_cases h0 : i = 0
  · rw [if_pos h0, if_pos h0]
  · rw [if_neg h0, if_neg h0]
    by_cases h1 : i = 1
    · rw [if_pos h1, if_pos h1]
    · rw [if_neg h1, if_neg h1]
      by_cases h2 : i = 2
      · rw [if_pos h2, if_pos h2]
      · rw [if_neg h2, if_neg h2]
        by_cases h3 : i = 3
        · rw [if_pos h3, if_pos h3]
        · rw [if_neg h3, if_neg h3]
          by_cases h4 : i = 4
          · rw [if_pos h4, if_pos h4]
          · rw [if_neg h4, if_neg h4]
            by_cases h5 : i = 5
            · rw [if_pos h5, if_pos h5]
            · rw [if_neg h5, if_neg h5]; rfl
def ow (k s t : Nat) : Int32 := (m_X12_ownBy (nI k) (nI s) (nI t)).getD 0
def bu (k s : Nat) : Nat := nv ((m_X12_burnsBy (nI k) (nI s)).getD 0)
theorem tab_b : ∀ k, k < 6 → ∀ s, s < 7 → m_X12_burnsBy (nI k) (nI s) = some (nI (bu k s)) ∧ bu k s < 13 ∧ mK6 (nI k) (m_X5_burnsFor (nI s)) (m_X5_burnsFor (nI s)) (m_X7_burnsFor (nI s)) (m_X3_burnsFor (nI s)) (m_X1_burnsFor (nI s)) (m_X3_burnsFor (nI s)) = some (nI (bu k s)) := by decide +kernel
theorem tab_o : ∀ k, k < 6 → ∀ s, s < 7 → ∀ t, t < 21 → m_X12_ownBy (nI k) (nI s) (nI t) = some (ow k s t) ∧ mK6 (nI k) (m_X5_own (nI s) (nI t)) (m_X0_own (nI s) (nI t)) (m_X7_own (nI s) (nI t)) (m_X3_own (nI s) (nI t)) (m_X1_own (nI s) (nI t)) (m_X8_own (nI s) (nI t)) = some (ow k s t) ∧ (ow k s t = -1 ∨ (ow k s t = nI (nv (ow k s t)) ∧ nv (ow k s t) < s)) := by decide +kernel
theorem at_ok {N j c : Nat} {f : Nat → Int32} (hj : j < N) (hN : N ≤ 10) (hc : c < 3) : m_X9_at (nI N) f (nI j) (nI c) = some (f (3 * j + c)) := by
  unfold m_X9_at
  rw [if_neg (nI_pos (by omega)), if_neg (nI_ge hj (by omega)), if_neg (show ¬ (10 : Int32) ≤ nI j from nI_ge (a := j) (b := 10) (by omega) (by omega)), if_neg (nI_pos (by omega)), if_pos (show nI c < (3 : Int32) from nI_lt (a := c) (b := 3) hc (by omega)), show nI j * (3 : Int32) = nI (3 * j) from (pk_mul j 3).trans (congrArg nI (Nat.mul_comm j 3)), nI_add, q_at (by omega) (by omega)]
def kN (n : Nat → Int32) (j : Nat) : Nat := nv (n (18 + 4 * j))
def aN (n : Nat → Int32) (j : Nat) : Nat := nv (n (18 + 4 * j + 1))
def sN (n : Nat → Int32) (j : Nat) : Nat := nv (n (18 + 4 * j + 2))
theorem lump_get {F : Nat → Nat → Int32} {V n : Nat → Int32} {j : Nat} (h : relL F V n) (hj : j < nv (n 50)) : F 3 (3 * j) = nI (kN n j) ∧ F 3 (3 * j + 1) = nI (aN n j) ∧ F 3 (3 * j + 2) = nI (sN n j) ∧ n (18 + 4 * j) = nI (kN n j) ∧ n (18 + 4 * j + 1) = nI (aN n j) ∧ n (18 + 4 * j + 2) = nI (sN n j) ∧ kN n j < 6 ∧ aN n j < 12 ∧ sN n j < 7 ∧ 1 ≤ sN n j ∧ aN n j + sN n j ≤ 12 ∧ j < 8 := by
  obtain ⟨h1, h2, h3⟩ := h
  obtain ⟨⟨a1, a2⟩, ⟨b1, b2⟩, ⟨c1, c2, c3, c4⟩, d⟩ := h3 j hj
  have hb : nv (n 50) < 9 := h2.1
  exact ⟨a1.trans a2.2, b1.trans b2.2, c1.trans c2.2, a2.2, b2.2, c2.2, a2.1, b2.1, c2.1, c3, c4, by omega⟩
def wc (n : Nat → Int32) (k a s t : Nat) : Int32 := if ow k s t = -1 then -1 else n (a + nv (ow k s t))
def bn (n : Nat → Int32) (j : Nat) : Nat := bu (kN n j) (sN n j)
def wt (n : Nat → Int32) (j t : Nat) : Int32 := wc n (kN n j) (aN n j) (sN n j) t
def ly (n : Nat → Int32) (j t : Nat) : Int32 := if ow (kN n j) (sN n j) t = -1 then -1 else nI (aN n j + nv (ow (kN n j) (sN n j) t))
theorem weatherBy_ok {n : Nat → Int32} {k a s t : Nat} (hk : k < 6) (hs : s < 7) (ha : a + s ≤ 12) (ht : t < 21) : m_X12_weatherBy n (nI k) (nI a) (nI s) (nI t) = some (wc n k a s t) := by
  obtain ⟨h1, _, h3⟩ := tab_o k hk s hs t ht
  unfold m_X12_weatherBy wc
  rw [q_call h1]
  rcases h3 with h3 | ⟨h3, h4⟩
  · rw [if_pos h3, if_pos h3]
  · have hne : ¬ ow k s t = -1 := by rw [h3]; exact nI_nn (by omega) (by decide)
    rw [if_neg hne, if_neg hne]
    generalize nv (ow k s t) = o at h3 h4
    rw [h3, nI_add, q_at (by omega) (by omega)]
theorem lumpAt_ok {n : Nat → Int32} {j c : Nat} (hj : j < 8) (hc : c < 4) : m_X12_lumpAt n (nI j) (nI c) = some (n (18 + 4 * j + c)) := by
  unfold m_X12_lumpAt
  rw [show (4 : Int32) * nI j = nI (4 * j) from pk_mul 4 j, show (18 : Int32) + nI (4 * j) = nI (18 + 4 * j) from nI_add 18 _, nI_add, q_at (by omega) (by omega)]
theorem wc_val {F : Nat → Nat → Int32} {n : Nat → Int32} {k a s t : Nat} (hw : relW F n) (hk : k < 6) (hs : s < 7) (ha : a + s ≤ 12) (ht : t < 21) : wc n k a s t = -1 ∨ sm (wc n k a s t) 6 := by
  obtain ⟨_, _, h3⟩ := tab_o k hk s hs t ht
  unfold wc
  rcases h3 with h3 | ⟨h3, h4⟩
  · rw [if_pos h3]; exact Or.inl rfl
  · have hne : ¬ ow k s t = -1 := by rw [h3]; exact nI_nn (by omega) (by decide)
    rw [if_neg hne]
    exact Or.inr (hw _ (by omega)).2
theorem weatherIn_no (f : Nat → Int32) : m_X4_weatherIn f (-1) = some (-1) := by unfold m_X4_weatherIn; rw [q_call (isLayer_ok _), qIn_lo (by decide), if_pos rfl]
theorem weatherIn_ok {f : Nat → Int32} {k : Nat} (hk : k < 12) : m_X4_weatherIn f (nI k) = some (f k) := by unfold m_X4_weatherIn; rw [q_call (isLayer_ok _), show qIn (nI k) 0 11 = 1 from qIn_1 (lo := 0) (hi := 11) (by omega) (by omega) (by omega), if_neg one_ne0, q_at hk (by omega)]
theorem inSeam_ok (a : Int32) (o : Int32) : m_X4_inSeam a o = some (if o = -1 then -1 else a + o) := by
  unfold m_X4_inSeam
  by_cases h : o = -1
  · rw [if_pos h, if_pos h]
  · rw [if_neg h, if_neg h]
theorem cut_ok {F : Nat → Nat → Int32} {n : Nat → Int32} {k a s t : Nat} (hw : relW F n) (hk : k < 6) (hs : s < 7) (ha : a + s ≤ 12) (ht : t < 21) : m_X4_weatherOfCut (F 0) (nI k) (nI a) (nI s) (nI t) = some (wc n k a s t) := by
  obtain ⟨_, h2, h3⟩ := tab_o k hk s hs t ht
  unfold m_X4_weatherOfCut
  rw [if_neg (nI_pos (by omega)), if_pos (show nI k < (6 : Int32) from nI_lt (a := k) (b := 6) hk (by omega)), q_k6, q_call h2, q_call (inSeam_ok _ _), q_id]
  unfold wc
  rcases h3 with h3 | ⟨h3, h4⟩
  · rw [if_pos h3, if_pos h3, weatherIn_no]
  · have hne : ¬ ow k s t = -1 := by rw [h3]; exact nI_nn (by omega) (by decide)
    rw [if_neg hne, if_neg hne]
    generalize nv (ow k s t) = o at h3 h4
    rw [h3, nI_add, weatherIn_ok (by omega), (hw _ (by omega)).1]
theorem weatherOf_ok {F : Nat → Nat → Int32} {V n : Nat → Int32} {j t : Nat} (h : relL F V n) (hj : j < nv (n 50)) (ht : t < 21) : m_X12_weatherOf n (nI j) (nI t) = some (wt n j t) := by
  obtain ⟨_, _, _, e1, e2, e3, k1, k2, k3, k4, k5, k6⟩ := lump_get h hj
  unfold m_X12_weatherOf wt
  rw [q_call (show m_X12_lumpAt n (nI j) (0 : Int32) = some (nI (kN n j)) from (lumpAt_ok (c := 0) k6 (by omega)).trans (congrArg some e1)), q_call (show m_X12_lumpAt n (nI j) (1 : Int32) = some (nI (aN n j)) from (lumpAt_ok (c := 1) k6 (by omega)).trans (congrArg some e2)), q_call (show m_X12_lumpAt n (nI j) (2 : Int32) = some (nI (sN n j)) from (lumpAt_ok (c := 2) k6 (by omega)).trans (congrArg some e3)), q_id, weatherBy_ok k1 k3 k5 ht]
theorem burns_ok {F : Nat → Nat → Int32} {V n : Nat → Int32} {j : Nat} (h : relL F V n) (hj : j < nv (n 50)) : m_X12_burns n (nI j) = some (nI (bn n j)) := by
  obtain ⟨_, _, _, e1, e2, e3, k1, k2, k3, k4, k5, k6⟩ := lump_get h hj
  unfold m_X12_burns bn
  rw [q_call (show m_X12_lumpAt n (nI j) (0 : Int32) = some (nI (kN n j)) from (lumpAt_ok (c := 0) k6 (by omega)).trans (congrArg some e1)), q_call (show m_X12_lumpAt n (nI j) (2 : Int32) = some (nI (sN n j)) from (lumpAt_ok (c := 2) k6 (by omega)).trans (congrArg some e3)), q_id, (tab_b _ k1 _ k3).1]
theorem bn_lt {F : Nat → Nat → Int32} {V n : Nat → Int32} {j : Nat} (h : relL F V n) (hj : j < nv (n 50)) : bn n j < 13 := by
  obtain ⟨_, _, _, e1, e2, e3, k1, k2, k3, k4, k5, k6⟩ := lump_get h hj
  exact (tab_b _ k1 _ k3).2.1
theorem wt_val {F : Nat → Nat → Int32} {V n : Nat → Int32} {j t : Nat} (hw : relW F n) (h : relL F V n) (hj : j < nv (n 50)) (ht : t < 21) : wt n j t = -1 ∨ sm (wt n j t) 6 := by
  obtain ⟨_, _, _, e1, e2, e3, k1, k2, k3, k4, k5, k6⟩ := lump_get h hj
  exact wc_val hw k1 k3 k5 ht
theorem atL {F : Nat → Nat → Int32} {V n : Nat → Int32} {j c : Nat} (h : relL F V n) (hj : j < nv (n 50)) (hc : c < 3) : m_X9_at (V 1) (F 3) (nI j) (nI c) = some (F 3 (3 * j + c)) := by
  obtain ⟨h1, h2, _⟩ := h
  rw [h1, h2.2]
  exact at_ok hj (by have := h2.1; omega) hc
theorem steps_ok {F : Nat → Nat → Int32} {V n : Nat → Int32} {j : Nat} (h : relL F V n) (hj : j < nv (n 50)) : m_X4_steps (V 1) (F 3) (nI j) = some (nI (bn n j)) := by
  obtain ⟨f1, f2, f3, e1, e2, e3, k1, k2, k3, k4, k5, k6⟩ := lump_get h hj
  unfold m_X4_steps bn
  have g0 : m_X9_at (V 1) (F 3) (nI j) (0 : Int32) = some (nI (kN n j)) := (atL (c := 0) h hj (by omega)).trans (congrArg some f1)
  have g2 : m_X9_at (V 1) (F 3) (nI j) (2 : Int32) = some (nI (sN n j)) := (atL (c := 2) h hj (by omega)).trans (congrArg some f3)
  rw [q_call g0, if_neg (nI_pos (by omega)), if_pos (show nI (kN n j) < (6 : Int32) from nI_lt (b := 6) k1 (by omega))]
  simp only [g2, q_some, q_id]
  exact (tab_b _ k1 _ k3).2.2
theorem layer_ok {F : Nat → Nat → Int32} {V n : Nat → Int32} {j t : Nat} (h : relL F V n) (hj : j < nv (n 50)) (ht : t < 21) : m_X4_layerShown (V 1) (F 3) (nI j) (nI t) = some (ly n j t) := by
  obtain ⟨f1, f2, f3, e1, e2, e3, k1, k2, k3, k4, k5, k6⟩ := lump_get h hj
  unfold m_X4_layerShown ly
  have g0 : m_X9_at (V 1) (F 3) (nI j) (0 : Int32) = some (nI (kN n j)) := (atL (c := 0) h hj (by omega)).trans (congrArg some f1)
  have g1 : m_X9_at (V 1) (F 3) (nI j) (1 : Int32) = some (nI (aN n j)) := (atL (c := 1) h hj (by omega)).trans (congrArg some f2)
  have g2 : m_X9_at (V 1) (F 3) (nI j) (2 : Int32) = some (nI (sN n j)) := (atL (c := 2) h hj (by omega)).trans (congrArg some f3)
  rw [q_call g0, if_neg (nI_pos (by omega)), if_pos (show nI (kN n j) < (6 : Int32) from nI_lt (b := 6) k1 (by omega)), q_call g1]
  simp only [g2, q_some]
  rw [q_k6, q_call (tab_o _ k1 _ k3 t ht).2.1]
  unfold m_X4_layerShown_B53
  rw [q_id, inSeam_ok]
  rcases (tab_o _ k1 _ k3 t ht).2.2 with h3 | ⟨h3, h4⟩
  · rw [if_pos h3, if_pos h3]
  · have hne : ¬ ow (kN n j) (sN n j) t = -1 := by rw [h3]; exact nI_nn (by omega) (by decide)
    rw [if_neg hne, if_neg hne]
    generalize nv (ow (kN n j) (sN n j) t) = o at h3 h4
    rw [h3, nI_add]
theorem shown_ok {F : Nat → Nat → Int32} {V n : Nat → Int32} {j t : Nat} (hw : relW F n) (h : relL F V n) (hj : j < nv (n 50)) (ht : t < 21) : m_X4_weatherIn (F 0) (ly n j t) = some (wt n j t) := by
  obtain ⟨f1, f2, f3, e1, e2, e3, k1, k2, k3, k4, k5, k6⟩ := lump_get h hj
  unfold ly wt wc
  rcases (tab_o _ k1 _ k3 t ht).2.2 with h3 | ⟨h3, h4⟩
  · rw [if_pos h3, if_pos h3, weatherIn_no]
  · have hne : ¬ ow (kN n j) (sN n j) t = -1 := by rw [h3]; exact nI_nn (by omega) (by decide)
    rw [if_neg hne, if_neg hne]
    generalize nv (ow (kN n j) (sN n j) t) = o at h3 h4
    rw [weatherIn_ok (by omega), (hw _ (by omega)).1]
