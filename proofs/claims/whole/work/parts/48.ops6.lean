-- lump
theorem lumpX_b {l s u : Int32} {c : Nat → Int32} {x1 x2 x3 : Int32} (e : qIn x1 0 5 = 0 ∨ qIn x1 0 5 = 1 ∧ (qIn x3 1 6 = 0 ∨ qIn x3 1 6 = 1 ∧ qIn x2 0 (12 - x3) = 0)) : m_X4_addLump l s u c x1 x2 x3 = some (-2, s, u, c) := by
  unfold m_X4_addLump
  rw [q_call (within_ok _ _ _)]
  rcases e with e | ⟨e, e2⟩
  · rw [e, if_pos rfl]
  · rw [e, if_neg one_ne0, q_call (isSize_ok _)]
    rcases e2 with e2 | ⟨e2, e3⟩
    · rw [e2, if_pos rfl]
    · rw [e2, if_neg one_ne0, q_call (within_ok _ _ _), e3, if_pos rfl]
theorem lumpX_ok {l N : Nat} {u : Int32} {c : Nat → Int32} {k a s : Nat} (hk : k < 6) (hs : 1 ≤ s) (hs2 : s < 7) (ha : a + s ≤ 12) (hl : l ≤ 10) : m_X4_addLump (nI l) (nI N) u c (nI k) (nI a) (nI s) = if nI N < nI l then mCall (m_X9_add (nI l) (nI N) c (nI k) (nI a) (nI s)) (fun (r6 : Int32 × (Int32) × (Nat → Int32)) => some ((r6.1 - (1 : Int32)), r6.2.1, 0, r6.2.2)) else some (-4, nI N, u, c) := by
  unfold m_X4_addLump m_X9_isFull
  rw [q_call (within_ok _ _ _), show qIn (nI k) 0 5 = 1 from qIn_1 (lo := 0) (hi := 5) (by omega) (by omega) (by omega), if_neg one_ne0, q_call (isSize_ok _), show qIn (nI s) 1 6 = 1 from qIn_1 (lo := 1) (hi := 6) (by omega) (by omega) (by omega), if_neg one_ne0, q_call (within_ok _ _ _), show (12 : Int32) - nI s = nI (12 - s) from pk_sub (a := 12) (by omega), show qIn (nI a) 0 (nI (12 - s)) = 1 from qIn_1 (lo := 0) (by omega) (by omega) (by omega), if_neg one_ne0]
  by_cases h : nI N < nI l
  · rw [if_pos h, if_pos h, q_some, if_pos rfl]
    rfl
  · rw [if_neg h, if_neg h, q_some, if_neg one_ne0]
theorem lumpR_b {n : Nat → Int32} {x1 x2 x3 : Int32} (e : qIn x1 0 5 = 0 ∨ qIn x1 0 5 = 1 ∧ (qIn x2 0 11 = 0 ∨ qIn x2 0 11 = 1 ∧ (qIn x3 1 6 = 0 ∨ qIn x3 1 6 = 1 ∧ ¬ x2 + x3 ≤ 12))) : m_X12_lumpOn n x1 x2 x3 = some (-2, n) := by
  unfold m_X12_lumpOn
  rw [q_call (in_ok _ _ _)]
  rcases e with e | ⟨e, e2⟩
  · rw [e, if_pos rfl]
  · rw [e, if_neg one_ne0, q_call (in_ok _ _ _)]
    rcases e2 with e2 | ⟨e2, e3⟩
    · rw [e2, if_pos rfl]
    · rw [e2, if_neg one_ne0, q_call (in_ok _ _ _)]
      rcases e3 with e3 | ⟨e3, e4⟩
      · rw [e3, if_pos rfl]
      · rw [e3, if_neg one_ne0, if_neg e4]
def lumpF (n : Nat → Int32) (N k a s : Nat) : Nat → Int32 := upd (upd (upd (upd (upd (upd n (18 + 4 * N) (nI k)) (18 + 4 * N + 1) (nI a)) (18 + 4 * N + 2) (nI s)) (18 + 4 * N + 3) 0) 53 0) 50 (nI (N + 1))
theorem lumpR_ok {n : Nat → Int32} {N k a s : Nat} (hN : n 50 = nI N) (hN2 : N < 8) (hk : k < 6) (hs : 1 ≤ s) (hs2 : s < 7) (ha : a + s ≤ 12) : m_X12_lumpOn n (nI k) (nI a) (nI s) = some (nI N, lumpF n N k a s) := by
  unfold m_X12_lumpOn
  rw [q_call (in_ok _ _ _), show qIn (nI k) 0 5 = 1 from qIn_1 (lo := 0) (hi := 5) (by omega) (by omega) (by omega), if_neg one_ne0, q_call (in_ok _ _ _), show qIn (nI a) 0 11 = 1 from qIn_1 (lo := 0) (hi := 11) (by omega) (by omega) (by omega), if_neg one_ne0, q_call (in_ok _ _ _), show qIn (nI s) 1 6 = 1 from qIn_1 (lo := 1) (hi := 6) (by omega) (by omega) (by omega), if_neg one_ne0, nI_add, if_pos (show nI (a + s) ≤ (12 : Int32) from nI_le (b := 12) ha (by omega)), show (50 : Int32) = nI 50 from rfl, show (53 : Int32) = nI 53 from rfl, q_at (by omega) (by omega), hN, if_neg (show ¬ nI N = (8 : Int32) from fun q => by have := (nI_eq (a := N) (b := 8) (by omega) (by omega)).mp q; omega), q_at (by omega) (by omega), hN, show (4 : Int32) * nI N = nI (4 * N) from pk_mul 4 N, show (18 : Int32) + nI (4 * N) = nI (18 + 4 * N) from nI_add 18 _, q_let, q_wr (by omega) (by omega), nI_1, q_wr (by omega) (by omega), show nI (18 + 4 * N) + (2 : Int32) = nI (18 + 4 * N + 2) from nI_add _ 2, q_wr (by omega) (by omega), show nI (18 + 4 * N) + (3 : Int32) = nI (18 + 4 * N + 3) from nI_add _ 3, q_wr (by omega) (by omega), q_wr (by omega) (by omega), q_at (by omega) (by omega), upd_ne (by omega), upd_ne (by omega), upd_ne (by omega), upd_ne (by omega), upd_ne (by omega), hN, nI_1, q_wr (by omega) (by omega), q_at (by omega) (by omega), upd_eq, nI_pred]
  rfl
theorem lumpR_full {n : Nat → Int32} {k a s : Nat} (hN : n 50 = 8) (hk : k < 6) (hs : 1 ≤ s) (hs2 : s < 7) (ha : a + s ≤ 12) : m_X12_lumpOn n (nI k) (nI a) (nI s) = some (-4, n) := by
  unfold m_X12_lumpOn
  rw [q_call (in_ok _ _ _), show qIn (nI k) 0 5 = 1 from qIn_1 (lo := 0) (hi := 5) (by omega) (by omega) (by omega), if_neg one_ne0, q_call (in_ok _ _ _), show qIn (nI a) 0 11 = 1 from qIn_1 (lo := 0) (hi := 11) (by omega) (by omega) (by omega), if_neg one_ne0, q_call (in_ok _ _ _), show qIn (nI s) 1 6 = 1 from qIn_1 (lo := 1) (hi := 6) (by omega) (by omega) (by omega), if_neg one_ne0, nI_add, if_pos (show nI (a + s) ≤ (12 : Int32) from nI_le (b := 12) ha (by omega)), show (50 : Int32) = nI 50 from rfl, q_at (by omega) (by omega), hN, if_pos rfl]
/-- what a lump's numbers can be -/
theorem lump_cases (x1 x2 x3 : Int32) : ((qIn x1 0 5 = 0 ∨ qIn x1 0 5 = 1 ∧ (qIn x3 1 6 = 0 ∨ qIn x3 1 6 = 1 ∧ qIn x2 0 (12 - x3) = 0)) ∧ (qIn x1 0 5 = 0 ∨ qIn x1 0 5 = 1 ∧ (qIn x2 0 11 = 0 ∨ qIn x2 0 11 = 1 ∧ (qIn x3 1 6 = 0 ∨ qIn x3 1 6 = 1 ∧ ¬ x2 + x3 ≤ 12)))) ∨ ∃ k a s, k < 6 ∧ 1 ≤ s ∧ s < 7 ∧ a + s ≤ 12 ∧ x1 = nI k ∧ x2 = nI a ∧ x3 = nI s := by
  rcases qIn_c x1 0 5 (by omega) (by omega) with e | ⟨e, k, _, hk, rfl⟩
  · exact Or.inl ⟨Or.inl e, Or.inl e⟩
  · rcases qIn_c x3 1 6 (by omega) (by omega) with e3 | ⟨e3, s, hs, hs2, rfl⟩
    · refine Or.inl ⟨Or.inr ⟨e, Or.inl e3⟩, Or.inr ⟨e, ?_⟩⟩
      rcases qIn_c x2 0 11 (by omega) (by omega) with e2 | ⟨e2, _⟩
      · exact Or.inl e2
      · exact Or.inr ⟨e2, Or.inl e3⟩
    · rcases qIn_c x2 0 11 (by omega) (by omega) with e2 | ⟨e2, a, _, ha, rfl⟩
      · refine Or.inl ⟨Or.inr ⟨e, Or.inr ⟨e3, ?_⟩⟩, Or.inr ⟨e, Or.inl e2⟩⟩
        rcases qIn_c x2 0 (12 - s) (by omega) (by omega) with q | ⟨q, a, _, ha, rfl⟩
        · rw [show (12 : Int32) - nI s = nI (12 - s) from pk_sub (a := 12) (by omega)]; exact q
        · rw [show qIn (nI a) (nI 0) (nI 11) = 1 from qIn_1 (by omega) (by omega) (by omega)] at e2
          exact absurd e2 (by decide)
      · by_cases hle : a + s ≤ 12
        · exact Or.inr ⟨k, a, s, by omega, hs, by omega, hle, rfl, rfl, rfl⟩
        · refine Or.inl ⟨Or.inr ⟨e, Or.inr ⟨e3, ?_⟩⟩, Or.inr ⟨e, Or.inr ⟨e2, Or.inr ⟨e3, ?_⟩⟩⟩⟩
          · rw [show (12 : Int32) - nI s = nI (12 - s) from pk_sub (a := 12) (by omega)]
            exact qIn_hi (nI_lt (by omega) (by omega))
          · rw [nI_add]; exact nI_ge (a := 12) (by omega) (by omega)
theorem lumpF_o {n : Nat → Int32} {N k a s i : Nat} (hN : N < 8) (h : i < 18 + 4 * N ∨ 50 < i) (h2 : i ≠ 53) : lumpF n N k a s i = n i := by
  unfold lumpF
  rw [upd_ne (by omega), upd_ne h2, upd_ne (by omega), upd_ne (by omega), upd_ne (by omega), upd_ne (by omega)]
theorem lumpF_50 {n : Nat → Int32} {N k a s : Nat} : lumpF n N k a s 50 = nI (N + 1) := upd_eq
theorem lumpF_53 {n : Nat → Int32} {N k a s : Nat} : lumpF n N k a s 53 = 0 := by
  unfold lumpF
  rw [upd_ne (by omega), upd_eq]
theorem lumpF_0 {n : Nat → Int32} {N k a s : Nat} (hN : N < 8) : lumpF n N k a s (18 + 4 * N) = nI k := by
  unfold lumpF
  rw [upd_ne (by omega), upd_ne (by omega), upd_ne (by omega), upd_ne (by omega), upd_ne (by omega), upd_eq]
theorem lumpF_1 {n : Nat → Int32} {N k a s : Nat} (hN : N < 8) : lumpF n N k a s (18 + 4 * N + 1) = nI a := by
  unfold lumpF
  rw [upd_ne (by omega), upd_ne (by omega), upd_ne (by omega), upd_ne (by omega), upd_eq]
theorem lumpF_2 {n : Nat → Int32} {N k a s : Nat} (hN : N < 8) : lumpF n N k a s (18 + 4 * N + 2) = nI s := by
  unfold lumpF
  rw [upd_ne (by omega), upd_ne (by omega), upd_ne (by omega), upd_eq]
theorem lumpF_3 {n : Nat → Int32} {N k a s : Nat} (hN : N < 8) : lumpF n N k a s (18 + 4 * N + 3) = 0 := by
  unfold lumpF
  rw [upd_ne (by omega), upd_ne (by omega), upd_eq]
/-- a lump comes -/
theorem relP_lump {F F' : Nat → Nat → Int32} {V V' n : Nat → Int32} {N k a s : Nat} (h : relP F V n) (hN : n 50 = nI N) (hN2 : N < 8) (hk : k < 6) (hs : 1 ≤ s) (hs2 : s < 7) (ha : a + s ≤ 12) (hF : ∀ j, j < 8 → j ≠ 2 → j ≠ 3 → j ≠ 4 → F' j = F j) (hF3 : F' 3 = addF (F 3) N (nI k) (nI a) (nI s)) (hV : ∀ j, j < 14 → j ≠ 1 → j ≠ 3 → V' j = V j) (hV1 : V' 1 = nI (N + 1)) (hV3 : V' 3 = 0) : relP F' V' (lumpF n N k a s) := by
  have hL := h.2.2.2.1
  obtain ⟨Mu, hB, hU⟩ := h.2.2.2.2.1
  have hM := h.2.2.2.2.2.1
  have nv50 : nv (n 50) = N := by rw [hN]; exact nv_nI (by omega)
  refine relP_LU h hF (fun j hj h1 h3 _ _ _ => hV j hj h1 h3) (fun i hi hni => lumpF_o hN2 (by omega) (by omega)) ⟨by rw [hV1, lumpF_50], by rw [lumpF_50]; exact sm_nI (by omega) (by omega), ?_⟩ ⟨fun _ => Mu (nv (n 53)), ?_, by rw [hV3, lumpF_53], by rw [lumpF_53]; exact ⟨by decide, by decide⟩, by rw [hV 10 (by omega) (by omega) (by omega)]; exact hU.2.2.1, by rw [lumpF_o hN2 (by omega) (by omega)]; exact hU.2.2.2.1, ?_⟩ ⟨by rw [hV 11 (by omega) (by omega) (by omega), lumpF_o hN2 (by omega) (by omega)]; exact hM.1, by rw [hV 12 (by omega) (by omega) (by omega), lumpF_o hN2 (by omega) (by omega)]; exact hM.2⟩
  · rw [lumpF_50, nv_nI (by omega), hF3]
    intro j hj
    by_cases hj2 : j = N
    · subst hj2
      rw [addF_0, addF_1, addF_2, lumpF_0 hN2, lumpF_1 hN2, lumpF_2 hN2, lumpF_3 hN2]
      exact ⟨⟨rfl, sm_nI (by omega) (by omega)⟩, ⟨rfl, sm_nI (by omega) (by omega)⟩, ⟨rfl, sm_nI (by omega) (by omega), by rw [nv_nI (by omega)]; exact hs, by rw [nv_nI (by omega), nv_nI (by omega)]; exact ha⟩, ⟨by decide, by decide⟩⟩
    · rw [addF_old (by omega), addF_old (by omega), addF_old (by omega), lumpF_o hN2 (by omega) (by omega), lumpF_o hN2 (by omega) (by omega), lumpF_o hN2 (by omega) (by omega), lumpF_o hN2 (by omega) (by omega)]
      exact hL.2.2 j (by omega)
  · refine ⟨hB.1, fun j hj => ?_⟩
    rw [hB.2 j hj, lumpF_50, nv_nI (by omega), nv50]
    by_cases hj2 : j = N
    · subst hj2
      rw [lumpF_3 hN2]
      constructor
      · intro q; omega
      · intro q; exact absurd q.2 (by decide)
    · by_cases hj3 : j < N
      · rw [lumpF_o hN2 (by omega) (by omega)]
        constructor
        · intro q; exact ⟨by omega, q.2⟩
        · intro q; exact ⟨hj3, q.2⟩
      · constructor
        · intro q; omega
        · intro q; omega
  · rw [lumpF_53, nv0]
    intro j hj
    omega
theorem o_lump : opSpec_lump Rel := by
  intro FI FL VI VL a1 a2 a3 h
  rcases lump_cases a1 a2 a3 with ⟨c1, c2⟩ | ⟨k, a, s, hk, hs, hs2, ha, rfl, rfl, rfl⟩
  · refine ⟨(-2, VI 62 + 1, VI 63, VI 64, VI 1, VI 3, FI 3), (-2, FI 49, upd (FI 48) 0 (FI 48 0 + 1)), ?_, ?_, rfl, ?_⟩
    · unfold m_X11_lump; rw [q_call (lumpX_b c1), q_call (counted_bad _ _ _)]
    · unfold m_X12_lump; rw [q_call (lumpR_b c2), if_pos rfl, q_call (bad_ok _)]
    · have := rel_bad h
      exact this
  · have h0 := h
    obtain ⟨h1, h2⟩ := h
    have hL := h1.2.2.2.1
    obtain ⟨N, hN, eN⟩ := sm_of hL.2.1
    have ev : VI 1 = nI N := hL.1.trans eN
    have lim : VI 0 = nI 8 := h1.1.1
    by_cases hf : N = 8
    · subst hf
      refine ⟨(-4, VI 62, VI 63, VI 64 + 1, VI 1, VI 3, FI 3), (-4, FI 49, upd (FI 48) 2 (FI 48 2 + 1)), ?_, ?_, rfl, ?_⟩
      · unfold m_X11_lump; rw [lim, ev, q_call ((lumpX_ok hk hs hs2 ha (by omega)).trans (if_neg (by decide))), q_call (counted_full _ _ _)]
      · unfold m_X12_lump; rw [q_call (lumpR_full eN hk hs hs2 ha), if_neg (show ¬ ((-4 : Int32), FI 49).1 = -2 from (by decide : ¬ (-4 : Int32) = -2)), if_pos rfl, q_call (full_ok _)]
      · have := rel_full h0
        exact this
    · refine ⟨(nI N, VI 62, VI 63, VI 64, nI (N + 1), 0, addF (FI 3) N (nI k) (nI a) (nI s)), (nI N, lumpF (FI 49) N k a s, FI 48), ?_, ?_, rfl, ?_, h2⟩
      · unfold m_X11_lump
        rw [lim, ev, q_call ((lumpX_ok hk hs hs2 ha (by omega)).trans ((if_pos (nI_lt (by omega) (by omega))).trans (q_call (add_ok (by omega) (by omega)))))]
        show mCall (m_X11_counted (VI 62) (VI 63) (VI 64) (nI (N + 1) - 1)) _ = _
        rw [nI_pred, q_call (counted_ok _ _ _ (by omega))]
      · unfold m_X12_lump; rw [q_call (lumpR_ok eN (by omega) hk hs hs2 ha), if_neg (nI_nn (by omega) (by decide)), if_neg (nI_nn (by omega) (by decide))]
      · exact relP_lump h1 eN (by omega) hk hs hs2 ha (fun j hj a2 a3 a4 => by show va_up (va_up (va_up FI 3 _) 48 _) 49 _ j = _; rw [up_ne (by omega), up_ne (by omega), up_ne (by omega)]) rfl (fun j hj b1 b3 => by show va_up (va_up (va_up (va_up (va_up VI 1 _) 3 _) 62 _) 63 _) 64 _ j = _; rw [up_ne (by omega), up_ne (by omega), up_ne (by omega), up_ne (by omega), up_ne (by omega)]) rfl rfl
-- burn, undo
theorem pcn_del : ∀ m, m < 256 → ∀ b, b < 8 → m.testBit b = true → pcn (m - 2 ^ b) + 1 = pcn m := by decide +kernel
theorem pcn_8 : ∀ m, m < 256 → ∀ b, b < 8 → m.testBit b = false → pcn m < 8 := by decide +kernel
theorem bit_del : ∀ m, m < 256 → ∀ b, b < 8 → m.testBit b = true → m - 2 ^ b < 256 ∧ ∀ j, j < 8 → (m - 2 ^ b).testBit j = (m.testBit j && !(j == b)) := by decide +kernel
theorem bit_add : ∀ m, m < 256 → ∀ b, b < 8 → m.testBit b = false → m + 2 ^ b < 256 ∧ (nI m ||| ((1 : Int32) <<< (nI b &&& 31))) = nI (m + 2 ^ b) ∧ m + 2 ^ b - 2 ^ b = m ∧ ∀ j, j < 8 → (m + 2 ^ b).testBit j = (m.testBit j || j == b) := by decide +kernel
theorem relU_pc {F : Nat → Nat → Int32} {V n : Nat → Int32} {Mu : Nat → Nat} (hU : relU F V n Mu) : ∀ j, j ≤ nv (n 53) → j ≤ pcn (Mu j)
  | 0, _ => Nat.zero_le _
  | j + 1, h => by
    have h1 := relU_pc hU j (by omega)
    obtain ⟨_, _, _, _, b1, b2, b3, b4⟩ := hU.2.2.2.2 j (by omega)
    have h2 := pcn_del (Mu (j + 1)) b4 (nv (n (54 + 3 * j))) b1.1 b2
    rw [← b3] at h2
    omega
theorem ws_sm {F : Nat → Nat → Int32} {V n : Nat → Int32} {j : Nat} (hw : relW F n) (hp : relPr F n) (h : relL F V n) (hj : j < nv (n 50)) : ∀ t, t < 21 → sm (ws n j t) (9 * t + 1)
  | 0, _ => ⟨by show nv 0 < 1; rw [nv0]; omega, by show (0 : Int32) = nI (nv 0); rw [nv0]; rfl⟩
  | t + 1, ht => by
    obtain ⟨x, hx, ex⟩ := sm_of (ws_sm hw hp h hj t (by omega))
    by_cases hz : wt n j t = -1
    · rw [ws_no hz, ex, Int32.add_zero]
      exact sm_nI (by omega) (by omega)
    · have hv : sm (wt n j t) 6 := (wt_val hw h hj (t := t) (by omega)).resolve_left hz
      obtain ⟨y, hy, ey⟩ := sm_of (hp _ hv.1).2
      rw [ws_yes hz, ex, ey, nI_add]
      exact sm_nI (by omega) (by omega)
def burnF (n : Nat → Int32) (U j : Nat) (paid b : Int32) : Nat → Int32 := upd (upd (upd (upd (upd (upd (upd n (54 + 3 * U) (nI j)) (54 + 3 * U + 1) (n 51)) (54 + 3 * U + 2) (n 52)) 53 (nI (U + 1))) (18 + 4 * j + 3) 1) 51 (n 51 + paid)) 52 (n 52 + b)
theorem burnF_o {n : Nat → Int32} {U j k : Nat} {paid b : Int32} (h : k ≠ 54 + 3 * U) (h2 : k ≠ 54 + 3 * U + 1) (h3 : k ≠ 54 + 3 * U + 2) (h4 : k ≠ 53) (h5 : k ≠ 18 + 4 * j + 3) (h6 : k ≠ 51) (h7 : k ≠ 52) : burnF n U j paid b k = n k := by
  unfold burnF
  rw [upd_ne h7, upd_ne h6, upd_ne h5, upd_ne h4, upd_ne h3, upd_ne h2, upd_ne h]
/-- a lump is burnt -/
theorem relP_burn {F F' : Nat → Nat → Int32} {V V' n : Nat → Int32} {U j x b : Nat} (h : relP F V n) (hj : j < nv (n 50)) (hz : n (18 + 4 * j + 3) = 0) (hUv : n 53 = nI U) (hU8 : U < 8) (hx : x ≤ 108) (hF : ∀ j, j < 8 → j ≠ 2 → j ≠ 4 → F' j = F j) (hF4 : F' 4 = addF (F 4) U (V 10) (V 11) (V 12)) (hV : ∀ j, j < 10 → j ≠ 3 → V' j = V j) (hV13 : V' 13 = V 13) (hV3 : V' 3 = nI (U + 1)) (hV10 : V' 10 = V 10 ||| ((1 : Int32) <<< (nI j &&& 31))) (hV11 : V' 11 = V 11 + nI x) (hV12 : V' 12 = V 12 + nI b) : relP F' V' (burnF n U j (nI x) (nI b)) := by
  have hL := h.2.2.2.1
  obtain ⟨Mu, hB, hU⟩ := h.2.2.2.2.1
  have hM := h.2.2.2.2.2.1
  have j8 := (lump_get hL hj).2.2.2.2.2.2.2.2.2.2.2
  have nvU : nv (n 53) = U := by rw [hUv]; exact nv_nI (by omega)
  rw [nvU] at hB
  obtain ⟨u1, u2, u3, u4, u5⟩ := hU
  rw [nvU] at u3 u4 u5
  have hbit : (Mu U).testBit j = false := by
    cases hq : (Mu U).testBit j with
    | false => rfl
    | true => exact absurd ((hB.2 j j8).mp hq).2 (by rw [hz]; decide)
  obtain ⟨a1, a2, a3, a4⟩ := bit_add (Mu U) hB.1 j j8 hbit
  obtain ⟨M, eM⟩ : ∃ M : Nat → Nat, M = fun i => if i ≤ U then Mu i else Mu U + 2 ^ j := ⟨_, rfl⟩
  have m1 : ∀ i, i ≤ U → M i = Mu i := fun i hi => by rw [eM]; exact if_pos hi
  have m2 : M (U + 1) = Mu U + 2 ^ j := by rw [eM]; exact if_neg (by omega)
  obtain ⟨n', en⟩ : ∃ n', n' = burnF n U j (nI x) (nI b) := ⟨_, rfl⟩
  have o : ∀ k, k ≠ 54 + 3 * U → k ≠ 54 + 3 * U + 1 → k ≠ 54 + 3 * U + 2 → k ≠ 53 → k ≠ 18 + 4 * j + 3 → k ≠ 51 → k ≠ 52 → n' k = n k := fun k h1 h2 h3 h4 h5 h6 h7 => by rw [en]; exact burnF_o h1 h2 h3 h4 h5 h6 h7
  have p53 : n' 53 = nI (U + 1) := by rw [en]; unfold burnF; rw [upd_ne (by omega), upd_ne (by omega), upd_ne (by omega), upd_eq]
  have p51 : n' 51 = n 51 + nI x := by rw [en]; unfold burnF; rw [upd_ne (by omega), upd_eq]
  have p52 : n' 52 = n 52 + nI b := by rw [en]; unfold burnF; rw [upd_eq]
  have pj : n' (18 + 4 * j + 3) = 1 := by rw [en]; unfold burnF; rw [upd_ne (by omega), upd_ne (by omega), upd_eq]
  have q0 : n' (54 + 3 * U) = nI j := by rw [en]; unfold burnF; rw [upd_ne (by omega), upd_ne (by omega), upd_ne (by omega), upd_ne (by omega), upd_ne (by omega), upd_ne (by omega), upd_eq]
  have q1 : n' (54 + 3 * U + 1) = n 51 := by rw [en]; unfold burnF; rw [upd_ne (by omega), upd_ne (by omega), upd_ne (by omega), upd_ne (by omega), upd_ne (by omega), upd_eq]
  have q2 : n' (54 + 3 * U + 2) = n 52 := by rw [en]; unfold burnF; rw [upd_ne (by omega), upd_ne (by omega), upd_ne (by omega), upd_ne (by omega), upd_eq]
  rw [← en]
  have nv53 : nv (n' 53) = U + 1 := by rw [p53]; exact nv_nI (by omega)
  have e50 : n' 50 = n 50 := o 50 (by omega) (by omega) (by omega) (by omega) (by omega) (by omega) (by omega)
  have N9 := hL.2.1.1
  obtain ⟨y, hy, ey⟩ := sm_of u4
  have hpc : pcn (Mu U + 2 ^ j) = pcn (Mu U) + 1 := by
    have := pcn_del (Mu U + 2 ^ j) a1 j j8 (by rw [a4 j j8]; simp)
    rw [a3] at this
    omega
  have hp9 : pcn (Mu U) < 9 := by
    have := pcn_8 (Mu U) hB.1 j j8 hbit
    omega
  refine relP_LU h (fun i hi h2 h3 h4 => hF i hi h2 h4) (fun i hi h1 h3 h10 h11 h12 => ?_) (fun k hk hn => o k (by omega) (by omega) (by omega) (by omega) (by omega) (by omega) (by omega)) ⟨by rw [hV 1 (by omega) (by omega), e50]; exact hL.1, by rw [e50]; exact hL.2.1, ?_⟩ ⟨M, ?_, by rw [hV3, p53], by rw [p53]; exact sm_nI (by omega) (by omega), by rw [hV10, nv53, m2, u3]; exact a2, ?_, ?_⟩ ⟨by rw [hV11, p51, hM.1], by rw [hV12, p52, hM.2]⟩
  · by_cases h13 : i = 13
    · rw [h13]; exact hV13
    · exact hV i (by omega) h3
  · rw [e50, hF 3 (by omega) (by omega) (by omega)]
    intro i hi
    obtain ⟨c1, c2, c3, c4⟩ := hL.2.2 i hi
    rw [o (18 + 4 * i) (by omega) (by omega) (by omega) (by omega) (by omega) (by omega) (by omega), o (18 + 4 * i + 1) (by omega) (by omega) (by omega) (by omega) (by omega) (by omega) (by omega), o (18 + 4 * i + 2) (by omega) (by omega) (by omega) (by omega) (by omega) (by omega) (by omega)]
    refine ⟨c1, c2, c3, ?_⟩
    by_cases hij : i = j
    · rw [hij, pj]; exact ⟨by decide, by decide⟩
    · rw [o (18 + 4 * i + 3) (by omega) (by omega) (by omega) (by omega) (by omega) (by omega) (by omega)]; exact c4
  · rw [nv53, m2]
    refine ⟨a1, fun i hi => ?_⟩
    rw [a4 i hi, e50]
    by_cases hij : i = j
    · rw [hij, pj]
      constructor
      · intro _; exact ⟨hj, rfl⟩
      · intro _; simp
    · rw [o (18 + 4 * i + 3) (by omega) (by omega) (by omega) (by omega) (by omega) (by omega) (by omega), ← hB.2 i hi]
      simp [hij]
  · rw [nv53, m2, hpc, p51, ey, nI_add]
    exact sm_nI (by omega) (by omega)
  · rw [nv53, hF4]
    intro i hi
    by_cases hiU : i = U
    · subst hiU
      rw [addF_0, addF_1, addF_2, q0, q1, q2, m1 i (by omega), m2, nv_nI (by omega)]
      exact ⟨u3, hM.1, hM.2, u4, sm_nI (by omega) (by omega), by rw [a4 j j8]; simp, a3.symm, a1⟩
    · rw [addF_old (by omega), addF_old (by omega), addF_old (by omega), o (54 + 3 * i) (by omega) (by omega) (by omega) (by omega) (by omega) (by omega) (by omega), o (54 + 3 * i + 1) (by omega) (by omega) (by omega) (by omega) (by omega) (by omega) (by omega), o (54 + 3 * i + 2) (by omega) (by omega) (by omega) (by omega) (by omega) (by omega) (by omega), m1 i (by omega), m1 (i + 1) (by omega)]
      exact u5 i (by omega)
theorem o_burn : opSpec_burn Rel := by
  intro FI FL VI VL a1 h
  have h1 := h.1
  have hw := h1.2.1
  have hp := h1.2.2.1
  have hL := h1.2.2.2.1
  obtain ⟨Mu, hB, hU⟩ := h1.2.2.2.2.1
  rcases hasLump_c hL a1 with ⟨e1, e2⟩ | ⟨e1, e2, j, hj, rfl⟩
  · refine ⟨(-2, VI 62 + 1, VI 63, VI 64, VI 10, VI 11, VI 12, FI 2, VI 3, FI 4), (-2, FI 49, upd (FI 48) 0 (FI 48 0 + 1)), ?_, ?_, rfl, ?_⟩
    · unfold m_X11_burn; rw [q_call e1, if_pos rfl, q_call (counted_bad _ _ _)]
    · unfold m_X12_burn; rw [q_call e2, if_pos rfl, q_call (bad_ok _)]
    · have := rel_bad h
      simp only [up_id]
      exact this
  · have j8 := (lump_get hL hj).2.2.2.2.2.2.2.2.2.2.2
    rcases burnt_c hL hB hU hj with ⟨b1, b2, b3, b4⟩ | ⟨b1, b2, b3, b4⟩
    · obtain ⟨f', w1⟩ := worthX_ok hw hp hL hj (FI 2)
      have hb := bn_lt hL hj
      obtain ⟨x, hx, ex⟩ := sm_of (ws_sm hw hp hL hj (bn (FI 49) j) (by omega))
      obtain ⟨U, hUb, eU⟩ := sm_of hU.2.1
      have nvU : nv (FI 49 53) = U := by rw [eU]; exact nv_nI (by omega)
      have hU8 : U < 8 := by
        have q1 := relU_pc hU (nv (FI 49 53)) (Nat.le_refl _)
        have q2 := pcn_8 _ hB.1 j j8 b4
        omega
      have ev : VI 3 = nI U := hU.1.trans eU
      have lim : VI 2 = nI 8 := h1.1.2.1
      -- the reference's row after the first writes
      obtain ⟨n1, en1⟩ : ∃ n1, n1 = upd (upd (upd (upd (FI 49) (54 + 3 * U) (nI j)) (54 + 3 * U + 1) (FI 49 51)) (54 + 3 * U + 2) (FI 49 52)) 53 (nI (U + 1)) := ⟨_, rfl⟩
      have on : ∀ k, k < 51 → n1 k = FI 49 k := fun k hk => by rw [en1, upd_ne (by omega), upd_ne (by omega), upd_ne (by omega), upd_ne (by omega)]
      have hL1 : relL FI VI n1 := relL_c hL rfl rfl (fun k _ hk => on k (by omega))
      have hw1 : relW FI n1 := relW_c hw rfl (fun k hk => on k (by omega))
      have hp1 : relPr FI n1 := relPr_c hp rfl (fun k _ hk => on k (by omega))
      have hj1 : j < nv (n1 50) := by rw [on 50 (by omega)]; exact hj
      have wR := worthR_ok hw1 hL1 hj1
      have eqw : ws n1 j (bn n1 j) = nI x := by
        obtain ⟨f2, w2⟩ := worthX_ok hw1 hp1 hL1 hj1 (FI 2)
        have := Option.some.inj (w2.symm.trans w1)
        rw [← ex]
        exact congrArg Prod.fst this
      obtain ⟨n2, en2⟩ : ∃ n2, n2 = upd (upd n1 (18 + 4 * j + 3) 1) 51 (FI 49 51 + nI x) := ⟨_, rfl⟩
      have on2 : ∀ k, k < 51 → k ≠ 18 + 4 * j + 3 → n2 k = FI 49 k := fun k hk hk2 => by rw [en2, upd_ne (by omega), upd_ne hk2]; exact on k hk
      have hb2 : m_X12_burns n2 (nI j) = some (nI (bn (FI 49) j)) := by
        have q := burns_ok hL hj
        rw [← q]
        unfold m_X12_burns m_X12_lumpAt
        rw [show (4 : Int32) * nI j = nI (4 * j) from pk_mul 4 j, show (18 : Int32) + nI (4 * j) = nI (18 + 4 * j) from nI_add 18 _, show nI (18 + 4 * j) + (0 : Int32) = nI (18 + 4 * j) from nI_add _ 0, show nI (18 + 4 * j) + (2 : Int32) = nI (18 + 4 * j + 2) from nI_add _ 2, q_at (by omega) (by omega), q_at (by omega) (by omega), q_at (by omega) (by omega), q_at (by omega) (by omega), on2 (18 + 4 * j) (by omega) (by omega), on2 (18 + 4 * j + 2) (by omega) (by omega)]
      refine ⟨(nI x, VI 62, VI 63, VI 64, VI 10 ||| ((1 : Int32) <<< (nI j &&& 31)), VI 11 + nI x, VI 12 + nI (bn (FI 49) j), f', nI (U + 1), addF (FI 4) U (VI 10) (VI 11) (VI 12)), (nI x, burnF (FI 49) U j (nI x) (nI (bn (FI 49) j)), FI 48), ?_, ?_, rfl, ?_⟩
      · unfold m_X11_burn m_X4_light
        rw [q_call e1, if_neg one_ne0, q_call b2, if_pos rfl, q_call w1, lim, ev, q_call (add_ok hU8 (by omega)), q_let, q_let, q_call (steps_ok hL hj), ex]
        rfl
      · unfold m_X12_burn
        rw [q_call e2, if_neg one_ne0, q_call b3, if_pos rfl, show (53 : Int32) = nI 53 from rfl, show (51 : Int32) = nI 51 from rfl, show (52 : Int32) = nI 52 from rfl, q_at (by omega) (by omega), eU, show (3 : Int32) * nI U = nI (3 * U) from pk_mul 3 U, show (54 : Int32) + nI (3 * U) = nI (54 + 3 * U) from nI_add 54 _, q_let, q_wr (by omega) (by omega), q_at (by omega) (by omega), upd_ne (by omega), nI_1, q_wr (by omega) (by omega), q_at (by omega) (by omega), upd_ne (by omega), upd_ne (by omega), show nI (54 + 3 * U) + (2 : Int32) = nI (54 + 3 * U + 2) from nI_add _ 2, q_wr (by omega) (by omega), q_at (by omega) (by omega), upd_ne (by omega), upd_ne (by omega), upd_ne (by omega), eU, nI_1, q_wr (by omega) (by omega), ← en1, q_call wR, eqw, show (4 : Int32) * nI j = nI (4 * j) from pk_mul 4 j, show (18 : Int32) + nI (4 * j) = nI (18 + 4 * j) from nI_add 18 _, show nI (18 + 4 * j) + (3 : Int32) = nI (18 + 4 * j + 3) from nI_add _ 3, q_wr (by omega) (by omega), q_at (by omega) (by omega), upd_ne (by omega), show n1 51 = FI 49 51 by rw [en1, upd_ne (by omega), upd_ne (by omega), upd_ne (by omega), upd_ne (by omega)], q_wr (by omega) (by omega), q_at (by omega) (by omega), ← en2, show n2 52 = FI 49 52 by rw [en2, upd_ne (by omega), upd_ne (by omega), en1, upd_ne (by omega), upd_ne (by omega), upd_ne (by omega), upd_ne (by omega)], q_call hb2, q_wr (by omega) (by omega), en2, en1]
        rfl
      · have hx108 : x ≤ 108 := by omega
        obtain ⟨g1, g2⟩ := h
        refine ⟨relP_burn g1 hj b1 eU hU8 hx108 (fun i hi i2 i4 => ?_) rfl (fun i hi i3 => ?_) rfl rfl rfl rfl rfl, g2⟩
        · show va_up (va_up (va_up (va_up FI 2 _) 4 _) 48 _) 49 _ i = FI i
          rw [up_ne (by omega), up_ne (by omega), up_ne (by omega), up_ne (by omega)]
        · show va_up (va_up (va_up (va_up (va_up (va_up (va_up VI 3 _) 10 _) 11 _) 12 _) 62 _) 63 _) 64 _ i = VI i
          rw [up_ne (by omega), up_ne (by omega), up_ne (by omega), up_ne (by omega), up_ne (by omega), up_ne (by omega), up_ne (by omega)]
    · refine ⟨(-3, VI 62, VI 63 + 1, VI 64, VI 10, VI 11, VI 12, FI 2, VI 3, FI 4), (-3, FI 49, upd (FI 48) 1 (FI 48 1 + 1)), ?_, ?_, rfl, ?_⟩
      · unfold m_X11_burn; rw [q_call e1, if_neg one_ne0, q_call b2, if_neg one_ne0, q_call (counted_no _ _ _)]
      · unfold m_X12_burn; rw [q_call e2, if_neg one_ne0, q_call b3, if_neg one_ne0, q_call (no_ok _)]
      · have := rel_no h
        simp only [up_id]
        exact this
