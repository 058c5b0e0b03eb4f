-- cut: the plan
theorem m1_lt {k : Nat} (hk : k < 2147483648) : (-1 : Int32) < nI k := by
  refine Int32.lt_iff_toInt_lt.mpr ?_
  rw [nI_toInt (by omega)]
  have : (-1 : Int32).toInt = -1 := by decide
  omega
def cutAt (w p f : Nat → Int32) (i : Nat) : Prop := ∃ sz q v : Nat, 1 ≤ sz ∧ i + sz ≤ 12 ∧ f i = nI sz ∧ p i = nI (q + 1) ∧ p (i + sz) = nI q ∧ w i = nI v ∧ v ≤ 12 - i ∧ q + 1 ≤ 12 - i
def cutRel (w p f a b c : Nat → Int32) (i : Nat) : Prop := w 12 = 0 ∧ p 12 = 0 ∧ a 12 = 0 ∧ b 12 = 0 ∧ ∀ j, i ≤ j → j < 12 → cutAt w p f j ∧ a j = w j ∧ b j = p j ∧ c j = f j
theorem cutAt_c {w p f w' p' f' : Nat → Int32} {j : Nat} (h : cutAt w p f j) (hw : ∀ k, j ≤ k → w' k = w k) (hp : ∀ k, j ≤ k → p' k = p k) (hf : ∀ k, j ≤ k → f' k = f k) : cutAt w' p' f' j := by
  obtain ⟨sz, q, v, h1, h2, h3, h4, h5, h6, h7, h8⟩ := h
  exact ⟨sz, q, v, h1, h2, by rw [hf j (by omega)]; exact h3, by rw [hp j (by omega)]; exact h4, by rw [hp _ (by omega)]; exact h5, by rw [hw j (by omega)]; exact h6, h7, h8⟩
theorem cutRel_u {w p f a b c : Nat → Int32} {i : Nat} (hi : i < 12) (h : cutRel w p f a b c (i + 1)) (x y z x2 y2 z2 : Int32) : cutRel (upd w i x) (upd p i y) (upd f i z) (upd a i x2) (upd b i y2) (upd c i z2) (i + 1) := by
  obtain ⟨h1, h2, h3, h4, h5⟩ := h
  refine ⟨by rw [upd_ne (by omega)]; exact h1, by rw [upd_ne (by omega)]; exact h2, by rw [upd_ne (by omega)]; exact h3, by rw [upd_ne (by omega)]; exact h4, fun j hj hj2 => ?_⟩
  obtain ⟨g1, g2, g3, g4⟩ := h5 j hj hj2
  refine ⟨cutAt_c g1 (fun k hk => upd_ne (by omega)) (fun k hk => upd_ne (by omega)) (fun k hk => upd_ne (by omega)), ?_, ?_, ?_⟩
  · rw [upd_ne (by omega), upd_ne (by omega)]; exact g2
  · rw [upd_ne (by omega), upd_ne (by omega)]; exact g3
  · rw [upd_ne (by omega), upd_ne (by omega)]; exact g4
theorem cutRel_0 {w p f a b c : Nat → Int32} {i : Nat} (hi : i < 12) (h : cutRel w p f a b c (i + 1)) (h0 : cutAt w p f i ∧ a i = w i ∧ b i = p i ∧ c i = f i) : cutRel w p f a b c i := by
  obtain ⟨h1, h2, h3, h4, h5⟩ := h
  refine ⟨h1, h2, h3, h4, fun j hj hj2 => ?_⟩
  by_cases hji : j = i
  · rw [hji]; exact h0
  · exact h5 j (by omega) hj2
/-- what stands at a place behind -/
theorem cut_get {w p f a b c : Nat → Int32} {i k : Nat} (h : cutRel w p f a b c i) (hk : i ≤ k) (hk2 : k ≤ 12) : ∃ v q, w k = nI v ∧ a k = nI v ∧ p k = nI q ∧ b k = nI q ∧ v ≤ 12 - k ∧ q ≤ 12 - k := by
  obtain ⟨h1, h2, h3, h4, h5⟩ := h
  by_cases hk12 : k = 12
  · subst hk12
    exact ⟨0, 0, h1, h3, h2, h4, by omega, by omega⟩
  · obtain ⟨⟨sz, q, v, g1, g2, g3, g4, g5, g6, g7, g8⟩, e1, e2, e3⟩ := h5 k hk (by omega)
    exact ⟨v, q + 1, g6, e1.trans g6, g4, e2.trans g4, g7, g8⟩
section CU
variable {F : Nat → Nat → Int32} {n : Nat → Int32} {C i : Nat}
theorem cut33 (hw : relW F n) (hC : 1 ≤ C) (hC6 : C < 7) (hi : i < 12) (kx km : (Nat → Int32) → (Nat → Int32) → (Nat → Int32) → Int32 → Int32 → Option ((Nat → Int32) × (Nat → Int32) × (Nat → Int32))) : ∀ (k s fu fu2 : Nat) (w p f a b c : Nat → Int32), s + k = 8 → k < fu → k < fu2 → 1 ≤ s → cutRel w p f a b c (i + 1) → ((s = 1 ∧ w i = -1 ∧ a i = -1) ∨ (cutAt w p f i ∧ a i = w i ∧ b i = p i ∧ c i = f i)) → ∃ w' p' f' a' b' c', m_X6_findCuts_L33 (F 0) kx fu w p f (nI C) (nI i) (nI s) = kx w' p' f' (nI C) (nI i + (-1)) ∧ m_X12_layCuts_L32 n km fu2 a b c (nI C) (nI i) (nI s) = km a' b' c' (nI C) (nI i + (-1)) ∧ cutRel w' p' f' a' b' c' i
  | k, s, 0, _, w, p, f, a, b, c, _, h0, _, _, _, _ => absurd h0 (Nat.not_lt_zero k)
  | k, s, _ + 1, 0, w, p, f, a, b, c, _, _, h0, _, _, _ => absurd h0 (Nat.not_lt_zero k)
  | 0, s, fu + 1, fu2 + 1, w, p, f, a, b, c, e, _, _, hs, hR, hD => by
    refine ⟨w, p, f, a, b, c, ?_, ?_, cutRel_0 hi hR (hD.resolve_left (fun q => by omega))⟩
    · rw [m_X6_findCuts_L33, if_pos (nI_lt (by omega) (by omega)), q_let]
    · rw [m_X12_layCuts_L32, if_pos (nI_lt (by omega) (by omega)), q_let]
  | k + 1, s, fu + 1, fu2 + 1, w, p, f, a, b, c, e, hfu, hfu2, hs, hR, hD => by
    by_cases hCs : C < s
    · refine ⟨w, p, f, a, b, c, ?_, ?_, cutRel_0 hi hR (hD.resolve_left (fun q => by omega))⟩
      · rw [m_X6_findCuts_L33, if_pos (nI_lt (by omega) (by omega)), q_let]
      · rw [m_X12_layCuts_L32, if_pos (nI_lt (by omega) (by omega)), q_let]
    · by_cases h12 : 12 < i + s
      · refine ⟨w, p, f, a, b, c, ?_, ?_, cutRel_0 hi hR (hD.resolve_left (fun q => by omega))⟩
        · rw [m_X6_findCuts_L33, if_neg (nI_nlt (by omega) (by omega)), nI_add, if_pos (show (12 : Int32) < nI (i + s) from nI_lt (a := 12) (by omega) (by omega)), q_let]
        · rw [m_X12_layCuts_L32, if_neg (nI_nlt (by omega) (by omega)), nI_add, if_pos (show (12 : Int32) < nI (i + s) from nI_lt (a := 12) (by omega) (by omega)), q_let]
      · obtain ⟨v', q', w1, a1, p1, b1, bv, bq⟩ := cut_get hR (k := i + s) (by omega) (by omega)
        have wl := wh_le n i s
        generalize hm : (wh n i (s + 1)).1 = m at wl
        have go : ∀ (w' p' f' a' b' c' : Nat → Int32), cutRel w' p' f' a' b' c' (i + 1) → (cutAt w' p' f' i ∧ a' i = w' i ∧ b' i = p' i ∧ c' i = f' i) → ∃ w2 p2 f2 a2 b2 c2, m_X6_findCuts_L33 (F 0) kx fu w' p' f' (nI C) (nI i) (nI (s + 1)) = kx w2 p2 f2 (nI C) (nI i + (-1)) ∧ m_X12_layCuts_L32 n km fu2 a' b' c' (nI C) (nI i) (nI (s + 1)) = km a2 b2 c2 (nI C) (nI i + (-1)) ∧ cutRel w2 p2 f2 a2 b2 c2 i := fun w' p' f' a' b' c' r d => cut33 hw hC hC6 hi kx km k (s + 1) fu fu2 w' p' f' a' b' c' (by omega) (by omega) (by omega) (by omega) r (Or.inr d)
        have put := go (upd w i (nI (m + v'))) (upd p i (nI (1 + q'))) (upd f i (nI s)) (upd a i (nI (m + v'))) (upd b i (nI (1 + q'))) (upd c i (nI s)) (cutRel_u hi hR _ _ _ _ _ _) ⟨⟨s, q', m + v', hs, by omega, upd_eq, by rw [upd_eq, Nat.add_comm], by rw [upd_ne (by omega)]; exact p1, upd_eq, by omega, by omega⟩, by rw [upd_eq, upd_eq], by rw [upd_eq, upd_eq], by rw [upd_eq, upd_eq]⟩
        rw [m_X6_findCuts_L33, m_X12_layCuts_L32, if_neg (nI_nlt (by omega) (by omega)), if_neg (nI_nlt (by omega) (by omega)), nI_add, if_neg (show ¬ (12 : Int32) < nI (i + s) from nI_nlt (a := 12) (by omega) (by omega)), if_neg (show ¬ (12 : Int32) < nI (i + s) from nI_nlt (a := 12) (by omega) (by omega))]
        unfold m_X6_findCuts_B115 m_X12_layCuts_B109
        simp only [q_let]
        rw [q_call (wholeX_ok hw (by omega)), q_call (wholeR_ok n (by omega)), hm]
        simp (disch := omega) only [q_at, q_wr]
        rw [w1, a1, p1, b1, nI_add, show (1 : Int32) + nI q' = nI (1 + q') from nI_add 1 q', nI_1]
        rcases hD with ⟨d1, d2, d3⟩ | ⟨⟨sz, q, v, g1, g2, g3, g4, g5, g6, g7, g8⟩, e1, e2, e3⟩
        · have hn : (-1 : Int32) < nI (m + v') := m1_lt (by omega)
          rw [d2, d3, if_pos hn, if_pos hn]
          exact put
        · have ga : a i = nI v := e1.trans g6
          have gb : b i = nI (q + 1) := e2.trans g4
          rw [g6, ga, g4, gb]
          by_cases c1 : v < m + v'
          · rw [if_pos (nI_lt c1 (by omega)), if_pos (nI_lt c1 (by omega))]
            exact put
          · rw [if_neg (nI_nlt (by omega) (by omega)), if_neg (nI_nlt (by omega) (by omega))]
            by_cases c2 : m + v' = v
            · rw [if_pos (show nI (m + v') = nI v by rw [c2]), if_pos (show nI (m + v') = nI v by rw [c2])]
              by_cases c3 : q + 1 ≤ 1 + q'
              · rw [if_pos (nI_le c3 (by omega)), if_pos (nI_le c3 (by omega))]
                exact go w p f a b c hR ⟨⟨sz, q, v, g1, g2, g3, g4, g5, g6, g7, g8⟩, e1, e2, e3⟩
              · rw [if_neg (nI_ge (by omega) (by omega)), if_neg (nI_ge (by omega) (by omega))]
                exact put
            · have hne : ¬ nI (m + v') = nI v := fun z => c2 ((nI_eq (by omega) (by omega)).mp z)
              rw [if_neg hne, if_neg hne]
              exact go w p f a b c hR ⟨⟨sz, q, v, g1, g2, g3, g4, g5, g6, g7, g8⟩, e1, e2, e3⟩
theorem cut19 (hw : relW F n) (hC : 1 ≤ C) (hC6 : C < 7) : ∀ (i fu fu2 : Nat) (w p f a b c : Nat → Int32), i < 12 → i + 1 < fu → i + 1 < fu2 → cutRel w p f a b c (i + 1) → ∃ w' p' f' a' b' c', m_X6_findCuts_L19 (F 0) fu w p f (nI C) (nI i) = some (w', p', f') ∧ m_X12_layCuts_L19 n fu2 a b c (nI C) (nI i) = some (a', b', c') ∧ cutRel w' p' f' a' b' c' 0
  | i, 0, _, w, p, f, a, b, c, _, h0, _, _ => absurd h0 (Nat.not_lt_zero _)
  | i, _ + 1, 0, w, p, f, a, b, c, _, _, h0, _ => absurd h0 (Nat.not_lt_zero _)
  | i, fu + 1, fu2 + 1, w, p, f, a, b, c, hi, hfu, hfu2, hR => by
    rw [m_X6_findCuts_L19, m_X12_layCuts_L19, if_neg (nI_pos (by omega)), if_neg (nI_pos (by omega)), q_wr (by omega) (by omega), q_wr (by omega) (by omega)]
    have hR1 : cutRel (upd w i (-1)) p f (upd a i (-1)) b c (i + 1) := by
      obtain ⟨h1, h2, h3, h4, h5⟩ := hR
      refine ⟨by rw [upd_ne (by omega)]; exact h1, h2, by rw [upd_ne (by omega)]; exact h3, h4, fun j hj hj2 => ?_⟩
      obtain ⟨g1, g2, g3, g4⟩ := h5 j hj hj2
      refine ⟨cutAt_c g1 (fun k hk => upd_ne (by omega)) (fun k hk => rfl) (fun k hk => rfl), ?_, g3, g4⟩
      rw [upd_ne (by omega), upd_ne (by omega)]; exact g2
    obtain ⟨w', p', f', a', b', c', e1, e2, e3⟩ := cut33 hw hC hC6 hi (m_X6_findCuts_L19 (F 0) fu) (m_X12_layCuts_L19 n fu2) 7 1 mFU mFU (upd w i (-1)) p f (upd a i (-1)) b c (by omega) (by unfold mFU; omega) (by unfold mFU; omega) (by omega) hR1 (Or.inl ⟨rfl, upd_eq, upd_eq⟩)
    rw [show m_X6_findCuts_L33 (F 0) (m_X6_findCuts_L19 (F 0) fu) mFU (upd w i (-1)) p f (nI C) (nI i) (1 : Int32) = _ from e1, show m_X12_layCuts_L32 n (m_X12_layCuts_L19 n fu2) mFU (upd a i (-1)) b c (nI C) (nI i) (1 : Int32) = _ from e2]
    cases i with
    | zero =>
      refine ⟨w', p', f', a', b', c', ?_, ?_, e3⟩
      · obtain ⟨z, rfl⟩ : ∃ z, fu = z + 1 := ⟨fu - 1, by omega⟩
        rw [m_X6_findCuts_L19, if_pos (by decide)]
      · obtain ⟨z, rfl⟩ : ∃ z, fu2 = z + 1 := ⟨fu2 - 1, by omega⟩
        rw [m_X12_layCuts_L19, if_pos (by decide)]
    | succ j =>
      rw [pk_m1]
      exact cut19 hw hC hC6 j fu fu2 w' p' f' a' b' c' (by omega) (by omega) (by omega) e3
theorem cuts_ok (hw : relW F n) (hC : 1 ≤ C) (hC6 : C < 7) (w p f a b c : Nat → Int32) : ∃ w' p' f' a' b' c', m_X6_findCuts w p (F 0) f (nI C) = some (w', p', f') ∧ m_X12_layCuts a b n c (nI C) = some (a', b', c') ∧ cutRel w' p' f' a' b' c' 0 := by
  unfold m_X6_findCuts m_X12_layCuts
  rw [show (12 : Int32) = nI 12 from rfl, q_wr (by omega) (by omega), q_wr (by omega) (by omega), q_wr (by omega) (by omega), q_wr (by omega) (by omega)]
  exact cut19 hw hC hC6 11 mFU mFU _ _ _ _ _ _ (by omega) (by unfold mFU; omega) (by unfold mFU; omega) ⟨upd_eq, upd_eq, upd_eq, upd_eq, fun j hj hj2 => by omega⟩
theorem cut_walk {w p f a b c : Nat → Int32} (hR : cutRel w p f a b c 0) {K P : Nat} (hK : K < P) (hP : P ≤ 12) (r : Nat → Int32) : ∀ (d k l fu fu2 : Nat), k + d = K → d < fu → d < fu2 → l ≤ 12 → p l = nI (P - k) → ∃ y, m_X6_ofCut_L53 (F 0) fu w p f (nI K) (nI l) (nI k) = some (y, w, p, f) ∧ m_X12_cut_L69 n fu2 r a b c (nI K) (nI l) (nI k) = some (y, r, a, b, c)
  | d, k, l, 0, _, _, h0, _, _, _ => absurd h0 (Nat.not_lt_zero d)
  | d, k, l, _ + 1, 0, _, _, h0, _, _ => absurd h0 (Nat.not_lt_zero d)
  | 0, k, l, fu + 1, fu2 + 1, e, _, _, hl, hp => by
    have hl12 : l < 12 := by
      rcases Nat.lt_or_ge l 12 with q | q
      · exact q
      · have : l = 12 := by omega
        rw [this, hR.2.1, show (0 : Int32) = nI 0 from rfl, nI_eq (by omega) (by omega)] at hp
        omega
    obtain ⟨_, _, _, ec⟩ := hR.2.2.2.2 l (by omega) hl12
    refine ⟨f l, ?_, ?_⟩
    · rw [m_X6_ofCut_L53, if_pos (nI_le (by omega) (by omega))]
      unfold m_X6_ofCut_B84
      rw [if_neg (show ¬ (12 : Int32) ≤ nI l from nI_ge (b := 12) hl12 (by omega)), q_at (by omega) (by omega)]
    · rw [m_X12_cut_L69, if_pos (nI_le (by omega) (by omega)), q_at (by omega) (by omega), ec]
  | d + 1, k, l, fu + 1, fu2 + 1, e, hfu, hfu2, hl, hp => by
    have hl12 : l < 12 := by
      rcases Nat.lt_or_ge l 12 with q | q
      · exact q
      · have : l = 12 := by omega
        rw [this, hR.2.1, show (0 : Int32) = nI 0 from rfl, nI_eq (by omega) (by omega)] at hp
        omega
    obtain ⟨⟨sz, q, v, g1, g2, g3, g4, g5, g6, g7, g8⟩, e1, e2, ec⟩ := hR.2.2.2.2 l (by omega) hl12
    have hq : q + 1 = P - k := by
      rw [hp] at g4
      exact ((nI_eq (by omega) (by omega)).mp g4).symm
    rw [m_X6_ofCut_L53, m_X12_cut_L69, if_neg (nI_ge (by omega) (by omega)), if_neg (nI_ge (by omega) (by omega)), if_neg (show ¬ (12 : Int32) ≤ nI l from nI_ge (b := 12) hl12 (by omega)), q_at (by omega) (by omega), q_at (by omega) (by omega), ec, g3, nI_add, q_let, nI_1, q_let, q_let, q_let]
    exact cut_walk hR hK hP r d (k + 1) (l + sz) fu fu2 (by omega) (by omega) (by omega) (by omega) (by rw [g5]; congr 1; omega)
end CU
theorem o_cut : opSpec_cut Rel := by
  intro FI FL VI VL a1 a2 h
  have hw := h.1.2.1
  have badX : ∀ w : Nat → Int32, m_X11_cut_B16 w (VI 62) (FI 41) (FI 42) (FI 43) = some (-10, VI 62 + 1, FI 41, FI 42, FI 43) := fun w => by unfold m_X11_cut_B16; rw [q_call (badIndex_ok _)]
  have badM : m_X12_cut_B16 (FI 49) (FI 48) (FI 56) (FI 57) (FI 58) = some (-10, upd (FI 48) 0 (FI 48 0 + 1), FI 56, FI 57, FI 58) := by unfold m_X12_cut_B16; rw [q_call (wrong_ok _)]
  have bad : m_X11_cut (VI 62) (FI 41) (FI 42) (FI 0) (FI 43) a1 a2 = some (-10, VI 62 + 1, FI 41, FI 42, FI 43) → m_X12_cut (FI 48) (FI 56) (FI 57) (FI 49) (FI 58) a1 a2 = some (-10, upd (FI 48) 0 (FI 48 0 + 1), FI 56, FI 57, FI 58) → ∃ (rx : Int32 × (Int32) × (Nat → Int32) × (Nat → Int32) × (Nat → Int32)) (rm : Int32 × (Nat → Int32) × (Nat → Int32) × (Nat → Int32) × (Nat → Int32)), m_X11_cut (VI 62) (FI 41) (FI 42) (FI 0) (FI 43) a1 a2 = some rx ∧ m_X12_cut (FI 48) (FI 56) (FI 57) (FI 49) (FI 58) a1 a2 = some rm ∧ rx.1 = rm.1 ∧ Rel (va_up (va_up (va_up (va_up (va_up (va_up (va_up FI 41 rx.2.2.1) 42 rx.2.2.2.1) 43 rx.2.2.2.2) 48 rm.2.1) 56 rm.2.2.1) 57 rm.2.2.2.1) 58 rm.2.2.2.2) FL (va_up VI 62 rx.2.1) VL := fun q1 q2 => ⟨_, _, q1, q2, rfl, by
      have := rel_bad h
      exact this⟩
  rcases qIn_c a1 1 6 (by omega) (by omega) with e | ⟨e, C, hC, hC6, rfl⟩
  · have e' : qIn a1 1 6 = 0 := e
    refine bad ?_ ?_
    · unfold m_X11_cut; rw [q_call (within_ok _ _ _), e', if_pos rfl, badX]
    · unfold m_X12_cut; rw [q_call (in_ok _ _ _), e', if_pos rfl, badM]
  · have e' : qIn (nI C) 1 6 = 1 := e
    by_cases hm2 : (-2 : Int32) ≤ a2
    · obtain ⟨w', p', f', a', b', c', z1, z2, z3⟩ := cuts_ok (n := FI 49) hw hC (by omega) (FI 41) (FI 42) (FI 43) (FI 56) (FI 57) (FI 58)
      obtain ⟨v, P, y1, y2, y3, y4, y5, y6⟩ := cut_get z3 (k := 0) (by omega) (by omega)
      have fin : ∀ y : Int32, m_X11_cut (VI 62) (FI 41) (FI 42) (FI 0) (FI 43) (nI C) a2 = some (y, VI 62, w', p', f') → m_X12_cut (FI 48) (FI 56) (FI 57) (FI 49) (FI 58) (nI C) a2 = some (y, FI 48, a', b', c') → ∃ (rx : Int32 × (Int32) × (Nat → Int32) × (Nat → Int32) × (Nat → Int32)) (rm : Int32 × (Nat → Int32) × (Nat → Int32) × (Nat → Int32) × (Nat → Int32)), m_X11_cut (VI 62) (FI 41) (FI 42) (FI 0) (FI 43) (nI C) a2 = some rx ∧ m_X12_cut (FI 48) (FI 56) (FI 57) (FI 49) (FI 58) (nI C) a2 = some rm ∧ rx.1 = rm.1 ∧ Rel (va_up (va_up (va_up (va_up (va_up (va_up (va_up FI 41 rx.2.2.1) 42 rx.2.2.2.1) 43 rx.2.2.2.2) 48 rm.2.1) 56 rm.2.2.1) 57 rm.2.2.2.1) 58 rm.2.2.2.2) FL (va_up VI 62 rx.2.1) VL := by
        intro y q1 q2
        refine ⟨_, _, q1, q2, rfl, rel_wk h (fun j j2 j3 j4 j5 => ?_) (fun j j1 j2 => ?_) (fun j _ => rfl)⟩
        · show va_up (va_up (va_up (va_up (va_up (va_up (va_up FI 41 w') 42 p') 43 f') 48 (FI 48)) 56 a') 57 b') 58 c' j = FI j
          rw [up_ne (by omega), up_ne (by omega), up_ne (by omega)]
          exact up_or rfl (fun _ => by rw [up_ne (by omega), up_ne (by omega), up_ne (by omega)])
        · show va_up VI 62 (VI 62) j = VI j
          rw [up_id]
      by_cases hx2 : a2 = -2
      · subst hx2
        refine fin (nI v) ?_ ?_
        · unfold m_X11_cut m_X6_ofCut
          rw [q_call (within_ok _ _ _), e', if_neg one_ne0, if_pos hm2, q_call z1, if_pos rfl, show mRd w' 13 (0 : Int32) = mRd w' 13 (nI 0) from rfl, q_at (by omega) (by omega), y1, q_some]
        · unfold m_X12_cut
          rw [q_call (in_ok _ _ _), e', if_neg one_ne0, if_pos hm2, q_call z2, if_neg (by decide), if_neg (by decide), show mRd a' 13 (0 : Int32) = mRd a' 13 (nI 0) from rfl, q_at (by omega) (by omega), y2]
      · by_cases hx1 : a2 = -1
        · subst hx1
          refine fin (nI P) ?_ ?_
          · unfold m_X11_cut m_X6_ofCut
            rw [q_call (within_ok _ _ _), e', if_neg one_ne0, if_pos hm2, q_call z1, if_neg (by decide), if_pos rfl, show mRd p' 13 (0 : Int32) = mRd p' 13 (nI 0) from rfl, q_at (by omega) (by omega), y3, q_some]
          · unfold m_X12_cut
            rw [q_call (in_ok _ _ _), e', if_neg one_ne0, if_pos hm2, q_call z2, if_neg (by decide), if_pos rfl, show mRd b' 13 (0 : Int32) = mRd b' 13 (nI 0) from rfl, q_at (by omega) (by omega), y4]
        · have hpos : (0 : Int32) ≤ a2 := by
            refine Int32.le_iff_toInt_le.mpr ?_
            have t1 := Int32.le_iff_toInt_le.mp hm2
            have t2 : (-2 : Int32).toInt = -2 := by decide
            have t3 : (-1 : Int32).toInt = -1 := by decide
            have t4 : (0 : Int32).toInt = 0 := by decide
            have t5 : ¬ a2.toInt = -2 := fun q => hx2 (Int32.toInt_inj.mp (q.trans t2.symm))
            have t6 : ¬ a2.toInt = -1 := fun q => hx1 (Int32.toInt_inj.mp (q.trans t3.symm))
            omega
          obtain ⟨K, hK, rfl⟩ := nI_of (Int32.not_lt.mpr hpos)
          by_cases hKP : K < P
          · obtain ⟨y, k1, k2⟩ := cut_walk (F := FI) (n := FI 49) z3 hKP (by omega) (FI 48) K 0 0 mFU mFU (by omega) (by unfold mFU; omega) (by unfold mFU; omega) (by omega) y3
            refine fin y ?_ ?_
            · unfold m_X11_cut m_X6_ofCut
              rw [q_call (within_ok _ _ _), e', if_neg one_ne0, if_pos hm2, q_call z1, if_neg hx2, if_neg hx1, show mRd p' 13 (0 : Int32) = mRd p' 13 (nI 0) from rfl, q_at (by omega) (by omega), y3, if_pos (nI_lt hKP (by omega)), q_call (show m_X6_ofCut_L53 (FI 0) mFU w' p' f' (nI K) (0 : Int32) (0 : Int32) = _ from k1)]
            · unfold m_X12_cut
              rw [q_call (in_ok _ _ _), e', if_neg one_ne0, if_pos hm2, q_call z2, if_pos hpos, show mRd b' 13 (0 : Int32) = mRd b' 13 (nI 0) from rfl, q_at (by omega) (by omega), y4, if_pos (nI_lt hKP (by omega))]
              exact k2
          · refine fin (-5) ?_ ?_
            · unfold m_X11_cut m_X6_ofCut
              rw [q_call (within_ok _ _ _), e', if_neg one_ne0, if_pos hm2, q_call z1, if_neg hx2, if_neg hx1, show mRd p' 13 (0 : Int32) = mRd p' 13 (nI 0) from rfl, q_at (by omega) (by omega), y3, if_neg (nI_nlt (by omega) (by omega)), q_some]
            · unfold m_X12_cut
              rw [q_call (in_ok _ _ _), e', if_neg one_ne0, if_pos hm2, q_call z2, if_pos hpos, show mRd b' 13 (0 : Int32) = mRd b' 13 (nI 0) from rfl, q_at (by omega) (by omega), y4, if_neg (nI_nlt (by omega) (by omega))]
    · refine bad ?_ ?_
      · unfold m_X11_cut; rw [q_call (within_ok _ _ _), e', if_neg one_ne0, if_neg hm2, badX]
      · unfold m_X12_cut; rw [q_call (in_ok _ _ _), e', if_neg one_ne0, if_neg hm2, badM]
