-- odds
def pw : Nat → Int32 → Int32 → Int64 → Int64 → Int32 → Option (Int64 × Int64)
  | 0, _, _, _, _, _ => none
  | n + 1, x3, x4, x5, x7, x9 => if x4 < x9 then some (x5, x7) else if (lg_cmp x5 (0 : Int64)) ≤ 0 then some (x5, x7) else pw n x3 x4 (x5 * ((10 : Int32) - x3).toInt64) (x7 * (10 : Int64)) (x9 + (1 : Int32))
theorem odds85 (n : Nat → Int32) (u v : Int64) (r : Nat → Int32) : ∀ (fu : Nat) (x3 x4 : Int32) (x5 x7 : Int64) (x9 : Int32), m_X12_odds_L85 n fu u v r x3 x4 x5 x7 x9 = mCall (pw fu x3 x4 x5 x7 x9) (fun q => m_X12_odds_B123 n u v r q.1 q.2)
  | 0, _, _, _, _, _ => rfl
  | fu + 1, x3, x4, x5, x7, x9 => by
    rw [m_X12_odds_L85, pw]
    by_cases h1 : x4 < x9
    · rw [if_pos h1, if_pos h1, q_some]
    · rw [if_neg h1, if_neg h1]
      by_cases h2 : (lg_cmp x5 (0 : Int64)) ≤ 0
      · rw [if_pos h2, if_pos h2, q_some]
      · rw [if_neg h2, if_neg h2, q_let, q_let, q_let]
        exact odds85 n u v r fu _ _ _ _ _
theorem frac_u : ∀ (fu : Nat) (u v x1 x3 x5 x7 : Int64), m_X12_fraction_L6 fu u v x1 x3 x5 x7 = m_X12_fraction_L6 fu 0 0 x1 x3 x5 x7
  | 0, _, _, _, _, _, _ => rfl
  | fu + 1, u, v, x1, x3, x5, x7 => by
    have ih := frac_u fu u v x1 x3 x7
    show (if (lg_cmp x7 (0 : Int64)) = 0 then mDivL x1 x5 (fun (t1 : Int64) => mDivL x3 x5 (fun (t2 : Int64) => some (t1, t2))) else mRemL x5 x7 (fun (t3 : Int64) => m_X12_fraction_L6 fu u v x1 x3 x7 t3)) = (if (lg_cmp x7 (0 : Int64)) = 0 then mDivL x1 x5 (fun (t1 : Int64) => mDivL x3 x5 (fun (t2 : Int64) => some (t1, t2))) else mRemL x5 x7 (fun (t3 : Int64) => m_X12_fraction_L6 fu 0 0 x1 x3 x7 t3))
    rw [show (fun (t3 : Int64) => m_X12_fraction_L6 fu u v x1 x3 x7 t3) = (fun (t3 : Int64) => m_X12_fraction_L6 fu 0 0 x1 x3 x7 t3) from funext ih]
theorem odds_tab : ∀ c, c < 11 → ∀ t, t < 13 → mCall (pw mFU (nI c) (nI t) 1 1 0) (fun q => m_X12_fraction 0 0 q.1 q.2) = m_X11_setPower 0 1 ((10 : Int32) - nI c) (nI t + 1) ∧ (m_X11_setPower 0 1 ((10 : Int32) - nI c) (nI t + 1)).isSome = true ∧ mCall (pw mFU (nI c) (nI t) 0 1 0) (fun q => m_X12_fraction 0 0 q.1 q.2) = some (0, 1) := by decide +kernel
theorem odds85_ok {n : Nat → Int32} {u v : Int64} {r : Nat → Int32} {x3 x4 : Int32} {x5 x7 a b : Int64} (h : mCall (pw mFU x3 x4 x5 x7 0) (fun q => m_X12_fraction 0 0 q.1 q.2) = some (a, b)) : m_X12_odds_L85 n mFU u v r x3 x4 x5 x7 0 = some (1, a, b, r) := by
  rw [odds85]
  generalize pw mFU x3 x4 x5 x7 0 = o at h ⊢
  cases o with
  | none => cases h
  | some q =>
    rw [q_some] at h
    rw [q_some]
    unfold m_X12_odds_B123 m_X12_fraction
    unfold m_X12_fraction at h
    rw [frac_u, h, q_some]
section OD
variable {F : Nat → Nat → Int32} {V n : Nat → Int32} {j : Nat}
theorem odds_sim (hw : relW F n) (h : relL F V n) (hj : j < nv (n 50)) (w x3 : Int32) (u v : Int64) (r : Nat → Int32) : ∀ (k t fu fu2 : Nat), t + k = bn n j → k < fu → k < fu2 → (m_X4_firstStepOf_L9 (V 1) (F 3) (F 0) fu (nI j) w (nI (bn n j)) (nI t) = some (-1) ∧ m_X12_odds_L35 n fu2 u v r (nI j) w x3 (nI t) = m_X12_odds_L85 n mFU u v r x3 (nI (bn n j)) 0 1 0) ∨ (∃ s, s < bn n j ∧ m_X4_firstStepOf_L9 (V 1) (F 3) (F 0) fu (nI j) w (nI (bn n j)) (nI t) = some (nI s) ∧ m_X12_odds_L35 n fu2 u v r (nI j) w x3 (nI t) = m_X12_odds_L85 n mFU u v r x3 (nI s) 1 1 0)
  | k, t, 0, _, _, h0, _ => absurd h0 (Nat.not_lt_zero k)
  | k, t, _ + 1, 0, _, _, h0 => absurd h0 (Nat.not_lt_zero k)
  | 0, t, fu + 1, fu2 + 1, e, _, _ => by
    have hb := bn_lt h hj
    refine Or.inl ⟨?_, ?_⟩
    · rw [m_X4_firstStepOf_L9, if_pos (nI_le (by omega) (by omega))]
    · rw [m_X12_odds_L35, q_call (burns_ok h hj), if_pos (nI_le (by omega) (by omega))]
      unfold m_X12_odds_B62
      rw [q_call (burns_ok h hj), if_pos (nI_le (by omega) (by omega)), show t = bn n j by omega]
  | k + 1, t, fu + 1, fu2 + 1, e, hfu, hfu2 => by
    have hb := bn_lt h hj
    rw [m_X4_firstStepOf_L9, m_X12_odds_L35, if_neg (nI_ge (by omega) (by omega)), q_call (layer_ok h hj (by omega)), q_call (shown_ok hw h hj (by omega)), q_call (burns_ok h hj), if_neg (nI_ge (by omega) (by omega)), q_call (weatherOf_ok h hj (by omega))]
    by_cases hz : wt n j t = w
    · refine Or.inr ⟨t, by omega, ?_, ?_⟩
      · rw [if_pos hz]
      · rw [if_pos hz]
        unfold m_X12_odds_B62
        rw [q_call (burns_ok h hj), if_neg (nI_ge (by omega) (by omega))]
    · rw [if_neg hz, if_neg hz, q_let, q_let, nI_1]
      exact odds_sim hw h hj w x3 u v r k (t + 1) fu fu2 (by omega) (by omega) (by omega)
end OD
theorem o_odds : opSpec_odds Rel := by
  intro FI FL VI VL a1 a2 a3 h
  have h1 := h.1
  have hw := h1.2.1
  have hL := h1.2.2.2.1
  have badX : ∀ (c w : Nat → Int32) (s : Int32), m_X11_odds_B28 s c w (VL 0) (VL 1) (VI 62) (VI 63) (VI 64) = some (-2, VL 0, VL 1, VI 62 + 1, VI 63, VI 64) := fun c w s => by unfold m_X11_odds_B28; rw [q_call (counted_bad _ _ _)]
  have badM : m_X12_odds_B27 (FI 49) (VL 2) (VL 3) (FI 48) = some (-2, VL 2, VL 3, upd (FI 48) 0 (FI 48 0 + 1)) := by unfold m_X12_odds_B27; rw [q_call (bad_ok _)]
  have bad : m_X11_odds (VL 0) (VL 1) (VI 62) (VI 63) (VI 64) (VI 1) (FI 3) (FI 0) a1 a2 a3 = some (-2, VL 0, VL 1, VI 62 + 1, VI 63, VI 64) → m_X12_odds (VL 2) (VL 3) (FI 49) (FI 48) a1 a2 a3 = some (-2, VL 2, VL 3, upd (FI 48) 0 (FI 48 0 + 1)) → ∃ (rx : Int32 × (Int64) × (Int64) × (Int32) × (Int32) × (Int32)) (rm : Int32 × (Int64) × (Int64) × (Nat → Int32)), m_X11_odds (VL 0) (VL 1) (VI 62) (VI 63) (VI 64) (VI 1) (FI 3) (FI 0) a1 a2 a3 = some rx ∧ m_X12_odds (VL 2) (VL 3) (FI 49) (FI 48) a1 a2 a3 = some rm ∧ rx.1 = rm.1 ∧ Rel (va_up FI 48 rm.2.2.2) FL (va_up (va_up (va_up VI 62 rx.2.2.2.1) 63 rx.2.2.2.2.1) 64 rx.2.2.2.2.2) (va_up (va_up (va_up (va_up VL 0 rx.2.1) 1 rx.2.2.1) 2 rm.2.1) 3 rm.2.2.1) := fun q1 q2 => ⟨_, _, q1, q2, rfl, by
      obtain ⟨g1, g2, g3, g4, g5, g6, g7⟩ := rel_bad h
      exact ⟨g1, g2, g3, g4, g5, g6, g7⟩⟩
  rcases hasLump_c hL a1 with ⟨e1, e2⟩ | ⟨e1, e2, j, hj, rfl⟩
  · refine bad ?_ ?_
    · unfold m_X11_odds; rw [q_call e1, if_pos rfl, badX]
    · unfold m_X12_odds; rw [q_call e2, if_pos rfl, badM]
  · rcases qIn_c a2 0 5 (by omega) (by omega) with f | ⟨f, w, _, hwb, rfl⟩
    · have f' : qIn a2 0 5 = 0 := f
      refine bad ?_ ?_
      · unfold m_X11_odds; rw [q_call e1, if_neg one_ne0, q_call (isWeather_ok _), f', if_pos rfl, badX]
      · unfold m_X12_odds; rw [q_call e2, if_neg one_ne0, q_call (in_ok _ _ _), f', if_pos rfl, badM]
    · have f' : qIn (nI w) 0 5 = 1 := f
      rcases qIn_c a3 0 10 (by omega) (by omega) with g | ⟨g, c, _, hc, rfl⟩
      · have g' : qIn a3 0 10 = 0 := g
        refine bad ?_ ?_
        · unfold m_X11_odds; rw [q_call e1, if_neg one_ne0, q_call (isWeather_ok _), f', if_neg one_ne0, q_call (within_ok _ _ _), g', if_pos rfl, badX]
        · unfold m_X12_odds; rw [q_call e2, if_neg one_ne0, q_call (in_ok _ _ _), f', if_neg one_ne0, q_call (in_ok _ _ _), g', if_pos rfl, badM]
      · have g' : qIn (nI c) 0 10 = 1 := g
        have hb := bn_lt hL hj
        have fin : ∀ a b : Int64, m_X11_odds (VL 0) (VL 1) (VI 62) (VI 63) (VI 64) (VI 1) (FI 3) (FI 0) (nI j) (nI w) (nI c) = some (1, a, b, VI 62, VI 63, VI 64) → m_X12_odds (VL 2) (VL 3) (FI 49) (FI 48) (nI j) (nI w) (nI c) = some (1, a, b, FI 48) → ∃ (rx : Int32 × (Int64) × (Int64) × (Int32) × (Int32) × (Int32)) (rm : Int32 × (Int64) × (Int64) × (Nat → Int32)), m_X11_odds (VL 0) (VL 1) (VI 62) (VI 63) (VI 64) (VI 1) (FI 3) (FI 0) (nI j) (nI w) (nI c) = some rx ∧ m_X12_odds (VL 2) (VL 3) (FI 49) (FI 48) (nI j) (nI w) (nI c) = some rm ∧ rx.1 = rm.1 ∧ Rel (va_up FI 48 rm.2.2.2) FL (va_up (va_up (va_up VI 62 rx.2.2.2.1) 63 rx.2.2.2.2.1) 64 rx.2.2.2.2.2) (va_up (va_up (va_up (va_up VL 0 rx.2.1) 1 rx.2.2.1) 2 rm.2.1) 3 rm.2.2.1) := fun a b q1 q2 => ⟨_, _, q1, q2, rfl, by
            obtain ⟨g1, g2, g3, g4, g5, g6, g7⟩ := rel_same h
            exact ⟨g1, g2, g3, g4, g5, rfl, rfl⟩⟩
        have steps := odds_sim hw hL hj (nI w) (nI c) (VL 2) (VL 3) (FI 48) (bn (FI 49) j) 0 mFU mFU (by omega) (by unfold mFU; omega) (by unfold mFU; omega)
        rcases steps with ⟨x1, r1⟩ | ⟨s, hs, x1, r1⟩
        · refine fin 0 1 ?_ ?_
          · unfold m_X11_odds m_X4_firstStepOf
            rw [q_call e1, if_neg one_ne0, q_call (isWeather_ok _), f', if_neg one_ne0, q_call (within_ok _ _ _), g', if_neg one_ne0, q_call (steps_ok hL hj), q_call (show m_X4_firstStepOf_L9 (VI 1) (FI 3) (FI 0) mFU (nI j) (nI w) (nI (bn (FI 49) j)) (0 : Int32) = some (-1) from x1), if_pos rfl]
          · unfold m_X12_odds
            rw [q_call e2, if_neg one_ne0, q_call (in_ok _ _ _), f', if_neg one_ne0, q_call (in_ok _ _ _), g', if_neg one_ne0]
            refine Eq.trans r1 ?_
            exact odds85_ok (odds_tab c (by omega) (bn (FI 49) j) (by omega)).2.2
        · obtain ⟨t1, t2, _⟩ := odds_tab c (by omega) s (by omega)
          obtain ⟨⟨a, b⟩, hab⟩ := Option.isSome_iff_exists.mp t2
          rw [hab] at t1
          refine fin a b ?_ ?_
          · unfold m_X11_odds m_X4_firstStepOf
            rw [q_call e1, if_neg one_ne0, q_call (isWeather_ok _), f', if_neg one_ne0, q_call (within_ok _ _ _), g', if_neg one_ne0, q_call (steps_ok hL hj), q_call (show m_X4_firstStepOf_L9 (VI 1) (FI 3) (FI 0) mFU (nI j) (nI w) (nI (bn (FI 49) j)) (0 : Int32) = some (nI s) from x1), if_neg (nI_nn (by omega) (by decide)), q_call hab]
          · unfold m_X12_odds
            rw [q_call e2, if_neg one_ne0, q_call (in_ok _ _ _), f', if_neg one_ne0, q_call (in_ok _ _ _), g', if_neg one_ne0]
            refine Eq.trans r1 ?_
            exact odds85_ok t1
