-- layer, price
theorem qIn_1 {k lo hi : Nat} (h1 : lo ≤ k) (h2 : k ≤ hi) (h3 : hi < 2147483648) : qIn (nI k) (nI lo) (nI hi) = 1 := qIn_yes (nI_le h1 (by omega)) (nI_le h2 (by omega))
theorem one_ne0 : ¬ (1 : Int32) = 0 := by decide
theorem setW_b1 {w : Nat → Int32} {x y : Int32} (e : qIn x 0 11 = 0) : m_X4_setWeather w x y = some (-2, w) := by unfold m_X4_setWeather; rw [q_call (isLayer_ok _), e, if_pos rfl]
theorem setW_b2 {w : Nat → Int32} {x y : Int32} (e : qIn x 0 11 = 1) (e2 : qIn y 0 5 = 0) : m_X4_setWeather w x y = some (-2, w) := by unfold m_X4_setWeather; rw [q_call (isLayer_ok _), e, if_neg one_ne0, q_call (isWeather_ok _), e2, if_pos rfl]
theorem setW_ok {w : Nat → Int32} {k j : Nat} (hk : k < 12) (hj : j < 6) : m_X4_setWeather w (nI k) (nI j) = some (w k, upd w k (nI j)) := by
  unfold m_X4_setWeather
  rw [q_call (isLayer_ok _), show qIn (nI k) 0 11 = 1 from qIn_1 (lo := 0) (hi := 11) (by omega) (by omega) (by omega), if_neg one_ne0, q_call (isWeather_ok _), show qIn (nI j) 0 5 = 1 from qIn_1 (lo := 0) (hi := 5) (by omega) (by omega) (by omega), if_neg one_ne0, q_at hk (by omega), q_wr hk (by omega)]
theorem layerOn_b1 {w : Nat → Int32} {x y : Int32} (e : qIn x 0 11 = 0) : m_X12_layerOn w x y = some (-2, w) := by unfold m_X12_layerOn; rw [q_call (in_ok _ _ _), e, if_pos rfl]
theorem layerOn_b2 {w : Nat → Int32} {x y : Int32} (e : qIn x 0 11 = 1) (e2 : qIn y 0 5 = 0) : m_X12_layerOn w x y = some (-2, w) := by unfold m_X12_layerOn; rw [q_call (in_ok _ _ _), e, if_neg one_ne0, q_call (in_ok _ _ _), e2, if_pos rfl]
theorem layerOn_ok {w : Nat → Int32} {k j : Nat} (hk : k < 12) (hj : j < 6) : m_X12_layerOn w (nI k) (nI j) = some (w k, upd w k (nI j)) := by
  unfold m_X12_layerOn
  rw [q_call (in_ok _ _ _), show qIn (nI k) 0 11 = 1 from qIn_1 (lo := 0) (hi := 11) (by omega) (by omega) (by omega), if_neg one_ne0, q_call (in_ok _ _ _), show qIn (nI j) 0 5 = 1 from qIn_1 (lo := 0) (hi := 5) (by omega) (by omega) (by omega), if_neg one_ne0, q_at (by omega) (by omega), q_wr (by omega) (by omega)]
theorem setP_b1 {w : Nat → Int32} {x y : Int32} (e : qIn x 0 5 = 0) : m_X4_setPrice w x y = some (-2, w) := by unfold m_X4_setPrice; rw [q_call (isWeather_ok _), e, if_pos rfl]
theorem setP_b2 {w : Nat → Int32} {x y : Int32} (e : qIn x 0 5 = 1) (e2 : qIn y 0 9 = 0) : m_X4_setPrice w x y = some (-2, w) := by unfold m_X4_setPrice; rw [q_call (isWeather_ok _), e, if_neg one_ne0, q_call (within_ok _ _ _), e2, if_pos rfl]
theorem setP_ok {w : Nat → Int32} {k j : Nat} (hk : k < 6) (hj : j < 10) : m_X4_setPrice w (nI k) (nI j) = some (w k, upd w k (nI j)) := by
  unfold m_X4_setPrice
  rw [q_call (isWeather_ok _), show qIn (nI k) 0 5 = 1 from qIn_1 (lo := 0) (hi := 5) (by omega) (by omega) (by omega), if_neg one_ne0, q_call (within_ok _ _ _), show qIn (nI j) 0 9 = 1 from qIn_1 (lo := 0) (hi := 9) (by omega) (by omega) (by omega), if_neg one_ne0, q_at hk (by omega), q_wr hk (by omega)]
theorem priceOn_b1 {w : Nat → Int32} {x y : Int32} (e : qIn x 0 5 = 0) : m_X12_priceOn w x y = some (-2, w) := by unfold m_X12_priceOn; rw [q_call (in_ok _ _ _), e, if_pos rfl]
theorem priceOn_b2 {w : Nat → Int32} {x y : Int32} (e : qIn x 0 5 = 1) (e2 : qIn y 0 9 = 0) : m_X12_priceOn w x y = some (-2, w) := by unfold m_X12_priceOn; rw [q_call (in_ok _ _ _), e, if_neg one_ne0, q_call (in_ok _ _ _), e2, if_pos rfl]
theorem priceOn_ok {w : Nat → Int32} {k j : Nat} (hk : k < 6) (hj : j < 10) : m_X12_priceOn w (nI k) (nI j) = some (w (12 + k), upd w (12 + k) (nI j)) := by
  unfold m_X12_priceOn
  rw [q_call (in_ok _ _ _), show qIn (nI k) 0 5 = 1 from qIn_1 (lo := 0) (hi := 5) (by omega) (by omega) (by omega), if_neg one_ne0, q_call (in_ok _ _ _), show qIn (nI j) 0 9 = 1 from qIn_1 (lo := 0) (hi := 9) (by omega) (by omega) (by omega), if_neg one_ne0, show (12 : Int32) + nI k = nI (12 + k) from nI_add 12 k, q_at (by omega) (by omega), q_wr (by omega) (by omega)]
theorem upd_ne {f : Nat → Int32} {k j : Nat} {x : Int32} (h : j ≠ k) : upd f k x j = f j := by unfold upd; rw [if_neg h]
theorem upd_eq {f : Nat → Int32} {k : Nat} {x : Int32} : upd f k x k = x := by unfold upd; rw [if_pos rfl]
/-- a weather of the seam is set -/
theorem relP_layer {F : Nat → Nat → Int32} {V n : Nat → Int32} {k j : Nat} (hk : k < 12) (hj : j < 6) (h : relP F V n) : relP (va_up F 0 (upd (F 0) k (nI j))) V (upd n k (nI j)) := by
  obtain ⟨h1, h2, h3, h4, ⟨Mu, h5, h6⟩, h7, h8, h9, h10⟩ := h
  refine ⟨h1, fun i hi => ?_, relPr_c h3 rfl (fun i a b => upd_ne (by omega)), relL_c h4 rfl rfl (fun i a b => upd_ne (by omega)), ⟨Mu, by rw [upd_ne (by omega)]; exact relB_c h5 (fun i a b => upd_ne (by omega)), relU_c h6 rfl rfl rfl (fun i a b => upd_ne (by omega))⟩, ?_, relE_c h8 rfl rfl (fun i a b => upd_ne (by omega)), relS_c h9 rfl rfl rfl (fun i a b => upd_ne (by omega)), relG_c h10 rfl rfl (fun i a b => upd_ne (by omega))⟩
  · show upd (F 0) k (nI j) i = upd n k (nI j) i ∧ _
    by_cases e : i = k
    · subst e
      rw [upd_eq, upd_eq]
      exact ⟨rfl, sm_nI hj (by omega)⟩
    · rw [upd_ne e, upd_ne e]
      exact h2 i hi
  · unfold relMC
    rw [upd_ne (by omega), upd_ne (by omega)]
    exact h7
theorem relP_price {F : Nat → Nat → Int32} {V n : Nat → Int32} {k j : Nat} (hk : k < 6) (hj : j < 10) (h : relP F V n) : relP (va_up F 1 (upd (F 1) k (nI j))) V (upd n (12 + k) (nI j)) := by
  obtain ⟨h1, h2, h3, h4, ⟨Mu, h5, h6⟩, h7, h8, h9, h10⟩ := h
  refine ⟨h1, relW_c h2 rfl (fun i a => upd_ne (by omega)), fun i hi => ?_, relL_c h4 rfl rfl (fun i a b => upd_ne (by omega)), ⟨Mu, by rw [upd_ne (by omega)]; exact relB_c h5 (fun i a b => upd_ne (by omega)), relU_c h6 rfl rfl rfl (fun i a b => upd_ne (by omega))⟩, ?_, relE_c h8 rfl rfl (fun i a b => upd_ne (by omega)), relS_c h9 rfl rfl rfl (fun i a b => upd_ne (by omega)), relG_c h10 rfl rfl (fun i a b => upd_ne (by omega))⟩
  · show upd (F 1) k (nI j) i = upd n (12 + k) (nI j) (12 + i) ∧ _
    by_cases e : i = k
    · subst e
      rw [upd_eq, upd_eq]
      exact ⟨rfl, sm_nI hj (by omega)⟩
    · rw [upd_ne e, upd_ne (by omega)]
      exact h3 i hi
  · unfold relMC
    rw [upd_ne (by omega), upd_ne (by omega)]
    exact h7
theorem o_layer : opSpec_layer Rel := by
  intro FI FL VI VL a1 a2 h
  have bad : m_X4_setWeather (FI 0) a1 a2 = some (-2, FI 0) → m_X12_layerOn (FI 49) a1 a2 = some (-2, FI 49) → ∃ (rx : Int32 × (Int32) × (Int32) × (Int32) × (Nat → Int32)) (rm : Int32 × (Nat → Int32) × (Nat → Int32)), m_X11_layer (VI 62) (VI 63) (VI 64) (FI 0) a1 a2 = some rx ∧ m_X12_layer (FI 49) (FI 48) a1 a2 = some rm ∧ rx.1 = rm.1 ∧ Rel (va_up (va_up (va_up FI 0 rx.2.2.2.2) 48 rm.2.2) 49 rm.2.1) FL (va_up (va_up (va_up VI 62 rx.2.1) 63 rx.2.2.1) 64 rx.2.2.2.1) VL := by
    intro e1 e2
    refine ⟨(-2, VI 62 + 1, VI 63, VI 64, FI 0), (-2, FI 49, upd (FI 48) 0 (FI 48 0 + 1)), ?_, ?_, rfl, ?_⟩
    · unfold m_X11_layer; rw [q_call e1, q_call (counted_bad _ _ _)]
    · unfold m_X12_layer; rw [q_call e2, if_pos rfl, q_call (bad_ok _)]
    · have := rel_bad h
      exact this
  rcases qIn_c a1 0 11 (by omega) (by omega) with e | ⟨e, k, _, hk, rfl⟩
  · exact bad (setW_b1 e) (layerOn_b1 e)
  · rcases qIn_c a2 0 5 (by omega) (by omega) with e2 | ⟨e2, j, _, hj, rfl⟩
    · exact bad (setW_b2 e e2) (layerOn_b2 e e2)
    · obtain ⟨h1, h2⟩ := h
      have hw := h1.2.1 k (by omega)
      obtain ⟨v, hv, ev⟩ := sm_of hw.2
      refine ⟨(nI v, VI 62, VI 63, VI 64, upd (FI 0) k (nI j)), (nI v, upd (FI 49) k (nI j), FI 48), ?_, ?_, rfl, relP_layer (by omega) (by omega) h1, h2⟩
      · unfold m_X11_layer
        rw [q_call (setW_ok (by omega) (by omega)), q_call (show m_X11_counted (VI 62) (VI 63) (VI 64) (FI 0 k) = _ by rw [hw.1, ev]; exact counted_ok _ _ _ (by omega))]
      · unfold m_X12_layer
        rw [q_call (layerOn_ok (by omega) (by omega)), if_neg (show ¬ FI 49 k = -2 by rw [ev]; exact nI_nn (by omega) (by decide)), ev]
theorem o_price : opSpec_price Rel := by
  intro FI FL VI VL a1 a2 h
  have bad : m_X4_setPrice (FI 1) a1 a2 = some (-2, FI 1) → m_X12_priceOn (FI 49) a1 a2 = some (-2, FI 49) → ∃ (rx : Int32 × (Int32) × (Int32) × (Int32) × (Nat → Int32)) (rm : Int32 × (Nat → Int32) × (Nat → Int32)), m_X11_price (VI 62) (VI 63) (VI 64) (FI 1) a1 a2 = some rx ∧ m_X12_price (FI 49) (FI 48) a1 a2 = some rm ∧ rx.1 = rm.1 ∧ Rel (va_up (va_up (va_up FI 1 rx.2.2.2.2) 48 rm.2.2) 49 rm.2.1) FL (va_up (va_up (va_up VI 62 rx.2.1) 63 rx.2.2.1) 64 rx.2.2.2.1) VL := by
    intro e1 e2
    refine ⟨(-2, VI 62 + 1, VI 63, VI 64, FI 1), (-2, FI 49, upd (FI 48) 0 (FI 48 0 + 1)), ?_, ?_, rfl, ?_⟩
    · unfold m_X11_price; rw [q_call e1, q_call (counted_bad _ _ _)]
    · unfold m_X12_price; rw [q_call e2, if_pos rfl, q_call (bad_ok _)]
    · have := rel_bad h
      exact this
  rcases qIn_c a1 0 5 (by omega) (by omega) with e | ⟨e, k, _, hk, rfl⟩
  · exact bad (setP_b1 e) (priceOn_b1 e)
  · rcases qIn_c a2 0 9 (by omega) (by omega) with e2 | ⟨e2, j, _, hj, rfl⟩
    · exact bad (setP_b2 e e2) (priceOn_b2 e e2)
    · obtain ⟨h1, h2⟩ := h
      have hw := h1.2.2.1 k (by omega)
      obtain ⟨v, hv, ev⟩ := sm_of hw.2
      refine ⟨(nI v, VI 62, VI 63, VI 64, upd (FI 1) k (nI j)), (nI v, upd (FI 49) (12 + k) (nI j), FI 48), ?_, ?_, rfl, relP_price (by omega) (by omega) h1, h2⟩
      · unfold m_X11_price
        rw [q_call (setP_ok (by omega) (by omega)), q_call (show m_X11_counted (VI 62) (VI 63) (VI 64) (FI 1 k) = _ by rw [hw.1, ev]; exact counted_ok _ _ _ (by omega))]
      · unfold m_X12_price
        rw [q_call (priceOn_ok (by omega) (by omega)), if_neg (show ¬ FI 49 (12 + k) = -2 by rw [ev]; exact nI_nn (by omega) (by decide)), ev]
-- dark, clear, part
theorem nv0 : nv 0 = 0 := by decide
theorem sm0 {b : Nat} (h : 0 < b) : sm 0 b := ⟨by rw [nv0]; exact h, by decide⟩
theorem nv1 : nv 1 = 1 := by decide
theorem sm1 {b : Nat} (h : 1 < b) : sm 1 b := ⟨by rw [nv1]; exact h, by decide⟩
theorem le_nv1 : 1 ≤ nv 1 := by decide
theorem o_dark : opSpec_dark Rel := by
  intro FI FL VI VL h
  obtain ⟨h1, h2⟩ := h
  obtain ⟨l1, l2, l3, l4, ⟨Mu, l5, l6⟩, l7, l8, l9, l10⟩ := h1
  have on : ∀ k, k ≠ 78 → upd (FI 49) 78 0 k = FI 49 k := fun k hk => upd_ne hk
  refine ⟨(VI 5, 0), (FI 49 78, upd (FI 49) 78 0), rfl, ?_, l8.1, ?_, h2⟩
  · unfold m_X12_dark
    rw [show (78 : Int32) = nI 78 from rfl, q_at (by omega) (by omega), q_wr (by omega) (by omega)]
  · refine ⟨l1, relW_c l2 rfl (fun i a => on i (by omega)), relPr_c l3 rfl (fun i a b => on i (by omega)), relL_c l4 rfl rfl (fun i a b => on i (by omega)), ⟨Mu, ?_, relU_c l6 rfl rfl rfl (fun i a b => on i (by omega))⟩, l7, ⟨rfl, sm0 (by omega), ?_⟩, relS_c l9 rfl rfl rfl (fun i a b => on i (by omega)), relG_c l10 rfl rfl (fun i a b => on i (by omega))⟩
    · exact relB_c l5 (fun i a b => on i (by omega))
    · intro i hi
      exact absurd hi (show ¬ i < nv 0 by rw [nv0]; omega)
theorem o_clear : opSpec_clear Rel := by
  intro FI FL VI VL h
  obtain ⟨h1, h2, h3, ⟨t1, t2, t3⟩, h5⟩ := h
  exact ⟨(VI 56, 0), (VI 65, 0), rfl, rfl, t1, h1, h2, h3, ⟨rfl, sm0 (by omega), fun i hi => absurd hi (show ¬ i < nv 0 by rw [nv0]; omega)⟩, h5⟩
theorem o_part : opSpec_part Rel := by
  intro FI FL VI VL a1 h
  rcases qIn_c a1 0 1 (by omega) (by omega) with e | ⟨e, k, _, hk, rfl⟩
  · refine ⟨((-2 : Int32).toInt64, VI 62 + 1, VI 63, VI 64), ((-2 : Int32).toInt64, upd (FI 48) 0 (FI 48 0 + 1)), ?_, ?_, rfl, rel_bad h⟩
    · unfold m_X11_part; rw [q_call (within_ok _ _ _), show qIn a1 0 1 = 0 from e, if_pos rfl, q_call (counted_bad _ _ _)]
    · unfold m_X12_part; rw [q_call (in_ok _ _ _), show qIn a1 0 1 = 0 from e, if_pos rfl, q_call (bad_ok _)]
  · by_cases z : nI k = 0
    · refine ⟨(VL 0, VI 62, VI 63, VI 64), (VL 2, FI 48), ?_, ?_, h.2.2.2.2.2.1, h⟩
      · unfold m_X11_part; rw [q_call (within_ok _ _ _), show qIn (nI k) 0 1 = 1 from e, if_neg one_ne0, if_pos z]
      · unfold m_X12_part; rw [q_call (in_ok _ _ _), show qIn (nI k) 0 1 = 1 from e, if_neg one_ne0, if_pos z]
    · refine ⟨(VL 1, VI 62, VI 63, VI 64), (VL 3, FI 48), ?_, ?_, h.2.2.2.2.2.2, h⟩
      · unfold m_X11_part; rw [q_call (within_ok _ _ _), show qIn (nI k) 0 1 = 1 from e, if_neg one_ne0, if_neg z]
      · unfold m_X12_part; rw [q_call (in_ok _ _ _), show qIn (nI k) 0 1 = 1 from e, if_neg one_ne0, if_neg z]
