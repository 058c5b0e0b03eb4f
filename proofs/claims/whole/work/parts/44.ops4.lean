-- seen
theorem qIn_m (x : Int32) : qIn x (-1) 5 = 0 ∧ ¬ x = -1 ∧ qIn x 0 5 = 0 ∨ x = -1 ∧ qIn x (-1) 5 = 1 ∨ (qIn x (-1) 5 = 1 ∧ ¬ x = -1 ∧ qIn x 0 5 = 1 ∧ ∃ k, k < 6 ∧ x = nI k) := by
  by_cases h : x = -1
  · subst h; exact Or.inr (Or.inl ⟨rfl, by decide⟩)
  · rcases qIn_c x 0 5 (by omega) (by omega) with e | ⟨e, k, _, hk, rfl⟩
    · refine Or.inl ⟨?_, h, e⟩
      have e' : qIn x 0 5 = 0 := e
      by_cases h1 : x < -1
      · exact qIn_lo h1
      · by_cases h2 : (5 : Int32) < x
        · exact qIn_hi h2
        · exfalso
          have a1 := mt Int32.lt_iff_toInt_lt.mpr h1
          have a2 := mt Int32.lt_iff_toInt_lt.mpr h2
          have b1 : (-1 : Int32).toInt = -1 := by decide
          have b2 : (5 : Int32).toInt = 5 := by decide
          have a3 : ¬ x.toInt = -1 := fun q => h (Int32.toInt_inj.mp (q.trans b1.symm))
          have hp : (0 : Int32) ≤ x := Int32.le_iff_toInt_le.mpr (by
            have b0 : (0 : Int32).toInt = 0 := by decide
            omega)
          rw [qIn_yes hp (Int32.not_lt.mp h2)] at e'
          exact absurd e' (by decide)
    · refine Or.inr (Or.inr ⟨?_, h, e, k, by omega, rfl⟩)
      exact qIn_yes (Int32.le_iff_toInt_le.mpr (by rw [nI_toInt (by omega)]; have b1 : (-1 : Int32).toInt = -1 := by decide
                                                   omega)) (nI_le (a := k) (b := 5) hk (by omega))
theorem sn_bad (b n f l z s : Int32) (c : Nat → Int32) : m_X11_seen_B29 l b n f z s c = some (-2, b + 1, n, f, z, s, c) := by unfold m_X11_seen_B29; rw [q_call (counted_bad _ _ _)]
theorem sn_badM (r n : Nat → Int32) : m_X12_seen_B29 r n = some (-2, upd r 0 (r 0 + 1), n) := by unfold m_X12_seen_B29; rw [q_call (bad_ok _)]
theorem sn_full (b n f z : Int32) (c : Nat → Int32) (x1 x2 x3 : Int32) : m_X11_seen_B36 (nI 8) b n f z (nI 8) c x1 x2 x3 = some (-4, b, n, f + 1, z, nI 8, c) := by
  unfold m_X11_seen_B36 m_X4_addSight
  rw [q_call (add_full (by omega) (by omega)), if_pos rfl, q_call rfl, q_call (counted_full _ _ _)]
theorem sn_add (b n f z : Int32) (c : Nat → Int32) (x1 x2 x3 : Int32) {s : Nat} (hs : s < 8) : m_X11_seen_B36 (nI 8) b n f z (nI s) c x1 x2 x3 = some (nI (s + 1), b, n, f, x1, nI (s + 1), addF c s x2 x3 0) := by
  unfold m_X11_seen_B36 m_X4_addSight
  rw [q_call (add_ok hs (by omega)), if_neg (nI_nn (by omega) (by decide)), q_call rfl, q_call (counted_ok _ _ _ (by omega))]
theorem o_seen : opSpec_seen Rel := by
  intro FI FL VI VL a1 a2 a3 h
  have bad : m_X11_seen (VI 62) (VI 63) (VI 64) (VI 13) (VI 6) (VI 7) (FI 6) a1 a2 a3 = some (-2, VI 62 + 1, VI 63, VI 64, VI 13, VI 7, FI 6) → m_X12_seen (FI 48) (FI 49) a1 a2 a3 = some (-2, upd (FI 48) 0 (FI 48 0 + 1), FI 49) → ∃ (rx : Int32 × (Int32) × (Int32) × (Int32) × (Int32) × (Int32) × (Nat → Int32)) (rm : Int32 × (Nat → Int32) × (Nat → Int32)), m_X11_seen (VI 62) (VI 63) (VI 64) (VI 13) (VI 6) (VI 7) (FI 6) a1 a2 a3 = some rx ∧ m_X12_seen (FI 48) (FI 49) a1 a2 a3 = some rm ∧ rx.1 = rm.1 ∧ Rel (va_up (va_up (va_up FI 6 rx.2.2.2.2.2.2) 48 rm.2.1) 49 rm.2.2) FL (va_up (va_up (va_up (va_up (va_up VI 7 rx.2.2.2.2.2.1) 13 rx.2.2.2.2.1) 62 rx.2.1) 63 rx.2.2.1) 64 rx.2.2.2.1) VL :=
    fun e1 e2 => ⟨_, _, e1, e2, rfl, rel_bad h⟩
  rcases qIn_c a1 1 6 (by omega) (by omega) with e | ⟨e, k, hk1, hk, rfl⟩
  · refine bad ?_ ?_
    · unfold m_X11_seen; rw [q_call (isSize_ok _), show qIn a1 1 6 = 0 from e, if_pos rfl, sn_bad]
    · unfold m_X12_seen; rw [q_call (in_ok _ _ _), show qIn a1 1 6 = 0 from e, if_pos rfl, sn_badM]
  · rcases qIn_c a2 0 12 (by omega) (by omega) with e2 | ⟨e2, t, _, ht, rfl⟩
    · refine bad ?_ ?_
      · unfold m_X11_seen; rw [q_call (isSize_ok _), show qIn (nI k) 1 6 = 1 from e, if_neg one_ne0, q_call (within_ok _ _ _), show qIn a2 0 12 = 0 from e2, if_pos rfl, sn_bad]
      · unfold m_X12_seen; rw [q_call (in_ok _ _ _), show qIn (nI k) 1 6 = 1 from e, if_neg one_ne0, q_call (in_ok _ _ _), show qIn a2 0 12 = 0 from e2, if_pos rfl, sn_badM]
    · rcases qIn_m a3 with ⟨e3, n3, e4⟩ | hgood
      · refine bad ?_ ?_
        · unfold m_X11_seen; rw [q_call (isSize_ok _), show qIn (nI k) 1 6 = 1 from e, if_neg one_ne0, q_call (within_ok _ _ _), show qIn (nI t) 0 12 = 1 from e2, if_neg one_ne0, if_neg n3, q_call (isWeather_ok _), e4, if_pos rfl, sn_bad]
        · unfold m_X12_seen; rw [q_call (in_ok _ _ _), show qIn (nI k) 1 6 = 1 from e, if_neg one_ne0, q_call (in_ok _ _ _), show qIn (nI t) 0 12 = 1 from e2, if_neg one_ne0, q_call (in_ok _ _ _), e3, if_pos rfl, sn_badM]
      · have e3 : qIn a3 (-1) 5 = 1 := by
          rcases hgood with ⟨_, q⟩ | ⟨q, _⟩ <;> exact q
        have w3 : a3 = -1 ∨ sm a3 6 := by
          rcases hgood with ⟨q, _⟩ | ⟨_, _, _, j, hj, rfl⟩
          · exact Or.inl q
          · exact Or.inr (sm_nI hj (by omega))
        have hX : m_X11_seen (VI 62) (VI 63) (VI 64) (VI 13) (VI 6) (VI 7) (FI 6) (nI k) (nI t) a3 = m_X11_seen_B36 (VI 6) (VI 62) (VI 63) (VI 64) (VI 13) (VI 7) (FI 6) (nI k) (nI t) a3 := by
          unfold m_X11_seen
          rw [q_call (isSize_ok _), show qIn (nI k) 1 6 = 1 from e, if_neg one_ne0, q_call (within_ok _ _ _), show qIn (nI t) 0 12 = 1 from e2, if_neg one_ne0]
          rcases hgood with ⟨q, _⟩ | ⟨_, q, q2, _⟩
          · rw [if_pos q]
          · rw [if_neg q, q_call (isWeather_ok _), q2, if_neg one_ne0]
        have h0 := h
        obtain ⟨h1, h2⟩ := h
        have hG := h1.2.2.2.2.2.2.2.2
        obtain ⟨g1, g2, g3, g4, g5, g6⟩ := h1.2.2.2.2.2.2.2.1
        obtain ⟨s, hs, es⟩ := sm_of g2
        have ev : VI 7 = nI s := g1.trans es
        have lim : VI 6 = nI 8 := h1.1.2.2.2.1
        have nvs : nv (FI 49 89) = s := by rw [es]; exact nv_nI (by omega)
        by_cases hf : s = 8
        · subst hf
          refine ⟨(-4, VI 62, VI 63, VI 64 + 1, VI 13, VI 7, FI 6), (-4, upd (FI 48) 2 (FI 48 2 + 1), FI 49), ?_, ?_, rfl, rel_full h0⟩
          · rw [hX, lim, ev]; exact sn_full _ _ _ _ _ _ _ _
          · unfold m_X12_seen; rw [q_call (in_ok _ _ _), show qIn (nI k) 1 6 = 1 from e, if_neg one_ne0, q_call (in_ok _ _ _), show qIn (nI t) 0 12 = 1 from e2, if_neg one_ne0, q_call (in_ok _ _ _), e3, if_neg one_ne0, show (89 : Int32) = nI 89 from rfl, q_at (by omega) (by omega), es, if_pos (by decide), q_call (full_ok _)]
        · obtain ⟨n', en⟩ : ∃ n', n' = upd (upd (upd (upd (FI 49) 90 (nI k)) (91 + 2 * s) (nI t)) (91 + 2 * s + 1) a3) 89 (nI (s + 1)) := ⟨_, rfl⟩
          have o1 : ∀ i, i < 89 → n' i = FI 49 i := fun i hi => by rw [en, upd_ne (by omega), upd_ne (by omega), upd_ne (by omega), upd_ne (by omega)]
          have o2 : ∀ i, 91 ≤ i → i < 91 + 2 * s → n' i = FI 49 i := fun i hi hi2 => by rw [en, upd_ne (by omega), upd_ne (by omega), upd_ne (by omega), upd_ne (by omega)]
          have o7 : ∀ i, 107 ≤ i → n' i = FI 49 i := fun i hi => by rw [en, upd_ne (by omega), upd_ne (by omega), upd_ne (by omega), upd_ne (by omega)]
          have o3 : n' 89 = nI (s + 1) := by rw [en, upd_eq]
          have o4 : n' (91 + 2 * s) = nI t := by rw [en, upd_ne (by omega), upd_ne (by omega), upd_eq]
          have o5 : n' (91 + 2 * s + 1) = a3 := by rw [en, upd_ne (by omega), upd_eq]
          have o6 : n' 90 = nI k := by rw [en, upd_ne (by omega), upd_ne (by omega), upd_ne (by omega), upd_eq]
          refine ⟨(nI (s + 1), VI 62, VI 63, VI 64, nI k, nI (s + 1), addF (FI 6) s (nI t) a3 0), (nI (s + 1), FI 48, n'), ?_, ?_, rfl, ?_, h2⟩
          · rw [hX, lim, ev]; exact sn_add _ _ _ _ _ _ _ _ (by omega)
          · unfold m_X12_seen
            rw [q_call (in_ok _ _ _), show qIn (nI k) 1 6 = 1 from e, if_neg one_ne0, q_call (in_ok _ _ _), show qIn (nI t) 0 12 = 1 from e2, if_neg one_ne0, q_call (in_ok _ _ _), e3, if_neg one_ne0, show (89 : Int32) = nI 89 from rfl, show (90 : Int32) = nI 90 from rfl, q_at (by omega) (by omega), es, if_neg (show ¬ nI s = (8 : Int32) from fun q => hf ((nI_eq (a := s) (b := 8) (by omega) (by omega)).mp q)), q_wr (by omega) (by omega), q_at (by omega) (by omega), upd_ne (by omega), es, show (2 : Int32) * nI s = nI (2 * s) from pk_mul 2 s, show (91 : Int32) + nI (2 * s) = nI (91 + 2 * s) from nI_add 91 _, q_wr (by omega) (by omega), q_at (by omega) (by omega), upd_ne (by omega), upd_ne (by omega), es, show (2 : Int32) * nI s = nI (2 * s) from pk_mul 2 s, show (91 : Int32) + nI (2 * s) = nI (91 + 2 * s) from nI_add 91 _, nI_1, q_wr (by omega) (by omega), q_at (by omega) (by omega), upd_ne (by omega), upd_ne (by omega), upd_ne (by omega), es, nI_1, q_wr (by omega) (by omega), q_at (by omega) (by omega), upd_eq, en]
          · refine relP_SG h1 (fun j hj _ => by rw [up_ne (by omega), up_ne (by omega), up_ne (by omega)]) (fun j hj h7 h9 => by rw [up_ne (by omega), up_ne (by omega), up_ne (by omega), up_ne (by omega), up_ne (by omega)]) (fun i hi => o1 i (by omega)) ⟨o3.symm, ?_, o6.symm, ?_, ?_, ?_⟩ (relG_c hG rfl rfl (fun i hi _ => o7 i hi))
            · show sm (n' 89) 9
              rw [o3]; exact sm_nI (by omega) (by omega)
            · show sm (n' 90) 7
              rw [o6]; exact sm_nI (by omega) (by omega)
            · show 1 ≤ nv (n' 90)
              rw [o6, nv_nI (by omega)]; exact hk1
            · show ∀ j, j < nv (n' 89) → addF (FI 6) s (nI t) a3 0 (3 * j) = n' (91 + 2 * j) ∧ sm (n' (91 + 2 * j)) 13 ∧ addF (FI 6) s (nI t) a3 0 (3 * j + 1) = n' (91 + 2 * j + 1) ∧ (n' (91 + 2 * j + 1) = -1 ∨ sm (n' (91 + 2 * j + 1)) 6)
              rw [o3, nv_nI (by omega)]
              intro j hj
              by_cases hj2 : j = s
              · subst hj2
                rw [o4, o5, addF_0, addF_1]
                exact ⟨rfl, sm_nI (by omega) (by omega), rfl, w3⟩
              · rw [o2 (91 + 2 * j) (by omega) (by omega), o2 (91 + 2 * j + 1) (by omega) (by omega), addF_old (by omega), addF_old (by omega)]
                exact g6 j (by omega)
-- pit
theorem anewF_w {f : Nat → Int32} {k : Nat} (h : k < 12) : anewF f k = 0 := by
  unfold anewF anewV
  rw [upd_ne (by omega), if_pos (by omega), if_neg (by omega)]
theorem anewF_p {f : Nat → Int32} {k : Nat} (h : 12 ≤ k) (h2 : k < 18) : anewF f k = 1 := by
  unfold anewF anewV
  rw [upd_ne (by omega), if_pos (by omega), if_pos (by omega)]
theorem anewF_0 {f : Nat → Int32} {k : Nat} (h : 18 ≤ k) (h2 : k < 126) (h3 : k ≠ 90) : anewF f k = 0 := by
  unfold anewF anewV
  rw [upd_ne h3, if_pos (by omega), if_neg (by omega)]
theorem anewF_90 {f : Nat → Int32} : anewF f 90 = 1 := by unfold anewF; rw [upd_eq]
/-- a pit as at first -/
theorem relP_new {F : Nat → Nat → Int32} {V : Nat → Int32} {f : Nat → Int32} (hl : relLim V) (hw : ∀ k, k < 12 → F 0 k = 0) (hp : ∀ k, k < 6 → F 1 k = 1) (v1 : V 1 = 0) (v3 : V 3 = 0) (v5 : V 5 = 0) (v7 : V 7 = 0) (v9 : V 9 = 0) (v10 : V 10 = 0) (v11 : V 11 = 0) (v12 : V 12 = 0) (v13 : V 13 = 1) : relP F V (anewF f) := by
  have e50 : anewF f 50 = 0 := anewF_0 (by omega) (by omega) (by omega)
  have e53 : anewF f 53 = 0 := anewF_0 (by omega) (by omega) (by omega)
  have e78 : anewF f 78 = 0 := anewF_0 (by omega) (by omega) (by omega)
  have e89 : anewF f 89 = 0 := anewF_0 (by omega) (by omega) (by omega)
  have e107 : anewF f 107 = 0 := anewF_0 (by omega) (by omega) (by omega)
  have s0 : ∀ b, 0 < b → sm 0 b := fun b hb => ⟨by rw [nv0]; exact hb, by decide⟩
  refine ⟨hl, fun k hk => ?_, fun k hk => ?_, ⟨by rw [v1, e50], by rw [e50]; exact s0 9 (by omega), fun j hj => ?_⟩, ⟨fun _ => 0, ⟨show 0 < 256 by omega, fun j hj => ?_⟩, by rw [v3, e53], by rw [e53]; exact s0 9 (by omega), by rw [v10]; rfl, by rw [anewF_0 (by omega) (by omega) (by omega)]; exact s0 _ (Nat.succ_pos _), fun j hj => ?_⟩, ⟨by rw [v11, anewF_0 (by omega) (by omega) (by omega)], by rw [v12, anewF_0 (by omega) (by omega) (by omega)]⟩, ⟨by rw [v5, e78], by rw [e78]; exact s0 11 (by omega), fun j hj => ?_⟩, ⟨by rw [v7, e89], by rw [e89]; exact s0 9 (by omega), by rw [v13, anewF_90], by rw [anewF_90]; exact ⟨by decide, by decide⟩, by rw [anewF_90]; decide, fun j hj => ?_⟩, ⟨by rw [v9, e107], by rw [e107]; exact s0 7 (by omega), fun j hj => ?_⟩⟩
  · rw [hw k hk, anewF_w hk]; exact ⟨rfl, s0 6 (by omega)⟩
  · rw [hp k hk, anewF_p (by omega) (by omega)]; exact ⟨rfl, by decide, by decide⟩
  · rw [e50, nv0] at hj; omega
  · rw [e50, nv0]; constructor
    · intro h; simp at h
    · intro h; omega
  · rw [e53, nv0] at hj; omega
  · rw [e78, nv0] at hj; omega
  · rw [e89, nv0] at hj; omega
  · rw [e107, nv0] at hj; omega
theorem reset_ok (b m c z : Int32) (w p : Nat → Int32) (a1 a2 a3 a4 a5 : Int32) : m_X4_reset b m c z w p a1 a2 a3 a4 a5 = some (0, 0, 0, 1, fun j => if j < 12 then 0 else w j, fun j => if j < 6 then 1 else p j, 0, 0, 0, 0, 0) := by
  unfold m_X4_reset
  rw [q_call (fill_I 12 (by omega) w 0), q_call (fill_I 6 (by omega) p 1)]
  rfl
theorem o_pit : opSpec_pit Rel := by
  intro FI FL VI VL h
  obtain ⟨h1, h2⟩ := h
  refine ⟨(VI 1, 0, 0, 0, 1, 0, fun j => if j < 12 then 0 else FI 0 j, fun j => if j < 6 then 1 else FI 1 j, 0, 0, 0, 0), (FI 49 50, anewF (FI 49)), ?_, ?_, h1.2.2.2.1.1, relP_new h1.1 (fun k hk => if_pos hk) (fun k hk => if_pos hk) rfl rfl rfl rfl rfl rfl rfl rfl rfl, h2⟩
  · unfold m_X11_pit
    rw [q_call (reset_ok _ _ _ _ _ _ _ _ _ _ _)]
  · unfold m_X12_pit
    rw [show (50 : Int32) = nI 50 from rfl, q_at (by omega) (by omega), q_call (anew_ok _)]
theorem rel_init : Rel FI0 FL0 VI0 VL0 := by
  refine ⟨relP_new ⟨rfl, rfl, rfl, rfl, rfl⟩ (fun k hk => rfl) (fun k hk => if_pos hk) rfl rfl rfl rfl rfl rfl rfl rfl rfl, ⟨⟨rfl, rfl, rfl, rfl, rfl⟩, ⟨rfl, rfl, rfl, rfl, rfl⟩, ⟨rfl, rfl, rfl, rfl, rfl⟩⟩, ⟨⟨rfl, Or.inl rfl, fun q => absurd q (show ¬ (0 : Int32) = 1 by decide)⟩, ⟨rfl, Or.inl rfl, fun q => absurd q (show ¬ (0 : Int32) = 1 by decide)⟩⟩, ⟨rfl, ⟨by decide, by decide⟩, fun i hi => absurd hi (show ¬ i < nv 0 by rw [nv0]; omega)⟩, ⟨rfl, rfl, rfl⟩, rfl, rfl⟩
