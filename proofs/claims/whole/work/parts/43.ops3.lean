-- parts put anew
theorem relP_SG {F F' : Nat → Nat → Int32} {V V' n n' : Nat → Int32} (h : relP F V n) (hF : ∀ j, j < 6 → j ≠ 2 → F' j = F j) (hV : ∀ j, j < 13 → j ≠ 7 → j ≠ 9 → V' j = V j) (hn : ∀ k, k < 89 → n' k = n k) (hS : relS F' V' n') (hG : relG F' V' n') : relP F' V' n' := by
  obtain ⟨h1, h2, h3, h4, ⟨Mu, h5, h6⟩, h7, h8, h9, h10⟩ := h
  refine ⟨?_, relW_c h2 (hF 0 (by omega) (by omega)) (fun k hk => hn k (by omega)), relPr_c h3 (hF 1 (by omega) (by omega)) (fun k _ hk => hn k (by omega)), relL_c h4 (hF 3 (by omega) (by omega)) (hV 1 (by omega) (by omega) (by omega)) (fun k _ hk => hn k (by omega)), ⟨Mu, by rw [hn 53 (by omega)]; exact relB_c h5 (fun k _ hk => hn k (by omega)), relU_c h6 (hF 4 (by omega) (by omega)) (hV 3 (by omega) (by omega) (by omega)) (hV 10 (by omega) (by omega) (by omega)) (fun k _ hk => hn k (by omega))⟩, ?_, relE_c h8 (hF 5 (by omega) (by omega)) (hV 5 (by omega) (by omega) (by omega)) (fun k _ hk => hn k (by omega)), hS, hG⟩
  · unfold relLim
    rw [hV 0 (by omega) (by omega) (by omega), hV 2 (by omega) (by omega) (by omega), hV 4 (by omega) (by omega) (by omega), hV 6 (by omega) (by omega) (by omega), hV 8 (by omega) (by omega) (by omega)]
    exact h1
  · unfold relMC
    rw [hV 11 (by omega) (by omega) (by omega), hV 12 (by omega) (by omega) (by omega), hn 51 (by omega), hn 52 (by omega)]
    exact h7
theorem relP_LU {F F' : Nat → Nat → Int32} {V V' n n' : Nat → Int32} (h : relP F V n) (hF : ∀ j, j < 8 → j ≠ 2 → j ≠ 3 → j ≠ 4 → F' j = F j) (hV : ∀ j, j < 14 → j ≠ 1 → j ≠ 3 → j ≠ 10 → j ≠ 11 → j ≠ 12 → V' j = V j) (hn : ∀ k, k < 126 → ¬ (18 ≤ k ∧ k < 78) → n' k = n k) (hL : relL F' V' n') (hU : ∃ Mu : Nat → Nat, relB n' (Mu (nv (n' 53))) ∧ relU F' V' n' Mu) (hM : relMC V' n') : relP F' V' n' := by
  obtain ⟨h1, h2, h3, h4, h5, h7, h8, h9, h10⟩ := h
  refine ⟨?_, relW_c h2 (hF 0 (by omega) (by omega) (by omega) (by omega)) (fun k hk => hn k (by omega) (by omega)), relPr_c h3 (hF 1 (by omega) (by omega) (by omega) (by omega)) (fun k _ hk => hn k (by omega) (by omega)), hL, hU, hM, relE_c h8 (hF 5 (by omega) (by omega) (by omega) (by omega)) (hV 5 (by omega) (by omega) (by omega) (by omega) (by omega) (by omega)) (fun k _ hk => hn k (by omega) (by omega)), relS_c h9 (hF 6 (by omega) (by omega) (by omega) (by omega)) (hV 7 (by omega) (by omega) (by omega) (by omega) (by omega) (by omega)) (hV 13 (by omega) (by omega) (by omega) (by omega) (by omega) (by omega)) (fun k _ hk => hn k (by omega) (by omega)), relG_c h10 (hF 7 (by omega) (by omega) (by omega) (by omega)) (hV 9 (by omega) (by omega) (by omega) (by omega) (by omega) (by omega)) (fun k _ hk => hn k (by omega) (by omega))⟩
  unfold relLim
  rw [hV 0 (by omega) (by omega) (by omega) (by omega) (by omega) (by omega), hV 2 (by omega) (by omega) (by omega) (by omega) (by omega) (by omega), hV 4 (by omega) (by omega) (by omega) (by omega) (by omega) (by omega), hV 6 (by omega) (by omega) (by omega) (by omega) (by omega) (by omega), hV 8 (by omega) (by omega) (by omega) (by omega) (by omega) (by omega)]
  exact h1
theorem up_ne {α : Type} {f : Nat → α} {k j : Nat} {x : α} (h : j ≠ k) : va_up f k x j = f j := by unfold va_up; rw [if_neg h]
theorem up_eq {α : Type} {f : Nat → α} {k : Nat} {x : α} : va_up f k x k = x := by unfold va_up; rw [if_pos rfl]
-- forget
theorem o_forget : opSpec_forget Rel := by
  intro FI FL VI VL h
  obtain ⟨h1, h2⟩ := h
  have hs := h1.2.2.2.2.2.2.2.1
  have hg := h1.2.2.2.2.2.2.2.2
  refine ⟨(VI 7 + VI 9, 1, 0, 0), (FI 49 89 + FI 49 107, upd (upd (upd (FI 49) 89 0) 107 0) 90 1), rfl, ?_, ?_, ?_, h2⟩
  · unfold m_X12_forget
    rw [show (89 : Int32) = nI 89 from rfl, show (107 : Int32) = nI 107 from rfl, show (90 : Int32) = nI 90 from rfl, q_at (by omega) (by omega), q_at (by omega) (by omega), q_let, q_wr (by omega) (by omega), q_wr (by omega) (by omega), q_wr (by omega) (by omega)]
  · show VI 7 + VI 9 = FI 49 89 + FI 49 107
    rw [hs.1, hg.1]
  · refine relP_SG h1 (fun j hj _ => up_ne (by omega)) (fun j hj h7 h9 => by rw [up_ne (by omega), up_ne (by omega), up_ne (by omega)]) (fun k hk => ?_) ⟨rfl, sm0 (by omega), rfl, sm1 (by omega), le_nv1, fun j hj => ?_⟩ ⟨rfl, sm0 (by omega), fun j hj => ?_⟩
    · show upd (upd (upd (FI 49) 89 0) 107 0) 90 1 k = FI 49 k
      rw [upd_ne (by omega), upd_ne (by omega), upd_ne (by omega)]
    · exact absurd hj (show ¬ j < nv 0 by rw [nv0]; omega)
    · exact absurd hj (show ¬ j < nv 0 by rw [nv0]; omega)
-- glimpse
theorem gl_bad (b n f l s : Int32) (c : Nat → Int32) : m_X11_glimpse_B26 l b n f s c = some (-2, b + 1, n, f, s, c) := by unfold m_X11_glimpse_B26; rw [q_call (counted_bad _ _ _)]
theorem gl_badM (r n : Nat → Int32) : m_X12_glimpse_B29 r n = some (-2, upd r 0 (r 0 + 1), n) := by unfold m_X12_glimpse_B29; rw [q_call (bad_ok _)]
theorem o_glimpse : opSpec_glimpse Rel := by
  intro FI FL VI VL a1 a2 a3 h
  have bad : m_X11_glimpse (VI 62) (VI 63) (VI 64) (VI 8) (VI 9) (FI 7) a1 a2 a3 = some (-2, VI 62 + 1, VI 63, VI 64, VI 9, FI 7) → m_X12_glimpse (FI 48) (FI 49) a1 a2 a3 = some (-2, upd (FI 48) 0 (FI 48 0 + 1), FI 49) → ∃ (rx : Int32 × (Int32) × (Int32) × (Int32) × (Int32) × (Nat → Int32)) (rm : Int32 × (Nat → Int32) × (Nat → Int32)), m_X11_glimpse (VI 62) (VI 63) (VI 64) (VI 8) (VI 9) (FI 7) a1 a2 a3 = some rx ∧ m_X12_glimpse (FI 48) (FI 49) a1 a2 a3 = some rm ∧ rx.1 = rm.1 ∧ Rel (va_up (va_up (va_up FI 7 rx.2.2.2.2.2) 48 rm.2.1) 49 rm.2.2) FL (va_up (va_up (va_up (va_up VI 9 rx.2.2.2.2.1) 62 rx.2.1) 63 rx.2.2.1) 64 rx.2.2.2.1) VL :=
    fun e1 e2 => ⟨_, _, e1, e2, rfl, rel_bad h⟩
  rcases qIn_c a1 0 11 (by omega) (by omega) with e | ⟨e, k, _, hk, rfl⟩
  · refine bad ?_ ?_
    · unfold m_X11_glimpse; rw [q_call (isLayer_ok _), show qIn a1 0 11 = 0 from e, if_pos rfl, gl_bad]
    · unfold m_X12_glimpse; rw [q_call (in_ok _ _ _), show qIn a1 0 11 = 0 from e, if_pos rfl, gl_badM]
  · rcases qIn_c a2 0 8 (by omega) (by omega) with e2 | ⟨e2, k2, _, hk2, rfl⟩
    · refine bad ?_ ?_
      · unfold m_X11_glimpse; rw [q_call (isLayer_ok _), show qIn (nI k) 0 11 = 1 from e, if_neg one_ne0, q_call (within_ok _ _ _), show qIn a2 0 8 = 0 from e2, if_pos rfl, gl_bad]
      · unfold m_X12_glimpse; rw [q_call (in_ok _ _ _), show qIn (nI k) 0 11 = 1 from e, if_neg one_ne0, q_call (in_ok _ _ _), show qIn a2 0 8 = 0 from e2, if_pos rfl, gl_badM]
    · rcases qIn_c a3 0 1 (by omega) (by omega) with e3 | ⟨e3, k3, _, hk3, rfl⟩
      · refine bad ?_ ?_
        · unfold m_X11_glimpse; rw [q_call (isLayer_ok _), show qIn (nI k) 0 11 = 1 from e, if_neg one_ne0, q_call (within_ok _ _ _), show qIn (nI k2) 0 8 = 1 from e2, if_neg one_ne0, q_call (within_ok _ _ _), show qIn a3 0 1 = 0 from e3, if_pos rfl, gl_bad]
        · unfold m_X12_glimpse; rw [q_call (in_ok _ _ _), show qIn (nI k) 0 11 = 1 from e, if_neg one_ne0, q_call (in_ok _ _ _), show qIn (nI k2) 0 8 = 1 from e2, if_neg one_ne0, q_call (in_ok _ _ _), show qIn a3 0 1 = 0 from e3, if_pos rfl, gl_badM]
      · have h0 := h
        obtain ⟨h1, h2⟩ := h
        have hg := h1.2.2.2.2.2.2.2.2
        have hsS := h1.2.2.2.2.2.2.2.1
        obtain ⟨g1, g2, g3⟩ := hg
        obtain ⟨s, hs, es⟩ := sm_of g2
        have ev : VI 9 = nI s := g1.trans es
        have lim : VI 8 = nI 6 := h1.1.2.2.2.2
        have nvs : nv (FI 49 107) = s := by rw [es]; exact nv_nI (by omega)
        by_cases hf : s = 6
        · subst hf
          refine ⟨(-4, VI 62, VI 63, VI 64 + 1, VI 9, FI 7), (-4, upd (FI 48) 2 (FI 48 2 + 1), FI 49), ?_, ?_, rfl, rel_full h0⟩
          · unfold m_X11_glimpse; rw [q_call (isLayer_ok _), show qIn (nI k) 0 11 = 1 from e, if_neg one_ne0, q_call (within_ok _ _ _), show qIn (nI k2) 0 8 = 1 from e2, if_neg one_ne0, q_call (within_ok _ _ _), show qIn (nI k3) 0 1 = 1 from e3, if_neg one_ne0, lim, ev, q_call (add_full (by omega) (by omega)), q_call (counted_full _ _ _)]
          · unfold m_X12_glimpse; rw [q_call (in_ok _ _ _), show qIn (nI k) 0 11 = 1 from e, if_neg one_ne0, q_call (in_ok _ _ _), show qIn (nI k2) 0 8 = 1 from e2, if_neg one_ne0, q_call (in_ok _ _ _), show qIn (nI k3) 0 1 = 1 from e3, if_neg one_ne0, show (107 : Int32) = nI 107 from rfl, q_at (by omega) (by omega), es, if_pos (by decide), q_call (full_ok _)]
        · obtain ⟨n', en⟩ : ∃ n', n' = upd (upd (upd (upd (FI 49) (108 + 3 * s) (nI k)) (108 + 3 * s + 1) (nI k2)) (108 + 3 * s + 2) (nI k3)) 107 (nI (s + 1)) := ⟨_, rfl⟩
          have o1 : ∀ i, i < 107 → n' i = FI 49 i := fun i hi => by rw [en, upd_ne (by omega), upd_ne (by omega), upd_ne (by omega), upd_ne (by omega)]
          have o2 : ∀ i, 108 ≤ i → i < 108 + 3 * s → n' i = FI 49 i := fun i hi hi2 => by rw [en, upd_ne (by omega), upd_ne (by omega), upd_ne (by omega), upd_ne (by omega)]
          have o3 : n' 107 = nI (s + 1) := by rw [en, upd_eq]
          have o4 : n' (108 + 3 * s) = nI k := by rw [en, upd_ne (by omega), upd_ne (by omega), upd_ne (by omega), upd_eq]
          have o5 : n' (108 + 3 * s + 1) = nI k2 := by rw [en, upd_ne (by omega), upd_ne (by omega), upd_eq]
          have o6 : n' (108 + 3 * s + 2) = nI k3 := by rw [en, upd_ne (by omega), upd_eq]
          refine ⟨(nI (s + 1), VI 62, VI 63, VI 64, nI (s + 1), addF (FI 7) s (nI k) (nI k2) (nI k3)), (nI (s + 1), FI 48, n'), ?_, ?_, rfl, ?_, h2⟩
          · unfold m_X11_glimpse; rw [q_call (isLayer_ok _), show qIn (nI k) 0 11 = 1 from e, if_neg one_ne0, q_call (within_ok _ _ _), show qIn (nI k2) 0 8 = 1 from e2, if_neg one_ne0, q_call (within_ok _ _ _), show qIn (nI k3) 0 1 = 1 from e3, if_neg one_ne0, lim, ev, q_call (add_ok (by omega) (by omega)), q_call (counted_ok _ _ _ (by omega))]
          · unfold m_X12_glimpse
            rw [q_call (in_ok _ _ _), show qIn (nI k) 0 11 = 1 from e, if_neg one_ne0, q_call (in_ok _ _ _), show qIn (nI k2) 0 8 = 1 from e2, if_neg one_ne0, q_call (in_ok _ _ _), show qIn (nI k3) 0 1 = 1 from e3, if_neg one_ne0, show (107 : Int32) = nI 107 from rfl, q_at (by omega) (by omega), es, if_neg (show ¬ nI s = (6 : Int32) from fun q => hf ((nI_eq (a := s) (b := 6) (by omega) (by omega)).mp q)), q_at (by omega) (by omega), es, show (3 : Int32) * nI s = nI (3 * s) from pk_mul 3 s, show (108 : Int32) + nI (3 * s) = nI (108 + 3 * s) from nI_add 108 _, q_let, q_wr (by omega) (by omega), nI_1, q_wr (by omega) (by omega), show nI (108 + 3 * s) + (2 : Int32) = nI (108 + 3 * s + 2) from nI_add _ 2, q_wr (by omega) (by omega), q_at (by omega) (by omega), upd_ne (by omega), upd_ne (by omega), upd_ne (by omega), es, nI_1, q_wr (by omega) (by omega), q_at (by omega) (by omega), upd_eq, en]
          · refine relP_SG h1 (fun j hj _ => by rw [up_ne (by omega), up_ne (by omega), up_ne (by omega)]) (fun j hj h7 h9 => by rw [up_ne (by omega), up_ne (by omega), up_ne (by omega), up_ne (by omega)]) (fun i hi => o1 i (by omega)) (relS_c hsS rfl rfl rfl (fun i _ hi => o1 i hi)) ⟨o3.symm, ?_, ?_⟩
            · show sm (n' 107) 7
              rw [o3]; exact sm_nI (by omega) (by omega)
            · show ∀ j, j < nv (n' 107) → (addF (FI 7) s (nI k) (nI k2) (nI k3) (3 * j) = n' (108 + 3 * j) ∧ sm (n' (108 + 3 * j)) 12) ∧ (addF (FI 7) s (nI k) (nI k2) (nI k3) (3 * j + 1) = n' (108 + 3 * j + 1) ∧ sm (n' (108 + 3 * j + 1)) 9) ∧ (addF (FI 7) s (nI k) (nI k2) (nI k3) (3 * j + 2) = n' (108 + 3 * j + 2) ∧ sm (n' (108 + 3 * j + 2)) 2)
              rw [o3, nv_nI (by omega)]
              intro j hj
              by_cases hj2 : j = s
              · subst hj2
                rw [o4, o5, o6, addF_0, addF_1, addF_2]
                exact ⟨⟨rfl, sm_nI (by omega) (by omega)⟩, ⟨rfl, sm_nI (by omega) (by omega)⟩, ⟨rfl, sm_nI (by omega) (by omega)⟩⟩
              · rw [o2 (108 + 3 * j) (by omega) (by omega), o2 (108 + 3 * j + 1) (by omega) (by omega), o2 (108 + 3 * j + 2) (by omega) (by omega), addF_old (by omega), addF_old (by omega), addF_old (by omega)]
                exact g3 j (by omega)
