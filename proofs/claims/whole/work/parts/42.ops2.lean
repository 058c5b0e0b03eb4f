-- a table's row
def addF (f : Nat → Int32) (s : Nat) (x y z : Int32) : Nat → Int32 := upd (upd (upd f (3 * s) x) (3 * s + 1) y) (3 * s + 2) z
theorem add_ok {lim s : Nat} {f : Nat → Int32} {x y z : Int32} (h : s < lim) (hl : lim ≤ 10) : m_X9_add (nI lim) (nI s) f x y z = some (nI (s + 1), nI (s + 1), addF f s x y z) := by
  unfold m_X9_add m_X9_isFull
  rw [if_pos (nI_lt h (by omega)), q_call rfl, if_pos rfl, show nI s * (3 : Int32) = nI (3 * s) from (pk_mul s 3).trans (congrArg nI (Nat.mul_comm s 3)), q_let, q_wr (by omega) (by omega), show nI (3 * s) + (1 : Int32) = nI (3 * s + 1) from nI_1 _, q_wr (by omega) (by omega), show nI (3 * s) + (2 : Int32) = nI (3 * s + 2) from nI_add _ 2, q_wr (by omega) (by omega), nI_1, q_let]
  rfl
theorem add_full {lim s : Nat} {f : Nat → Int32} {x y z : Int32} (h : lim ≤ s) (hs : s < 2147483648) : m_X9_add (nI lim) (nI s) f x y z = some (-4, nI s, f) := by
  unfold m_X9_add m_X9_isFull
  rw [if_neg (nI_nlt h (by omega)), q_call rfl, if_neg one_ne0]
theorem addF_old {f : Nat → Int32} {s k : Nat} {x y z : Int32} (h : k < 3 * s) : addF f s x y z k = f k := by
  unfold addF
  rw [upd_ne (by omega), upd_ne (by omega), upd_ne (by omega)]
theorem addF_0 {f : Nat → Int32} {s : Nat} {x y z : Int32} : addF f s x y z (3 * s) = x := by
  unfold addF
  rw [upd_ne (by omega), upd_ne (by omega), upd_eq]
theorem addF_1 {f : Nat → Int32} {s : Nat} {x y z : Int32} : addF f s x y z (3 * s + 1) = y := by
  unfold addF
  rw [upd_ne (by omega), upd_eq]
theorem addF_2 {f : Nat → Int32} {s : Nat} {x y z : Int32} : addF f s x y z (3 * s + 2) = z := by
  unfold addF
  rw [upd_eq]
-- evening
theorem o_evening : opSpec_evening Rel := by
  intro FI FL VI VL a1 h
  rcases qIn_c a1 0 5 (by omega) (by omega) with e | ⟨e, k, _, hk, rfl⟩
  · refine ⟨(-2, VI 62 + 1, VI 63, VI 64, VI 5, FI 5), (-2, upd (FI 48) 0 (FI 48 0 + 1), FI 49), ?_, ?_, rfl, rel_bad h⟩
    · unfold m_X11_evening; rw [q_call (isWeather_ok _), show qIn a1 0 5 = 0 from e, if_pos rfl, q_call (counted_bad _ _ _)]
    · unfold m_X12_evening; rw [q_call (in_ok _ _ _), show qIn a1 0 5 = 0 from e, if_pos rfl, q_call (bad_ok _)]
  · have h0 := h
    obtain ⟨h1, h2⟩ := h
    obtain ⟨l1, l2, l3, l4, ⟨Mu, l5, l6⟩, l7, ⟨e1, e2, e3⟩, l9, l10⟩ := h1
    obtain ⟨s, hs, es⟩ := sm_of e2
    have ev : VI 5 = nI s := e1.trans es
    have lim : VI 4 = nI 10 := l1.2.2.1
    have nvs : nv (FI 49 78) = s := by rw [es]; exact nv_nI (by omega)
    by_cases hf : s = 10
    · subst hf
      refine ⟨(-4, VI 62, VI 63, VI 64 + 1, VI 5, FI 5), (-4, upd (FI 48) 2 (FI 48 2 + 1), FI 49), ?_, ?_, rfl, rel_full h0⟩
      · unfold m_X11_evening; rw [q_call (isWeather_ok _), show qIn (nI k) 0 5 = 1 from e, if_neg one_ne0, lim, ev, q_call (add_full (by omega) (by omega)), q_call (counted_full _ _ _)]
      · unfold m_X12_evening; rw [q_call (in_ok _ _ _), show qIn (nI k) 0 5 = 1 from e, if_neg one_ne0, show (78 : Int32) = nI 78 from rfl, q_at (by omega) (by omega), es, if_pos (by decide), q_call (full_ok _)]
    · have hs10 : s < 10 := by omega
      refine ⟨(nI (s + 1), VI 62, VI 63, VI 64, nI (s + 1), addF (FI 5) s (nI k) 0 0), (nI (s + 1), FI 48, upd (upd (FI 49) (79 + s) (nI k)) 78 (nI (s + 1))), ?_, ?_, rfl, ⟨l1, relW_c l2 rfl (fun i a => ?_), relPr_c l3 rfl (fun i a b => ?_), relL_c l4 rfl rfl (fun i a b => ?_), ⟨Mu, ?_, relU_c l6 rfl rfl rfl (fun i a b => ?_)⟩, ?_, ⟨?_, ?_, ?_⟩, relS_c l9 rfl rfl rfl (fun i a b => ?_), relG_c l10 rfl rfl (fun i a b => ?_)⟩, h2⟩
      · unfold m_X11_evening; rw [q_call (isWeather_ok _), show qIn (nI k) 0 5 = 1 from e, if_neg one_ne0, lim, ev, q_call (add_ok (by omega) (by omega)), q_call (counted_ok _ _ _ (by omega))]
      · unfold m_X12_evening
        rw [q_call (in_ok _ _ _), show qIn (nI k) 0 5 = 1 from e, if_neg one_ne0, show (78 : Int32) = nI 78 from rfl, q_at (by omega) (by omega), es, if_neg (show ¬ nI s = (10 : Int32) from fun q => hf ((nI_eq (a := s) (b := 10) (by omega) (by omega)).mp q)), q_at (by omega) (by omega), es, show (79 : Int32) + nI s = nI (79 + s) from nI_add 79 s, q_wr (by omega) (by omega), q_at (by omega) (by omega), upd_ne (by omega), es, q_wr (by omega) (by omega), q_at (by omega) (by omega), upd_eq, nI_1]
      · show upd (upd (FI 49) (79 + s) (nI k)) 78 (nI (s + 1)) i = FI 49 i
        rw [upd_ne (by omega), upd_ne (by omega)]
      · show upd (upd (FI 49) (79 + s) (nI k)) 78 (nI (s + 1)) i = FI 49 i
        rw [upd_ne (by omega), upd_ne (by omega)]
      · show upd (upd (FI 49) (79 + s) (nI k)) 78 (nI (s + 1)) i = FI 49 i
        rw [upd_ne (by omega), upd_ne (by omega)]
      · show relB (upd (upd (FI 49) (79 + s) (nI k)) 78 (nI (s + 1))) (Mu (nv (upd (upd (FI 49) (79 + s) (nI k)) 78 (nI (s + 1)) 53)))
        rw [upd_ne (by omega), upd_ne (by omega)]
        exact relB_c l5 (fun i a b => by rw [upd_ne (by omega), upd_ne (by omega)])
      · show upd (upd (FI 49) (79 + s) (nI k)) 78 (nI (s + 1)) i = FI 49 i
        rw [upd_ne (by omega), upd_ne (by omega)]
      · show VI 11 = upd (upd (FI 49) (79 + s) (nI k)) 78 (nI (s + 1)) 51 ∧ VI 12 = upd (upd (FI 49) (79 + s) (nI k)) 78 (nI (s + 1)) 52
        rw [upd_ne (by omega), upd_ne (by omega), upd_ne (by omega), upd_ne (by omega)]
        exact l7
      · show nI (s + 1) = upd (upd (FI 49) (79 + s) (nI k)) 78 (nI (s + 1)) 78
        rw [upd_eq]
      · show sm (upd (upd (FI 49) (79 + s) (nI k)) 78 (nI (s + 1)) 78) 11
        rw [upd_eq]
        exact sm_nI (by omega) (by omega)
      · show ∀ i, i < nv (upd (upd (FI 49) (79 + s) (nI k)) 78 (nI (s + 1)) 78) → addF (FI 5) s (nI k) 0 0 (3 * i) = upd (upd (FI 49) (79 + s) (nI k)) 78 (nI (s + 1)) (79 + i) ∧ sm (upd (upd (FI 49) (79 + s) (nI k)) 78 (nI (s + 1)) (79 + i)) 6
        rw [upd_eq, nv_nI (by omega)]
        intro i hi
        rw [upd_ne (by omega)]
        by_cases hi2 : i = s
        · subst hi2
          rw [upd_eq, addF_0]
          exact ⟨rfl, sm_nI (by omega) (by omega)⟩
        · rw [upd_ne (by omega), addF_old (by omega)]
          exact e3 i (by omega)
      · show upd (upd (FI 49) (79 + s) (nI k)) 78 (nI (s + 1)) i = FI 49 i
        rw [upd_ne (by omega), upd_ne (by omega)]
      · show upd (upd (FI 49) (79 + s) (nI k)) 78 (nI (s + 1)) i = FI 49 i
        rw [upd_ne (by omega), upd_ne (by omega)]
-- type
theorem byte_small : ∀ k, k < 128 → vp_nar .byte ((nI k).toInt8.toInt32) = nI k := by decide +kernel
theorem o_type : opSpec_type Rel := by
  intro FI FL VI VL a1 h
  rcases qIn_c a1 0 127 (by omega) (by omega) with e | ⟨e, k, _, hk, rfl⟩
  · refine ⟨(-2, VI 62 + 1, VI 63, VI 64, VI 56, FI 32), (-2, VI 65, upd (FI 48) 0 (FI 48 0 + 1), FI 51), ?_, ?_, rfl, rel_bad h⟩
    · unfold m_X11_type m_X10_append; rw [q_call (within_ok _ _ _), show qIn a1 0 127 = 0 from e, if_pos rfl, q_call rfl, q_call (counted_bad _ _ _)]
    · unfold m_X12_type; rw [q_call (in_ok _ _ _), show qIn a1 0 127 = 0 from e, if_pos rfl, q_call (bad_ok _)]
  · have h0 := h
    obtain ⟨h1, h2, h3, ⟨t1, t2, t3⟩, h5⟩ := h
    obtain ⟨s, hs, es⟩ := sm_of t2
    have ev : VI 56 = nI s := t1.trans es
    have nvs : nv (VI 65) = s := by rw [es]; exact nv_nI (by omega)
    by_cases hf : s = 150
    · subst hf
      refine ⟨(-4, VI 62, VI 63, VI 64 + 1, VI 56, FI 32), (-4, VI 65, upd (FI 48) 2 (FI 48 2 + 1), FI 51), ?_, ?_, rfl, rel_full h0⟩
      · unfold m_X11_type m_X10_append; rw [q_call (within_ok _ _ _), show qIn (nI k) 0 127 = 1 from e, if_neg one_ne0, ev, if_neg (show ¬ nI 150 < (150 : Int32) by decide), q_call rfl, q_call (counted_full _ _ _)]
      · unfold m_X12_type; rw [q_call (in_ok _ _ _), show qIn (nI k) 0 127 = 1 from e, if_neg one_ne0, es, if_pos (by decide), q_call (full_ok _)]
    · refine ⟨(nI (s + 1), VI 62, VI 63, VI 64, nI (s + 1), upd (FI 32) s (nI k)), (nI (s + 1), nI (s + 1), FI 48, upd (FI 51) s (nI k)), ?_, ?_, rfl, h1, h2, h3, ⟨rfl, sm_nI (by omega) (by omega), ?_⟩, h5⟩
      · unfold m_X11_type m_X10_append
        rw [q_call (within_ok _ _ _), show qIn (nI k) 0 127 = 1 from e, if_neg one_ne0, ev, if_pos (show nI s < (150 : Int32) from nI_lt (a := s) (b := 150) (by omega) (by omega)), q_wrB (by omega) (by omega), byte_small k (by omega), nI_1, q_let, q_call rfl, q_call (counted_ok _ _ _ (by omega))]
      · unfold m_X12_type
        rw [q_call (in_ok _ _ _), show qIn (nI k) 0 127 = 1 from e, if_neg one_ne0, es, if_neg (show ¬ nI s = (150 : Int32) from fun q => hf ((nI_eq (a := s) (b := 150) (by omega) (by omega)).mp q)), q_wr (by omega) (by omega), nI_1, q_let]
      · show ∀ i, i < nv (nI (s + 1)) → upd (FI 32) s (nI k) i = upd (FI 51) s (nI k) i ∧ sm (upd (FI 51) s (nI k) i) 128
        rw [nv_nI (by omega)]
        intro i hi
        by_cases hi2 : i = s
        · subst hi2
          rw [upd_eq, upd_eq]
          exact ⟨rfl, sm_nI (by omega) (by omega)⟩
        · rw [upd_ne hi2, upd_ne hi2]
          exact t3 i (by omega)
-- status
theorem o_status : opSpec_status Rel := by
  intro FI FL VI VL a1 h
  obtain ⟨h1, h2, h3, h4, ⟨r1, r2, r3⟩, h6⟩ := id h
  rcases qIn_c a1 0 2 (by omega) (by omega) with e | ⟨e, k, _, hk, rfl⟩
  · have e' : qIn a1 0 2 = 0 := e
    refine ⟨(-1, VI 62 + 1), (-1, upd (FI 48) 0 (FI 48 0 + 1)), ?_, ?_, rfl, rel_bad h⟩
    · unfold m_X11_status
      rw [if_neg (fun q => by rw [q] at e'; exact absurd e' (by decide)), if_neg (fun q => by rw [q] at e'; exact absurd e' (by decide)), if_neg (fun q => by rw [q] at e'; exact absurd e' (by decide))]
      rfl
    · unfold m_X12_status; rw [q_call (in_ok _ _ _), e', if_pos rfl, show (0 : Int32) = nI 0 from rfl, q_at (by omega) (by omega), q_wr (by omega) (by omega)]
  · have hm : m_X12_status (FI 48) (nI k) = some (FI 48 k, FI 48) := by
      unfold m_X12_status; rw [q_call (in_ok _ _ _), show qIn (nI k) 0 2 = 1 from e, if_neg one_ne0, q_at (by omega) (by omega)]
    have hc : k = 0 ∨ k = 1 ∨ k = 2 := by omega
    rcases hc with rfl | rfl | rfl
    · exact ⟨(VI 62, VI 62), (FI 48 0, FI 48), rfl, hm, r1.symm, h⟩
    · exact ⟨(VI 63, VI 62), (FI 48 1, FI 48), rfl, hm, r2.symm, h⟩
    · exact ⟨(VI 64, VI 62), (FI 48 2, FI 48), rfl, hm, r3.symm, h⟩
