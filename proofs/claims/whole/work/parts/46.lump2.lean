/-! what a lump shows, counted and paid -/
def cn (n : Nat → Int32) (j : Nat) : Nat → Nat
  | 0 => 0
  | t + 1 => if wt n j t = -1 then cn n j t else cn n j t + 1
def ws (n : Nat → Int32) (j : Nat) : Nat → Int32
  | 0 => 0
  | t + 1 => ws n j t + (if wt n j t = -1 then 0 else n (12 + nv (wt n j t)))
theorem cn_le (n : Nat → Int32) (j : Nat) : ∀ t, cn n j t ≤ t
  | 0 => Nat.le_refl 0
  | t + 1 => by
    have := cn_le n j t
    show (if wt n j t = -1 then cn n j t else cn n j t + 1) ≤ t + 1
    by_cases h : wt n j t = -1
    · rw [if_pos h]; omega
    · rw [if_neg h]; omega
theorem cn_no {n : Nat → Int32} {j t : Nat} (h : wt n j t = -1) : cn n j (t + 1) = cn n j t := if_pos h
theorem cn_yes {n : Nat → Int32} {j t : Nat} (h : ¬ wt n j t = -1) : cn n j (t + 1) = cn n j t + 1 := if_neg h
theorem ws_no {n : Nat → Int32} {j t : Nat} (h : wt n j t = -1) : ws n j (t + 1) = ws n j t + 0 := by show ws n j t + _ = _; rw [if_pos h]
theorem ws_yes {n : Nat → Int32} {j t : Nat} (h : ¬ wt n j t = -1) : ws n j (t + 1) = ws n j t + n (12 + nv (wt n j t)) := by show ws n j t + _ = _; rw [if_neg h]
theorem cn_mono (n : Nat → Int32) (j : Nat) : ∀ (d t : Nat), cn n j t ≤ cn n j (t + d)
  | 0, t => Nat.le_refl _
  | d + 1, t => by
    have h1 := cn_mono n j d t
    have h2 : cn n j (t + d) ≤ cn n j (t + d + 1) := by
      by_cases h : wt n j (t + d) = -1
      · rw [cn_no h]; omega
      · rw [cn_yes h]; omega
    exact Nat.le_trans h1 h2
theorem cn_lt {n : Nat → Int32} {j t b : Nat} (h : t < b) (hw : ¬ wt n j t = -1) : cn n j t < cn n j b := by
  have h1 := cn_mono n j (b - (t + 1)) (t + 1)
  rw [show t + 1 + (b - (t + 1)) = b by omega, cn_yes hw] at h1
  omega
theorem cn_surj (n : Nat → Int32) (j : Nat) : ∀ (b k : Nat), k < cn n j b → ∃ t, t < b ∧ cn n j t = k ∧ ¬ wt n j t = -1
  | 0, k, h => absurd h (Nat.not_lt_zero k)
  | b + 1, k, h => by
    by_cases hw : wt n j b = -1
    · rw [cn_no hw] at h
      obtain ⟨t, h1, h2⟩ := cn_surj n j b k h
      exact ⟨t, by omega, h2⟩
    · rw [cn_yes hw] at h
      by_cases hk : k = cn n j b
      · exact ⟨b, by omega, hk.symm, hw⟩
      · obtain ⟨t, h1, h2⟩ := cn_surj n j b k (by omega)
        exact ⟨t, by omega, h2⟩
section WS
variable {F : Nat → Nat → Int32} {V n : Nat → Int32} {j : Nat}
theorem write_aux (hw : relW F n) (h : relL F V n) (hj : j < nv (n 50)) : ∀ (k t fu : Nat) (f : Nat → Int32), t + k = bn n j → k < fu → (∀ u, u < t → ¬ wt n j u = -1 → f (cn n j u) = wt n j u) → ∃ f', m_X4_writeShown_L11 (V 1) (F 3) (F 0) fu f (nI j) (nI (bn n j)) (nI (cn n j t)) (nI t) = some (nI (cn n j (bn n j)), f') ∧ ∀ u, u < bn n j → ¬ wt n j u = -1 → f' (cn n j u) = wt n j u
  | k, t, 0, f, _, h, _ => absurd h (Nat.not_lt_zero k)
  | 0, t, fu + 1, f, e, _, hf => by
    have hb := bn_lt h hj
    have et : t = bn n j := by omega
    refine ⟨f, ?_, by rw [← et]; exact hf⟩
    rw [m_X4_writeShown_L11, if_pos (nI_le (by omega) (by omega)), et]
  | k + 1, t, fu + 1, f, e, hfu, hf => by
    have hb := bn_lt h hj
    have hc := cn_le n j t
    rw [m_X4_writeShown_L11, if_neg (nI_ge (by omega) (by omega)), if_neg (show ¬ (12 : Int32) ≤ nI (cn n j t) from nI_ge (a := cn n j t) (b := 12) (by omega) (by omega)), q_call (layer_ok h hj (by omega)), q_call (shown_ok hw h hj (by omega))]
    by_cases hz : wt n j t = -1
    · rw [if_pos hz, q_let, nI_1, ← cn_no hz]
      refine write_aux hw h hj k (t + 1) fu f (by omega) (by omega) (fun u hu hne => ?_)
      by_cases hut : u = t
      · subst hut; exact absurd hz hne
      · exact hf u (by omega) hne
    · rw [if_neg hz, q_wr (by omega) (by omega), q_let, nI_1, q_let, nI_1, ← cn_yes hz]
      refine write_aux hw h hj k (t + 1) fu _ (by omega) (by omega) (fun u hu hne => ?_)
      by_cases hut : u = t
      · subst hut; exact upd_eq
      · have hlt : cn n j u < cn n j t := cn_lt (by omega) hne
        rw [upd_ne (by omega)]
        exact hf u (by omega) hne
theorem write_ok (hw : relW F n) (h : relL F V n) (hj : j < nv (n 50)) (f : Nat → Int32) : ∃ f', m_X4_writeShown (V 1) (F 3) f (F 0) (nI j) = some (nI (cn n j (bn n j)), f') ∧ ∀ u, u < bn n j → ¬ wt n j u = -1 → f' (cn n j u) = wt n j u := by
  have hb := bn_lt h hj
  obtain ⟨f', h1, h2⟩ := write_aux hw h hj (bn n j) 0 mFU f (by omega) (by unfold mFU; omega) (fun u hu => absurd hu (Nat.not_lt_zero u))
  refine ⟨f', ?_, h2⟩
  unfold m_X4_writeShown
  rw [q_call (steps_ok h hj)]
  exact h1
theorem many_aux (hw : relW F n) (h : relL F V n) (hj : j < nv (n 50)) : ∀ (k t fu : Nat), t + k = bn n j → k < fu → m_X12_showMany_L4 n fu (nI j) (nI (cn n j t)) (nI t) = some (nI (cn n j (bn n j)))
  | k, t, 0, _, h => absurd h (Nat.not_lt_zero k)
  | 0, t, fu + 1, e, _ => by
    have hb := bn_lt h hj
    rw [m_X12_showMany_L4, q_call (burns_ok h hj), if_pos (nI_le (by omega) (by omega)), show t = bn n j by omega]
  | k + 1, t, fu + 1, e, hfu => by
    have hb := bn_lt h hj
    rw [m_X12_showMany_L4, q_call (burns_ok h hj), if_neg (nI_ge (by omega) (by omega)), q_call (weatherOf_ok h hj (by omega))]
    by_cases hz : wt n j t = -1
    · rw [if_pos hz, q_let, show nI (cn n j t) + (0 : Int32) = nI (cn n j t) from nI_add _ 0, q_let, nI_1, ← cn_no hz]
      exact many_aux hw h hj k (t + 1) fu (by omega) (by omega)
    · rw [if_neg hz, q_let, nI_1, q_let, nI_1, ← cn_yes hz]
      exact many_aux hw h hj k (t + 1) fu (by omega) (by omega)
theorem many_ok (hw : relW F n) (h : relL F V n) (hj : j < nv (n 50)) : m_X12_showMany n (nI j) = some (nI (cn n j (bn n j))) := by
  have hb := bn_lt h hj
  unfold m_X12_showMany
  exact many_aux hw h hj (bn n j) 0 mFU (by omega) (by unfold mFU; omega)
theorem worthR_aux (hw : relW F n) (h : relL F V n) (hj : j < nv (n 50)) : ∀ (k t fu : Nat), t + k = bn n j → k < fu → m_X12_worth_L4 n fu (nI j) (ws n j t) (nI t) = some (ws n j (bn n j))
  | k, t, 0, _, h => absurd h (Nat.not_lt_zero k)
  | 0, t, fu + 1, e, _ => by
    have hb := bn_lt h hj
    rw [m_X12_worth_L4, q_call (burns_ok h hj), if_pos (nI_le (by omega) (by omega)), show t = bn n j by omega]
  | k + 1, t, fu + 1, e, hfu => by
    have hb := bn_lt h hj
    rw [m_X12_worth_L4, q_call (burns_ok h hj), if_neg (nI_ge (by omega) (by omega)), q_call (weatherOf_ok h hj (by omega))]
    by_cases hz : wt n j t = -1
    · rw [if_pos hz, q_let, q_let, nI_1, ← ws_no hz]
      exact worthR_aux hw h hj k (t + 1) fu (by omega) (by omega)
    · have hv : sm (wt n j t) 6 := (wt_val hw h hj (t := t) (by omega)).resolve_left hz
      have hb2 := hv.1
      rw [if_neg hz, show (12 : Int32) + wt n j t = nI (12 + nv (wt n j t)) from (congrArg (fun z => (12 : Int32) + z) hv.2).trans (nI_add 12 _), q_at (by omega) (by omega), q_let, q_let, nI_1, ← ws_yes hz]
      exact worthR_aux hw h hj k (t + 1) fu (by omega) (by omega)
theorem worthR_ok (hw : relW F n) (h : relL F V n) (hj : j < nv (n 50)) : m_X12_worth n (nI j) = some (ws n j (bn n j)) := by
  have hb := bn_lt h hj
  unfold m_X12_worth
  exact worthR_aux hw h hj (bn n j) 0 mFU (by omega) (by unfold mFU; omega)
theorem shownAt_ok {f : Nat → Int32} {k : Nat} (hk : k < 12) : m_X4_shownAt f (nI k) = some (f k) := by
  unfold m_X4_shownAt
  rw [if_neg (nI_pos (by omega)), if_neg (show ¬ (12 : Int32) ≤ nI k from nI_ge (a := k) (b := 12) hk (by omega)), q_at hk (by omega)]
theorem qIn_sm {x : Int32} (h : sm x 6) : qIn x 0 5 = 1 := by
  obtain ⟨k, hk, rfl⟩ := sm_of h
  exact qIn_1 (lo := 0) (hi := 5) (by omega) (by omega) (by omega)
theorem worthX_aux (hw : relW F n) (hp : relPr F n) (h : relL F V n) (hj : j < nv (n 50)) (f : Nat → Int32) (hf : ∀ u, u < bn n j → ¬ wt n j u = -1 → f (cn n j u) = wt n j u) : ∀ (k t fu : Nat), t + k = bn n j → k < fu → m_X4_worth_L11 (V 1) (F 3) (F 0) (F 1) fu f (nI (cn n j (bn n j))) (ws n j t) (nI (cn n j t)) = some (ws n j (bn n j), f)
  | k, t, 0, _, h => absurd h (Nat.not_lt_zero k)
  | 0, t, fu + 1, e, _ => by
    have hb := bn_lt h hj
    have hc := cn_le n j (bn n j)
    rw [m_X4_worth_L11, show t = bn n j by omega, if_pos (nI_le (by omega) (by omega))]
  | k + 1, t, fu + 1, e, hfu => by
    have hb := bn_lt h hj
    have hc := cn_le n j (bn n j)
    by_cases hz : wt n j t = -1
    · have hx := worthX_aux hw hp h hj f hf k (t + 1) (fu + 1) (by omega) (by omega)
      rw [cn_no hz, ws_no hz, Int32.add_zero] at hx
      exact hx
    · have hl := cn_lt (b := bn n j) (by omega) hz
      have hv : sm (wt n j t) 6 := (wt_val hw h hj (t := t) (by omega)).resolve_left hz
      rw [m_X4_worth_L11, if_neg (nI_ge hl (by omega)), q_call (shownAt_ok (by omega)), hf t (by omega) hz, q_call (isWeather_ok _), qIn_sm hv, if_neg one_ne0]
      have hx := worthX_aux hw hp h hj f hf k (t + 1) fu (by omega) (by omega)
      rw [cn_yes hz, ws_yes hz] at hx
      have hb2 := hv.1
      rw [show mRd (F 1) 6 (wt n j t) = mRd (F 1) 6 (nI (nv (wt n j t))) from congrArg (mRd (F 1) 6) hv.2, q_at hb2 (by omega), (hp _ hb2).1, q_let, q_let, nI_1]
      exact hx
theorem worthX_ok (hw : relW F n) (hp : relPr F n) (h : relL F V n) (hj : j < nv (n 50)) (f : Nat → Int32) : ∃ f', m_X4_worth (V 1) (F 3) f (F 0) (F 1) (nI j) = some (ws n j (bn n j), f') := by
  have hb := bn_lt h hj
  obtain ⟨f', h1, h2⟩ := write_ok hw h hj f
  refine ⟨f', ?_⟩
  unfold m_X4_worth
  rw [q_call h1]
  exact worthX_aux hw hp h hj f' h2 (bn n j) 0 mFU (by omega) (by unfold mFU; omega)
-- who has which lump
theorem hasLump_c (h : relL F V n) (x : Int32) : (m_X4_hasLump (V 1) x = some 0 ∧ m_X12_isLump n x = some 0) ∨ (m_X4_hasLump (V 1) x = some 1 ∧ m_X12_isLump n x = some 1 ∧ ∃ i, i < nv (n 50) ∧ x = nI i) := by
  obtain ⟨h1, h2, _⟩ := h
  have hb := h2.1
  have hR : m_X12_isLump n x = some (qIn x 0 (nI (nv (n 50)) - 1)) := by
    unfold m_X12_isLump
    rw [show (50 : Int32) = nI 50 from rfl, q_at (by omega) (by omega), q_call (in_ok _ _ _), q_z (qIn_z _ _ _), ← h2.2]
  have hX : m_X4_hasLump (V 1) x = if x < 0 then some 0 else if nI (nv (n 50)) ≤ x then some 0 else some 1 := by
    unfold m_X4_hasLump
    rw [h1, ← h2.2]
  rw [hR, hX]
  generalize nv (n 50) = N at hb ⊢
  rcases pk_ix x (n := N) (by omega) with hx | hx | ⟨i, hi, rfl⟩
  · left
    rw [if_pos hx, qIn_lo hx]
    exact ⟨rfl, rfl⟩
  · left
    have hx0 : ¬ x < 0 := fun q => by
      have a1 := Int32.le_iff_toInt_le.mp hx
      have a2 := Int32.lt_iff_toInt_lt.mp q
      rw [nI_toInt (by omega)] at a1
      have a3 : (0 : Int32).toInt = 0 := by decide
      omega
    rw [if_neg hx0, if_pos hx]
    refine ⟨rfl, ?_⟩
    cases N with
    | zero => rw [qIn_hi (by
        have a1 := Int32.le_iff_toInt_le.mp hx
        rw [nI_toInt (by omega)] at a1
        refine Int32.lt_iff_toInt_lt.mpr ?_
        have a3 : (nI 0 - 1 : Int32).toInt = -1 := by decide
        omega)]
    | succ M => rw [nI_pred, qIn_hi (by
        have a1 := Int32.le_iff_toInt_le.mp hx
        rw [nI_toInt (by omega)] at a1
        refine Int32.lt_iff_toInt_lt.mpr ?_
        rw [nI_toInt (by omega)]
        omega)]
  · right
    rw [if_neg (nI_pos (by omega)), if_neg (nI_ge hi (by omega))]
    refine ⟨rfl, ?_, i, hi, rfl⟩
    cases N with
    | zero => omega
    | succ M => rw [nI_pred]; exact congrArg some (qIn_1 (lo := 0) (hi := M) (by omega) (by omega) (by omega))
end WS
