-- cut: afternoons that lie whole
def bg (n : Nat → Int32) (l : Nat) : Bool := l == 0 || l == 12 || !(n l == n (l - 1))
theorem bg_eq {n : Nat → Int32} {m : Nat} (h12 : m + 1 ≠ 12) (he : n (m + 1) = n m) : bg n (m + 1) = false := by
  unfold bg
  rw [he]
  simp
  omega
theorem bg_ne {n : Nat → Int32} {m : Nat} (he : ¬ n (m + 1) = n m) : bg n (m + 1) = true := by
  unfold bg
  simp [he]
def b2 (b : Bool) : Int32 := if b = true then 1 else 0
/-- of d layers from i on: how many begin, but for the first; whether one has begun -/
def wh (n : Nat → Int32) (i : Nat) : Nat → Nat × Bool
  | 0 => (0, false)
  | d + 1 => if bg n (i + d) = true then (if (wh n i d).2 = true then (wh n i d).1 + 1 else (wh n i d).1, true) else wh n i d
theorem wh_1 (n : Nat → Int32) (i : Nat) : (wh n i 1).1 = 0 := by
  show (if bg n (i + 0) = true then (if false = true then 0 + 1 else 0, true) else ((0, false) : Nat × Bool)).1 = 0
  by_cases h : bg n (i + 0) = true
  · rw [if_pos h]; rfl
  · rw [if_neg h]
theorem wh_st (n : Nat → Int32) (i : Nat) : ∀ d, (wh n i d).2 = false → (wh n i d).1 = 0
  | 0, _ => rfl
  | d + 1, h => by
    have e : wh n i (d + 1) = if bg n (i + d) = true then (if (wh n i d).2 = true then (wh n i d).1 + 1 else (wh n i d).1, true) else wh n i d := rfl
    by_cases hb : bg n (i + d) = true
    · rw [e, if_pos hb] at h; exact absurd (show true = false from h) (by decide)
    · rw [e, if_neg hb] at h ⊢; exact wh_st n i d h
theorem wh_le (n : Nat → Int32) (i : Nat) : ∀ d, (wh n i (d + 1)).1 ≤ d
  | 0 => by rw [wh_1]; exact Nat.le_refl 0
  | d + 1 => by
    have h := wh_le n i d
    have e : wh n i (d + 1 + 1) = if bg n (i + (d + 1)) = true then (if (wh n i (d + 1)).2 = true then (wh n i (d + 1)).1 + 1 else (wh n i (d + 1)).1, true) else wh n i (d + 1) := rfl
    rw [e]
    by_cases hb : bg n (i + (d + 1)) = true
    · rw [if_pos hb]
      by_cases hs : (wh n i (d + 1)).2 = true
      · show (if (wh n i (d + 1)).2 = true then (wh n i (d + 1)).1 + 1 else (wh n i (d + 1)).1) ≤ d + 1
        rw [if_pos hs]; omega
      · show (if (wh n i (d + 1)).2 = true then (wh n i (d + 1)).1 + 1 else (wh n i (d + 1)).1) ≤ d + 1
        rw [if_neg hs]; omega
    · rw [if_neg hb]; omega
theorem b2_t {b : Bool} (h : b = true) : b2 b = 1 := by unfold b2; rw [if_pos h]
theorem b2_f {b : Bool} (h : ¬ b = true) : b2 b = 0 := by unfold b2; rw [if_neg h]
theorem begins_ok (n : Nat → Int32) {l : Nat} (hl : l ≤ 12) : m_X12_begins n (nI l) = some (b2 (bg n l)) := by
  unfold m_X12_begins
  by_cases h0 : l = 0
  · subst h0; rfl
  · rw [if_neg (nI_ne0 (by omega) (by omega))]
    by_cases h12 : l = 12
    · subst h12; rfl
    · rw [if_neg (show ¬ nI l = (12 : Int32) from fun q => h12 ((nI_eq (b := 12) (by omega) (by omega)).mp q)), q_at (by omega) (by omega)]
      obtain ⟨m, rfl⟩ : ∃ m, l = m + 1 := ⟨l - 1, by omega⟩
      rw [nI_pred, q_at (by omega) (by omega)]
      by_cases he : n (m + 1) = n m
      · rw [if_pos he, bg_eq h12 he]; rfl
      · rw [if_neg he, bg_ne he]; rfl
theorem wholeR_aux (n : Nat → Int32) {i s : Nat} (hs : i + s ≤ 12) : ∀ (k d fu : Nat) (x4 : Int32), d + k = s + 1 → k < fu → (x4 = -1 ↔ (wh n i d).2 = false) → m_X12_whole_L8 n fu (nI (i + s)) (nI (wh n i d).1) x4 (nI (i + d)) = some (nI (wh n i (s + 1)).1)
  | k, d, 0, x4, _, h0, _ => absurd h0 (Nat.not_lt_zero k)
  | 0, d, fu + 1, x4, e, _, _ => by
    rw [m_X12_whole_L8, if_pos (nI_lt (by omega) (by omega)), show d = s + 1 by omega]
  | k + 1, d, fu + 1, x4, e, hfu, hx => by
    have e1 : wh n i (d + 1) = if bg n (i + d) = true then (if (wh n i d).2 = true then (wh n i d).1 + 1 else (wh n i d).1, true) else wh n i d := rfl
    rw [m_X12_whole_L8, if_neg (nI_nlt (by omega) (by omega)), q_call (begins_ok n (by omega))]
    by_cases hb : bg n (i + d) = true
    · rw [if_pos hb] at e1
      rw [b2_t hb, if_neg one_ne0]
      unfold m_X12_whole_B35
      by_cases hz : x4 = -1
      · have hst := hx.mp hz
        rw [hst, if_neg (by decide)] at e1
        rw [if_pos hz, q_let, q_let, show nI (wh n i d).1 + (0 : Int32) = nI (wh n i d).1 from nI_add _ 0, nI_1]
        have := wholeR_aux n hs k (d + 1) fu (nI (i + d)) (by omega) (by omega) (by rw [e1]; exact ⟨fun q => absurd q (nI_nn (by omega) (by decide)), fun q => absurd (show true = false from q) (by decide)⟩)
        rw [show (wh n i (d + 1)).1 = (wh n i d).1 by rw [e1]] at this
        exact this
      · have hst : (wh n i d).2 = true := by
          cases hq : (wh n i d).2 with
          | true => rfl
          | false => exact absurd (hx.mpr hq) hz
        rw [hst, if_pos rfl] at e1
        rw [if_neg hz, q_let, q_let, nI_1, nI_1]
        have := wholeR_aux n hs k (d + 1) fu (nI (i + d)) (by omega) (by omega) (by rw [e1]; exact ⟨fun q => absurd q (nI_nn (by omega) (by decide)), fun q => absurd (show true = false from q) (by decide)⟩)
        rw [show (wh n i (d + 1)).1 = (wh n i d).1 + 1 by rw [e1]] at this
        exact this
    · rw [if_neg hb] at e1
      rw [b2_f hb, if_pos rfl, q_let, nI_1]
      have := wholeR_aux n hs k (d + 1) fu x4 (by omega) (by omega) (by rw [e1]; exact hx)
      rw [e1] at this
      exact this
theorem wholeR_ok (n : Nat → Int32) {i s : Nat} (hs : i + s ≤ 12) : m_X12_whole n (nI i) (nI (i + s)) = some (nI (wh n i (s + 1)).1) := by
  unfold m_X12_whole
  exact wholeR_aux n hs (s + 1) 0 mFU (-1) (by omega) (by unfold mFU; omega) ⟨fun _ => rfl, fun _ => rfl⟩
section WX
variable {F : Nat → Nat → Int32} {n : Nat → Int32}
theorem wholeX_82 (f : Nat → Int32) (k12 : Int32 → Int32 → Int32 → Int32 → Option (Int32)) (x2 : Int32) (c l : Nat) (b e : Bool) : m_X6_wholeWithin_B82 f k12 x2 (nI c) (b2 b) (nI l) (b2 e) = k12 x2 (nI (if b = true ∧ e = true then c + 1 else c)) (b2 b) (nI (l + 1)) := by
  unfold m_X6_wholeWithin_B82
  cases b with
  | false => rw [if_pos (by decide), q_let, nI_1, if_neg (by simp)]
  | true =>
    cases e with
    | false => rw [if_neg (by decide), if_pos (by decide), q_let, nI_1, if_neg (by simp)]
    | true => rw [if_neg (by decide), if_neg (by decide), q_let, q_let, nI_1, nI_1, if_pos (by simp)]
theorem wholeX_53 (hw : relW F n) (k12 : Int32 → Int32 → Int32 → Int32 → Option (Int32)) (x2 : Int32) (c l : Nat) (b : Bool) (hl : l < 12) : m_X6_wholeWithin_B53 (F 0) k12 x2 (nI c) (nI l) (b2 b) = k12 x2 (nI (if b = true ∧ bg n (l + 1) = true then c + 1 else c)) (b2 b) (nI (l + 1)) := by
  unfold m_X6_wholeWithin_B53 m_X6_wholeWithin_B77
  rw [nI_1]
  by_cases h : l + 1 = 12
  · rw [if_pos (show (12 : Int32) ≤ nI (l + 1) from nI_le (a := 12) (by omega) (by omega)), show bg n (l + 1) = true by unfold bg; simp [h]]
    exact wholeX_82 (F 0) k12 x2 c l b true
  · rw [if_neg (show ¬ (12 : Int32) ≤ nI (l + 1) from nI_ge (b := 12) (by omega) (by omega)), q_at (by omega) (by omega), q_at (by omega) (by omega), (hw l (by omega)).1, (hw (l + 1) (by omega)).1]
    by_cases he : n l = n (l + 1)
    · rw [if_pos he, bg_eq h he.symm]
      exact wholeX_82 (F 0) k12 x2 c l b false
    · rw [if_neg he, bg_ne (fun q => he (Eq.symm q))]
      exact wholeX_82 (F 0) k12 x2 c l b true
theorem wholeX_aux (hw : relW F n) {i s : Nat} (hs : i + s ≤ 12) : ∀ (k d fu : Nat), d + k = s → k < fu → m_X6_wholeWithin_L12 (F 0) fu (nI (i + s)) (nI (wh n i (d + 1)).1) (b2 (wh n i d).2) (nI (i + d)) = some (nI (wh n i (s + 1)).1)
  | k, d, 0, _, h0 => absurd h0 (Nat.not_lt_zero k)
  | 0, d, fu + 1, e, _ => by
    rw [m_X6_wholeWithin_L12, if_pos (nI_le (by omega) (by omega)), show d = s by omega]
  | k + 1, d, fu + 1, e, hfu => by
    have e1 : wh n i (d + 1) = if bg n (i + d) = true then (if (wh n i d).2 = true then (wh n i d).1 + 1 else (wh n i d).1, true) else wh n i d := rfl
    have e2 : wh n i (d + 1 + 1) = if bg n (i + (d + 1)) = true then (if (wh n i (d + 1)).2 = true then (wh n i (d + 1)).1 + 1 else (wh n i (d + 1)).1, true) else wh n i (d + 1) := rfl
    have cnt : (if (wh n i (d + 1)).2 = true ∧ bg n (i + d + 1) = true then (wh n i (d + 1)).1 + 1 else (wh n i (d + 1)).1) = (wh n i (d + 1 + 1)).1 := by
      rw [e2, show i + (d + 1) = i + d + 1 by omega]
      by_cases hb : bg n (i + d + 1) = true
      · rw [if_pos hb]
        by_cases hq : (wh n i (d + 1)).2 = true
        · rw [if_pos ⟨hq, hb⟩]
          show _ = if (wh n i (d + 1)).2 = true then (wh n i (d + 1)).1 + 1 else (wh n i (d + 1)).1
          rw [if_pos hq]
        · rw [if_neg (fun z => hq z.1)]
          show _ = if (wh n i (d + 1)).2 = true then (wh n i (d + 1)).1 + 1 else (wh n i (d + 1)).1
          rw [if_neg hq]
      · rw [if_neg hb, if_neg (fun z => hb z.2)]
    have step : m_X6_wholeWithin_B53 (F 0) (m_X6_wholeWithin_L12 (F 0) fu) (nI (i + s)) (nI (wh n i (d + 1)).1) (nI (i + d)) (b2 (wh n i (d + 1)).2) = some (nI (wh n i (s + 1)).1) := by
      rw [wholeX_53 hw _ _ _ _ _ (by omega), cnt]
      exact wholeX_aux hw hs k (d + 1) fu (by omega) (by omega)
    rw [m_X6_wholeWithin_L12, if_neg (nI_ge (by omega) (by omega)), if_neg (show ¬ (12 : Int32) ≤ nI (i + d) from nI_ge (b := 12) (by omega) (by omega))]
    unfold m_X6_wholeWithin_B48
    by_cases hst : (wh n i d).2 = true
    · rw [b2_t hst, if_neg one_ne0]
      have e3 : (wh n i (d + 1)).2 = true := by
        rw [e1]
        by_cases hb : bg n (i + d) = true
        · rw [if_pos hb]
        · rw [if_neg hb]; exact hst
      rw [b2_t e3] at step
      exact step
    · rw [b2_f hst, if_pos rfl]
      have bgc : ∀ b : Bool, bg n (i + d) = b → (wh n i (d + 1)).2 = b := by
        intro b hb
        rw [e1, hb]
        cases b with
        | true => rw [if_pos rfl]
        | false =>
          rw [if_neg (by decide)]
          cases hq : (wh n i d).2 with
          | false => rfl
          | true => exact absurd hq hst
      by_cases h0 : i + d = 0
      · rw [if_pos (show nI (i + d) = 0 by rw [h0]; rfl)]
        rw [b2_t (bgc true (by unfold bg; simp [h0]))] at step
        exact step
      · rw [if_neg (nI_ne0 (by omega) (by omega)), q_at (by omega) (by omega), (hw (i + d) (by omega)).1]
        obtain ⟨m, em⟩ : ∃ m, i + d = m + 1 := ⟨i + d - 1, by omega⟩
        rw [em] at step bgc ⊢
        rw [nI_pred, q_at (by omega) (by omega), (hw m (by omega)).1]
        by_cases he : n (m + 1) = n m
        · rw [if_pos he]
          rw [b2_f (show ¬ (wh n i (d + 1)).2 = true by rw [bgc false (bg_eq (by omega) he)]; decide)] at step
          exact step
        · rw [if_neg he]
          rw [b2_t (bgc true (bg_ne he))] at step
          exact step
theorem wholeX_ok (hw : relW F n) {i s : Nat} (hs : i + s ≤ 12) : m_X6_wholeWithin (F 0) (nI i) (nI (i + s)) = some (nI (wh n i (s + 1)).1) := by
  unfold m_X6_wholeWithin
  rw [if_neg (show ¬ nI i < (0 : Int32) from nI_pos (by omega)), q_let]
  have := wholeX_aux hw hs s 0 mFU (by omega) (by unfold mFU; omega)
  rw [wh_1] at this
  exact this
end WX
