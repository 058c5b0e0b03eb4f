/-! numbers: the walks' mirrors over small numbers -/
theorem q_at {α β : Type} {f : Nat → α} {n k : Nat} {K : α → Option β} (h : k < n) (hn : n < 2147483648) : mRd f n (nI k) K = K (f k) := by
  unfold mRd
  have e1 : (nI k).toNatClampNeg = k := nI_clamp (by omega)
  rw [if_neg (by rw [e1]; intro q; rcases q with q | q
                 · exact nI_pos (n := k) (by omega) q
                 · omega), e1]
theorem q_wr {β : Type} {f : Nat → Int32} {n k : Nat} {x : Int32} {K : (Nat → Int32) → Option β} (h : k < n) (hn : n < 2147483648) : mWr f n (nI k) x K = K (upd f k x) := by
  unfold mWr
  have e1 : (nI k).toNatClampNeg = k := nI_clamp (by omega)
  rw [if_neg (by rw [e1]; intro q; rcases q with q | q
                 · exact nI_pos (n := k) (by omega) q
                 · omega), e1]
theorem q_wrL {β : Type} {f : Nat → Int64} {n k : Nat} {x : Int64} {K : (Nat → Int64) → Option β} (h : k < n) (hn : n < 2147483648) : mWrL f n (nI k) x K = K (vp_updL f k x) := by
  unfold mWrL
  have e1 : (nI k).toNatClampNeg = k := nI_clamp (by omega)
  rw [if_neg (by rw [e1]; intro q; rcases q with q | q
                 · exact nI_pos (n := k) (by omega) q
                 · omega), e1]
theorem q_wrZ {β : Type} {f : Nat → Int32} {n k : Nat} {x : Int32} {K : (Nat → Int32) → Option β} (h : k < n) (hn : n < 2147483648) : mWrZ f n (nI k) x K = K (upd f k (vp_nar .boolean x)) := by
  unfold mWrZ
  have e1 : (nI k).toNatClampNeg = k := nI_clamp (by omega)
  rw [if_neg (by rw [e1]; intro q; rcases q with q | q
                 · exact nI_pos (n := k) (by omega) q
                 · omega), e1]
theorem q_wrB {β : Type} {f : Nat → Int32} {n k : Nat} {x : Int32} {K : (Nat → Int32) → Option β} (h : k < n) (hn : n < 2147483648) : mWrB f n (nI k) x K = K (upd f k (vp_nar .byte x)) := by
  unfold mWrB
  have e1 : (nI k).toNatClampNeg = k := nI_clamp (by omega)
  rw [if_neg (by rw [e1]; intro q; rcases q with q | q
                 · exact nI_pos (n := k) (by omega) q
                 · omega), e1]
theorem q_call {α β : Type} {o : Option α} {x : α} {K : α → Option β} (h : o = some x) : mCall o K = K x := by rw [h]; rfl
theorem q_let {α β : Type} (x : α) (K : α → Option β) : mLet x K = K x := rfl
theorem q_fill_succ (f : Nat → Int32) (x : Int32) (i : Nat) : upd (fun j => if j < i then x else f j) i x = fun j => if j < i + 1 then x else f j := by
  funext j
  unfold upd
  by_cases h : j = i
  · subst h; simp
  · rw [if_neg h]
    show (if j < i then _ else _) = _
    by_cases h2 : j < i
    · rw [if_pos h2, if_pos (by omega)]
    · rw [if_neg h2, if_neg (by omega)]
theorem fill_I_aux (n : Nat) (hn : n ≤ 900) (f : Nat → Int32) (x : Int32) : ∀ (k i fu : Nat), i + k = n → k < fu → m_J7_fill_53178_L5 n fu (fun j => if j < i then x else f j) x (nI i) (Int32.ofNat n) = some (fun j => if j < n then x else f j)
  | k, i, 0, _, h => absurd h (Nat.not_lt_zero k)
  | 0, i, fu + 1, h, _ => by
    rw [m_J7_fill_53178_L5, if_pos (show Int32.ofNat n ≤ nI i from nI_le (a := n) (b := i) (by omega) (by omega))]
    rw [show i = n by omega]
  | k + 1, i, fu + 1, h, h2 => by
    rw [m_J7_fill_53178_L5, if_neg (show ¬ Int32.ofNat n ≤ nI i from nI_ge (a := i) (b := n) (by omega) (by omega)), q_wr (by omega) (by omega), q_let, nI_1, q_fill_succ]
    exact fill_I_aux n hn f x k (i + 1) fu (by omega) (by omega)
theorem fill_I (n : Nat) (hn : n ≤ 900) (f : Nat → Int32) (x : Int32) : m_J7_fill_53178 n f x = some (fun j => if j < n then x else f j) := by
  unfold m_J7_fill_53178
  rw [q_let]
  have h := fill_I_aux n hn f x n 0 mFU (by omega) (by unfold mFU; omega)
  rw [show (fun j => if j < 0 then x else f j) = f by funext j; simp] at h
  exact h
/-- 'in' and 'within' -/
def qIn (v lo hi : Int32) : Int32 := if v < lo then 0 else if hi < v then 0 else 1
theorem in_ok (v lo hi : Int32) : m_X12_in v lo hi = some (qIn v lo hi) := by
  unfold m_X12_in qIn
  by_cases h : v < lo
  · rw [if_pos h, if_pos h]
  · rw [if_neg h, if_neg h]
    by_cases h2 : hi < v
    · rw [if_pos h2, if_pos h2]
    · rw [if_neg h2, if_neg h2]
theorem within_ok (v lo hi : Int32) : m_X11_within v lo hi = some (qIn v lo hi) := by
  unfold m_X11_within qIn
  by_cases h : v < lo
  · rw [if_pos h, if_pos h]
  · rw [if_neg h, if_neg h]
    by_cases h2 : hi < v
    · rw [if_pos h2, if_pos h2]
    · rw [if_neg h2, if_neg h2]
theorem qIn_yes {v lo hi : Int32} (h1 : lo ≤ v) (h2 : v ≤ hi) : qIn v lo hi = 1 := by
  unfold qIn
  rw [if_neg (Int32.not_lt.mpr h1), if_neg (Int32.not_lt.mpr h2)]
theorem qIn_lo {v lo hi : Int32} (h1 : v < lo) : qIn v lo hi = 0 := by unfold qIn; rw [if_pos h1]
theorem qIn_hi {v lo hi : Int32} (h1 : hi < v) : qIn v lo hi = 0 := by
  unfold qIn
  by_cases h : v < lo
  · rw [if_pos h]
  · rw [if_neg h, if_pos h1]
/-- the reference's row at first -/
def anewV (k : Nat) : Int32 := if 12 ≤ k ∧ k ≤ 17 then 1 else 0
def anewF (f : Nat → Int32) : Nat → Int32 := upd (fun j => if j < 126 then anewV j else f j) 90 1
theorem q_any_succ (f g : Nat → Int32) (i : Nat) : upd (fun j => if j < i then g j else f j) i (g i) = fun j => if j < i + 1 then g j else f j := by
  funext j
  unfold upd
  by_cases h : j = i
  · subst h; simp
  · rw [if_neg h]
    show (if j < i then _ else _) = _
    by_cases h2 : j < i
    · rw [if_pos h2, if_pos (by omega)]
    · rw [if_neg h2, if_neg (by omega)]
theorem anew_aux (f : Nat → Int32) : ∀ (k i fu : Nat), i + k = 126 → k < fu → m_X12_anew_L2 fu (fun j => if j < i then anewV j else f j) (nI i) = some (anewF f)
  | k, i, 0, _, h => absurd h (Nat.not_lt_zero k)
  | 0, i, fu + 1, h, _ => by
    rw [m_X12_anew_L2, if_pos (show (126 : Int32) ≤ nI i from nI_le (a := 126) (b := i) (by omega) (by omega)), show (90 : Int32) = nI 90 from rfl, q_wr (by omega) (by omega)]
    rw [show i = 126 by omega]
    rfl
  | k + 1, i, fu + 1, h, h2 => by
    rw [m_X12_anew_L2, if_neg (show ¬ (126 : Int32) ≤ nI i from nI_ge (a := i) (b := 126) (by omega) (by omega)), q_call (in_ok _ _ _)]
    have step : m_X12_anew_L2 fu (upd (fun j => if j < i then anewV j else f j) i (anewV i)) (nI (i + 1)) = some (anewF f) := by
      rw [q_any_succ]
      exact anew_aux f k (i + 1) fu (by omega) (by omega)
    by_cases h3 : i < 12
    · rw [qIn_lo (show nI i < (12 : Int32) from nI_lt (a := i) (b := 12) h3 (by omega)), if_pos rfl, q_wr (by omega) (by omega), q_let, nI_1]
      rw [show anewV i = 0 by unfold anewV; rw [if_neg (by omega)]] at step
      exact step
    · by_cases h4 : 17 < i
      · rw [qIn_hi (show (17 : Int32) < nI i from nI_lt (a := 17) (b := i) h4 (by omega)), if_pos rfl, q_wr (by omega) (by omega), q_let, nI_1]
        rw [show anewV i = 0 by unfold anewV; rw [if_neg (by omega)]] at step
        exact step
      · rw [qIn_yes (show (12 : Int32) ≤ nI i from nI_le (a := 12) (b := i) (by omega) (by omega)) (show nI i ≤ (17 : Int32) from nI_le (a := i) (b := 17) (by omega) (by omega)), if_neg (by decide), q_wr (by omega) (by omega), q_let, nI_1]
        rw [show anewV i = 1 by unfold anewV; rw [if_pos (by omega)]] at step
        exact step
theorem anew_ok (f : Nat → Int32) : m_X12_anew f = some (anewF f) := by
  unfold m_X12_anew
  have h := anew_aux f 126 0 mFU (by omega) (by unfold mFU; omega)
  rw [show (fun j => if j < 0 then anewV j else f j) = f by funext j; simp] at h
  exact h
