-- of
section OF
variable {F : Nat → Nat → Int32} {V n : Nat → Int32} {j : Nat}
theorem relP_sh {FI : Nat → Nat → Int32} {FL : Nat → Nat → Int64} {VI : Nat → Int32} {VL : Nat → Int64} (h : Rel FI FL VI VL) (f : Nat → Int32) : Rel (va_up FI 2 f) FL VI VL := by
  obtain ⟨h1, h2, h3, h4, h5, h6⟩ := h
  exact ⟨relP_cc h1 (fun j _ hj => up_ne hj) (fun _ _ => rfl) (fun _ _ => rfl), h2, h3, h4, h5, h6⟩
theorem bit_of (M : Nat) (hM : M < 256) (j : Nat) (hj : j < 8) : m_X4_isBurnt (nI M) (nI j) = some (if M.testBit j then 1 else 0) := by
  have key : ∀ M, M < 256 → ∀ j, j < 8 → m_X4_isBurnt (nI M) (nI j) = some (if M.testBit j then 1 else 0) := by decide +kernel
  exact key M hM j hj
/-- whether a lump is burnt -/
theorem burnt_c {Mu : Nat → Nat} (hL : relL F V n) (hB : relB n (Mu (nv (n 53)))) (hU : relU F V n Mu) (hj : j < nv (n 50)) : (n (18 + 4 * j + 3) = 0 ∧ m_X4_isBurnt (V 10) (nI j) = some 0 ∧ m_X12_isBurnt n (nI j) = some 0 ∧ (Mu (nv (n 53))).testBit j = false) ∨ (n (18 + 4 * j + 3) = 1 ∧ m_X4_isBurnt (V 10) (nI j) = some 1 ∧ m_X12_isBurnt n (nI j) = some 1 ∧ (Mu (nv (n 53))).testBit j = true) := by
  have k6 := (lump_get hL hj).2.2.2.2.2.2.2.2.2.2.2
  have hs : sm (n (18 + 4 * j + 3)) 2 := (hL.2.2 j hj).2.2.2
  have hb := hB.2 j k6
  have hm := bit_of _ hB.1 j k6
  rw [hU.2.2.1]
  have hR : m_X12_isBurnt n (nI j) = if n (18 + 4 * j + 3) = 1 then some 1 else some 0 := by
    unfold m_X12_isBurnt
    rw [q_call (show m_X12_lumpAt n (nI j) (3 : Int32) = some (n (18 + 4 * j + 3)) from lumpAt_ok (c := 3) k6 (by omega))]
  rw [hR]
  by_cases h1 : n (18 + 4 * j + 3) = 1
  · right
    have ht : (Mu (nv (n 53))).testBit j = true := hb.mpr ⟨hj, h1⟩
    rw [if_pos h1]
    exact ⟨h1, by rw [hm, ht]; rfl, rfl, ht⟩
  · left
    have ht : (Mu (nv (n 53))).testBit j = false := by
      cases hq : (Mu (nv (n 53))).testBit j with
      | false => rfl
      | true => exact absurd (hb.mp hq).2 h1
    rw [if_neg h1]
    refine ⟨?_, by rw [hm, ht]; rfl, rfl, ht⟩
    obtain ⟨z, hz, ez⟩ := sm_of hs
    have : z = 0 ∨ z = 1 := by omega
    rcases this with rfl | rfl
    · exact ez
    · exact absurd ez h1
end OF
theorem o_of : opSpec_of Rel := by
  intro FI FL VI VL a1 a2 h
  have h1 := h.1
  have hw := h1.2.1
  have hp := h1.2.2.1
  have hL := h1.2.2.2.1
  obtain ⟨Mu, hB, hU⟩ := h1.2.2.2.2.1
  rcases hasLump_c hL a1 with ⟨e1, e2⟩ | ⟨e1, e2, j, hj, rfl⟩
  · refine ⟨(-2, VI 62 + 1, VI 63, VI 64, FI 2), (-2, upd (FI 48) 0 (FI 48 0 + 1)), ?_, ?_, rfl, by have := rel_bad h; exact this⟩
    · unfold m_X11_of; rw [q_call e1, if_pos rfl, q_call (counted_bad _ _ _)]
    · unfold m_X12_of m_X12_of_B18; rw [q_call e2, if_pos rfl, q_call (bad_ok _)]
  · obtain ⟨f1, f2, f3, g1, g2, g3, k1, k2, k3, k4, k5, k6⟩ := lump_get hL hj
    rcases qIn_c a2 0 6 (by omega) (by omega) with e | ⟨e, k, _, hk, rfl⟩
    · have e' : qIn a2 0 6 = 0 := e
      refine ⟨(-2, VI 62 + 1, VI 63, VI 64, FI 2), (-2, upd (FI 48) 0 (FI 48 0 + 1)), ?_, ?_, rfl, by have := rel_bad h; exact this⟩
      · unfold m_X11_of
        rw [q_call e1, if_neg one_ne0, if_neg (fun q => by rw [q] at e'; exact absurd e' (by decide)), if_neg (fun q => by rw [q] at e'; exact absurd e' (by decide)), if_neg (fun q => by rw [q] at e'; exact absurd e' (by decide)), if_neg (fun q => by rw [q] at e'; exact absurd e' (by decide)), if_neg (fun q => by rw [q] at e'; exact absurd e' (by decide)), if_neg (fun q => by rw [q] at e'; exact absurd e' (by decide)), if_neg (fun q => by rw [q] at e'; exact absurd e' (by decide)), q_call (counted_bad _ _ _)]
      · unfold m_X12_of m_X12_of_B18; rw [q_call e2, if_neg one_ne0, q_call (in_ok _ _ _), e', if_pos rfl, q_call (bad_ok _)]
    · have e' : qIn (nI k) 0 6 = 1 := e
      have hc : k = 0 ∨ k = 1 ∨ k = 2 ∨ k = 3 ∨ k = 4 ∨ k = 5 ∨ k = 6 := by omega
      have ans : ∀ (x : Int32) (f : Nat → Int32), m_X11_of (VI 62) (VI 63) (VI 64) (VI 10) (VI 1) (FI 3) (FI 2) (FI 0) (FI 1) (nI j) (nI k) = some (x, VI 62, VI 63, VI 64, f) → m_X12_of (FI 49) (FI 48) (nI j) (nI k) = some (x, FI 48) → ∃ (rx : Int32 × (Int32) × (Int32) × (Int32) × (Nat → Int32)) (rm : Int32 × (Nat → Int32)), m_X11_of (VI 62) (VI 63) (VI 64) (VI 10) (VI 1) (FI 3) (FI 2) (FI 0) (FI 1) (nI j) (nI k) = some rx ∧ m_X12_of (FI 49) (FI 48) (nI j) (nI k) = some rm ∧ rx.1 = rm.1 ∧ Rel (va_up (va_up FI 2 rx.2.2.2.2) 48 rm.2) FL (va_up (va_up (va_up VI 62 rx.2.1) 63 rx.2.2.1) 64 rx.2.2.2.1) VL := by
        intro x f ex em
        refine ⟨_, _, ex, em, rfl, ?_⟩
        have hr := relP_sh h f
        have q1 : va_up (va_up FI 2 f) 48 (FI 48) = va_up FI 2 f := up_id (va_up FI 2 f) 48
        have q2 : va_up (va_up (va_up VI 62 (VI 62)) 63 (VI 63)) 64 (VI 64) = VI := by rw [up_id, up_id, up_id]
        show Rel (va_up (va_up FI 2 f) 48 (FI 48)) FL (va_up (va_up (va_up VI 62 (VI 62)) 63 (VI 63)) 64 (VI 64)) VL
        rw [q1, q2]
        exact hr
      have hm0 : ∀ c : Nat, c < 4 → nI k = nI c → m_X12_of (FI 49) (FI 48) (nI j) (nI k) = some (FI 49 (18 + 4 * j + c), FI 48) := by
        intro c hc ec
        rw [ec] at e' ⊢
        unfold m_X12_of
        rw [q_call e2, if_neg one_ne0, q_call (in_ok _ _ _), e', if_neg one_ne0, if_neg (show ¬ nI c = (4 : Int32) from fun q => by have := (nI_eq (a := c) (b := 4) (by omega) (by omega)).mp q; omega), if_neg (show ¬ nI c = (5 : Int32) from fun q => by have := (nI_eq (a := c) (b := 5) (by omega) (by omega)).mp q; omega), if_neg (show ¬ nI c = (6 : Int32) from fun q => by have := (nI_eq (a := c) (b := 6) (by omega) (by omega)).mp q; omega), q_call (lumpAt_ok k6 hc)]
      rcases hc with rfl | rfl | rfl | rfl | rfl | rfl | rfl
      · refine ans (nI (kN (FI 49) j)) (FI 2) ?_ ((hm0 0 (by omega) rfl).trans (by rw [show FI 49 (18 + 4 * j + 0) = nI (kN (FI 49) j) from g1]))
        unfold m_X11_of
        rw [q_call e1, if_neg one_ne0, if_pos (by decide), q_call (show m_X9_at (VI 1) (FI 3) (nI j) (0 : Int32) = some (nI (kN (FI 49) j)) from (atL (c := 0) hL hj (by omega)).trans (congrArg some f1))]
      · refine ans (nI (aN (FI 49) j)) (FI 2) ?_ ((hm0 1 (by omega) rfl).trans (by rw [show FI 49 (18 + 4 * j + 1) = nI (aN (FI 49) j) from g2]))
        unfold m_X11_of
        rw [q_call e1, if_neg one_ne0, if_neg (by decide), if_pos (by decide), q_call (show m_X9_at (VI 1) (FI 3) (nI j) (1 : Int32) = some (nI (aN (FI 49) j)) from (atL (c := 1) hL hj (by omega)).trans (congrArg some f2))]
      · refine ans (nI (sN (FI 49) j)) (FI 2) ?_ ((hm0 2 (by omega) rfl).trans (by rw [show FI 49 (18 + 4 * j + 2) = nI (sN (FI 49) j) from g3]))
        unfold m_X11_of
        rw [q_call e1, if_neg one_ne0, if_neg (by decide), if_neg (by decide), if_pos (by decide), q_call (show m_X9_at (VI 1) (FI 3) (nI j) (2 : Int32) = some (nI (sN (FI 49) j)) from (atL (c := 2) hL hj (by omega)).trans (congrArg some f3))]
      · rcases burnt_c hL hB hU hj with ⟨b1, b2, b3, _⟩ | ⟨b1, b2, b3, _⟩
        · refine ans 0 (FI 2) ?_ ((hm0 3 (by omega) rfl).trans (by rw [b1]))
          unfold m_X11_of
          rw [q_call e1, if_neg one_ne0, if_neg (by decide), if_neg (by decide), if_neg (by decide), if_pos (by decide), q_call b2, if_pos rfl]
        · refine ans 1 (FI 2) ?_ ((hm0 3 (by omega) rfl).trans (by rw [b1]))
          unfold m_X11_of
          rw [q_call e1, if_neg one_ne0, if_neg (by decide), if_neg (by decide), if_neg (by decide), if_pos (by decide), q_call b2, if_neg one_ne0]
      · refine ans (nI (bn (FI 49) j)) (FI 2) ?_ ?_
        · unfold m_X11_of
          rw [q_call e1, if_neg one_ne0, if_neg (by decide), if_neg (by decide), if_neg (by decide), if_neg (by decide), if_pos (by decide), q_call (steps_ok hL hj)]
        · unfold m_X12_of
          rw [q_call e2, if_neg one_ne0, q_call (in_ok _ _ _), e', if_neg one_ne0, if_pos (by decide), q_call (burns_ok hL hj)]
      · obtain ⟨f', w1, w2⟩ := write_ok hw hL hj (FI 2)
        refine ans (nI (cn (FI 49) j (bn (FI 49) j))) f' ?_ ?_
        · unfold m_X11_of
          rw [q_call e1, if_neg one_ne0, if_neg (by decide), if_neg (by decide), if_neg (by decide), if_neg (by decide), if_neg (by decide), if_pos (by decide), q_call w1]
        · unfold m_X12_of
          rw [q_call e2, if_neg one_ne0, q_call (in_ok _ _ _), e', if_neg one_ne0, if_neg (by decide), if_pos (by decide), q_call (many_ok hw hL hj)]
      · obtain ⟨f', w1⟩ := worthX_ok hw hp hL hj (FI 2)
        refine ans (ws (FI 49) j (bn (FI 49) j)) f' ?_ ?_
        · unfold m_X11_of
          rw [q_call e1, if_neg one_ne0, if_neg (by decide), if_neg (by decide), if_neg (by decide), if_neg (by decide), if_neg (by decide), if_neg (by decide), if_pos (by decide), q_call w1]
        · unfold m_X12_of
          rw [q_call e2, if_neg one_ne0, q_call (in_ok _ _ _), e', if_neg one_ne0, if_neg (by decide), if_neg (by decide), if_pos (by decide), q_call (worthR_ok hw hL hj)]
-- shows
theorem rel_same {FI : Nat → Nat → Int32} {FL : Nat → Nat → Int64} {VI : Nat → Int32} {VL : Nat → Int64} (h : Rel FI FL VI VL) : Rel (va_up FI 48 (FI 48)) FL (va_up (va_up (va_up VI 62 (VI 62)) 63 (VI 63)) 64 (VI 64)) VL := by
  rw [up_id, up_id, up_id, up_id]
  exact h
theorem o_shows : opSpec_shows Rel := by
  intro FI FL VI VL a1 a2 h
  have h1 := h.1
  have hw := h1.2.1
  have hL := h1.2.2.2.1
  have badX : ∀ (c : Nat → Int32) (s : Int32), m_X11_shows_B21 s c (VI 62) (VI 63) (VI 64) = some (-2, VI 62 + 1, VI 63, VI 64) := fun c s => by unfold m_X11_shows_B21; rw [q_call (counted_bad _ _ _)]
  have badM : m_X12_shows_B18 (FI 49) (FI 48) = some (-2, upd (FI 48) 0 (FI 48 0 + 1)) := by unfold m_X12_shows_B18; rw [q_call (bad_ok _)]
  rcases hasLump_c hL a1 with ⟨e1, e2⟩ | ⟨e1, e2, j, hj, rfl⟩
  · refine ⟨(-2, VI 62 + 1, VI 63, VI 64), (-2, upd (FI 48) 0 (FI 48 0 + 1)), ?_, ?_, rfl, rel_bad h⟩
    · unfold m_X11_shows; rw [q_call e1, if_pos rfl, badX]
    · unfold m_X12_shows; rw [q_call e2, if_pos rfl, badM]
  · obtain ⟨f1, f2, f3, g1, g2, g3, k1, k2, k3, k4, k5, k6⟩ := lump_get hL hj
    rcases qIn_c a2 0 20 (by omega) (by omega) with e | ⟨e, t, _, ht, rfl⟩
    · have e' : qIn a2 0 20 = 0 := e
      refine ⟨(-2, VI 62 + 1, VI 63, VI 64), (-2, upd (FI 48) 0 (FI 48 0 + 1)), ?_, ?_, rfl, rel_bad h⟩
      · unfold m_X11_shows; rw [q_call e1, if_neg one_ne0, q_call (within_ok _ _ _), e', if_pos rfl, badX]
      · unfold m_X12_shows; rw [q_call e2, if_neg one_ne0, q_call (in_ok _ _ _), e', if_pos rfl, badM]
    · have e' : qIn (nI t) 0 20 = 1 := e
      refine ⟨(ly (FI 49) j t, VI 62, VI 63, VI 64), (ly (FI 49) j t, FI 48), ?_, ?_, rfl, rel_same h⟩
      · unfold m_X11_shows; rw [q_call e1, if_neg one_ne0, q_call (within_ok _ _ _), e', if_neg one_ne0, q_call (layer_ok hL hj (by omega))]
      · unfold m_X12_shows
        rw [q_call e2, if_neg one_ne0, q_call (in_ok _ _ _), e', if_neg one_ne0, q_call (show m_X12_lumpAt (FI 49) (nI j) (0 : Int32) = some (nI (kN (FI 49) j)) from (lumpAt_ok (c := 0) k6 (by omega)).trans (congrArg some g1)), q_call (show m_X12_lumpAt (FI 49) (nI j) (2 : Int32) = some (nI (sN (FI 49) j)) from (lumpAt_ok (c := 2) k6 (by omega)).trans (congrArg some g3)), q_call (tab_o _ k1 _ k3 t (by omega)).1]
        unfold ly
        rcases (tab_o _ k1 _ k3 t (by omega)).2.2 with h3 | ⟨h3, h4⟩
        · rw [if_pos h3, if_pos h3]
        · have hne : ¬ ow (kN (FI 49) j) (sN (FI 49) j) t = -1 := by rw [h3]; exact nI_nn (by omega) (by decide)
          rw [if_neg hne, if_neg hne, q_call (show m_X12_lumpAt (FI 49) (nI j) (1 : Int32) = some (nI (aN (FI 49) j)) from (lumpAt_ok (c := 1) k6 (by omega)).trans (congrArg some g2))]
          generalize nv (ow (kN (FI 49) j) (sN (FI 49) j) t) = o at h3 h4
          rw [h3, nI_add]
-- clash
section CL
variable {F : Nat → Nat → Int32} {V n : Nat → Int32} {i j d : Nat}
/-- from step t on: the first clash -/
def cl (n : Nat → Int32) (i j d : Nat) : Nat → Nat → Int32
  | 0, _ => -1
  | k + 1, t => if wt n i t = -1 then cl n i j d k (t + 1) else if wt n j (t - d) = -1 then cl n i j d k (t + 1) else if wt n i t = wt n j (t - d) then cl n i j d k (t + 1) else nI t
theorem clX_aux (hw : relW F n) (h : relL F V n) (hi : i < nv (n 50)) (hj : j < nv (n 50)) : ∀ (k t fu : Nat), t + k = bn n i → d ≤ t → k < fu → m_X4_firstClash_L10 (V 1) (F 3) (F 0) fu (nI i) (nI j) (nI d) (nI (bn n i)) (nI t) = some (cl n i j d k t)
  | k, t, 0, _, _, h => absurd h (Nat.not_lt_zero k)
  | 0, t, fu + 1, e, _, _ => by
    have hb := bn_lt h hi
    rw [m_X4_firstClash_L10, if_pos (nI_le (by omega) (by omega))]
    rfl
  | k + 1, t, fu + 1, e, hd, hfu => by
    have hb := bn_lt h hi
    rw [m_X4_firstClash_L10, if_neg (nI_ge (by omega) (by omega)), q_call (layer_ok h hi (by omega)), q_call (shown_ok hw h hi (by omega)), pk_sub hd, q_call (layer_ok h hj (by omega)), q_call (shown_ok hw h hj (by omega)), nI_1, q_let, clX_aux hw h hi hj k (t + 1) fu (by omega) (by omega) (by omega)]
    show _ = some (if wt n i t = -1 then cl n i j d k (t + 1) else if wt n j (t - d) = -1 then cl n i j d k (t + 1) else if wt n i t = wt n j (t - d) then cl n i j d k (t + 1) else nI t)
    by_cases z1 : wt n i t = -1
    · rw [if_pos z1, if_pos z1]
    · rw [if_neg z1, if_neg z1]
      by_cases z2 : wt n j (t - d) = -1
      · rw [if_pos z2, if_pos z2]
      · rw [if_neg z2, if_neg z2]
        by_cases z3 : wt n i t = wt n j (t - d)
        · rw [if_pos z3, if_pos z3]
        · rw [if_neg z3, if_neg z3]
theorem clR_aux (hw : relW F n) (h : relL F V n) (hi : i < nv (n 50)) (hj : j < nv (n 50)) : ∀ (k t fu : Nat), t + k = bn n i → d ≤ t → k < fu → m_X12_clashOf_L3 n fu (nI i) (nI j) (nI d) (nI t) = some (cl n i j d k t)
  | k, t, 0, _, _, h => absurd h (Nat.not_lt_zero k)
  | 0, t, fu + 1, e, _, _ => by
    have hb := bn_lt h hi
    rw [m_X12_clashOf_L3, q_call (burns_ok h hi), if_pos (nI_le (by omega) (by omega))]
    rfl
  | k + 1, t, fu + 1, e, hd, hfu => by
    have hb := bn_lt h hi
    rw [m_X12_clashOf_L3, q_call (burns_ok h hi), if_neg (nI_ge (by omega) (by omega)), q_call (weatherOf_ok h hi (by omega)), pk_sub hd, q_call (weatherOf_ok h hj (by omega)), nI_1, q_let, clR_aux hw h hi hj k (t + 1) fu (by omega) (by omega) (by omega)]
    show _ = some (if wt n i t = -1 then cl n i j d k (t + 1) else if wt n j (t - d) = -1 then cl n i j d k (t + 1) else if wt n i t = wt n j (t - d) then cl n i j d k (t + 1) else nI t)
    by_cases z1 : wt n i t = -1
    · rw [if_pos z1, if_pos z1]
    · rw [if_neg z1, if_neg z1]
      by_cases z2 : wt n j (t - d) = -1
      · rw [if_pos z2, if_pos z2]
      · rw [if_neg z2, if_neg z2]
        by_cases z3 : wt n i t = wt n j (t - d)
        · rw [if_pos z3, if_pos z3]
        · rw [if_neg z3, if_neg z3]
theorem clash_ok (hw : relW F n) (h : relL F V n) (hi : i < nv (n 50)) (hj : j < nv (n 50)) (hd : d < 21) : m_X4_firstClash (V 1) (F 3) (F 0) (nI i) (nI j) (nI d) = some (cl n i j d (bn n i - d) d) ∧ m_X12_clashOf n (nI i) (nI j) (nI d) = some (cl n i j d (bn n i - d) d) := by
  have hb := bn_lt h hi
  unfold m_X4_firstClash m_X12_clashOf
  rw [q_call (steps_ok h hi)]
  by_cases hdb : d ≤ bn n i
  · exact ⟨clX_aux hw h hi hj (bn n i - d) d mFU (by omega) (by omega) (by unfold mFU; omega), clR_aux hw h hi hj (bn n i - d) d mFU (by omega) (by omega) (by unfold mFU; omega)⟩
  · rw [show bn n i - d = 0 by omega]
    show m_X4_firstClash_L10 (V 1) (F 3) (F 0) (999 + 1) (nI i) (nI j) (nI d) (nI (bn n i)) (nI d) = _ ∧ m_X12_clashOf_L3 n (999 + 1) (nI i) (nI j) (nI d) (nI d) = _
    rw [m_X4_firstClash_L10, m_X12_clashOf_L3, q_call (burns_ok h hi), if_pos (nI_le (by omega) (by omega)), if_pos (nI_le (by omega) (by omega))]
    exact ⟨rfl, rfl⟩
end CL
theorem o_clash : opSpec_clash Rel := by
  intro FI FL VI VL a1 a2 a3 h
  have h1 := h.1
  have hw := h1.2.1
  have hL := h1.2.2.2.1
  have badX : ∀ (c w : Nat → Int32) (s : Int32), m_X11_clash_B37 s c w (VI 62) (VI 63) (VI 64) = some (-2, VI 62 + 1, VI 63, VI 64) := fun c w s => by unfold m_X11_clash_B37; rw [q_call (counted_bad _ _ _)]
  have badM : m_X12_clash_B31 (FI 49) (FI 48) = some (-2, upd (FI 48) 0 (FI 48 0 + 1)) := by unfold m_X12_clash_B31; rw [q_call (bad_ok _)]
  have bad : m_X11_clash (VI 62) (VI 63) (VI 64) (VI 1) (FI 3) (FI 0) a1 a2 a3 = some (-2, VI 62 + 1, VI 63, VI 64) → m_X12_clash (FI 49) (FI 48) a1 a2 a3 = some (-2, upd (FI 48) 0 (FI 48 0 + 1)) → ∃ (rx : Int32 × (Int32) × (Int32) × (Int32)) (rm : Int32 × (Nat → Int32)), m_X11_clash (VI 62) (VI 63) (VI 64) (VI 1) (FI 3) (FI 0) a1 a2 a3 = some rx ∧ m_X12_clash (FI 49) (FI 48) a1 a2 a3 = some rm ∧ rx.1 = rm.1 ∧ Rel (va_up FI 48 rm.2) FL (va_up (va_up (va_up VI 62 rx.2.1) 63 rx.2.2.1) 64 rx.2.2.2) VL :=
    fun q1 q2 => ⟨_, _, q1, q2, rfl, rel_bad h⟩
  rcases hasLump_c hL a1 with ⟨e1, e2⟩ | ⟨e1, e2, i, hi, rfl⟩
  · refine bad ?_ ?_
    · unfold m_X11_clash; rw [q_call e1, if_pos rfl, badX]
    · unfold m_X12_clash; rw [q_call e2, if_pos rfl, badM]
  · rcases hasLump_c hL a2 with ⟨f1, f2⟩ | ⟨f1, f2, j, hj, rfl⟩
    · refine bad ?_ ?_
      · unfold m_X11_clash; rw [q_call e1, if_neg one_ne0, q_call f1, if_pos rfl, badX]
      · unfold m_X12_clash; rw [q_call e2, if_neg one_ne0, q_call f2, if_pos rfl, badM]
    · by_cases hij : nI i = nI j
      · refine bad ?_ ?_
        · unfold m_X11_clash; rw [q_call e1, if_neg one_ne0, q_call f1, if_neg one_ne0, if_pos hij, badX]
        · unfold m_X12_clash; rw [q_call e2, if_neg one_ne0, q_call f2, if_neg one_ne0, if_pos hij, badM]
      · rcases qIn_c a3 0 20 (by omega) (by omega) with e | ⟨e, d, _, hd, rfl⟩
        · have e' : qIn a3 0 20 = 0 := e
          refine bad ?_ ?_
          · unfold m_X11_clash; rw [q_call e1, if_neg one_ne0, q_call f1, if_neg one_ne0, if_neg hij, q_call (within_ok _ _ _), e', if_pos rfl, badX]
          · unfold m_X12_clash; rw [q_call e2, if_neg one_ne0, q_call f2, if_neg one_ne0, if_neg hij, q_call (in_ok _ _ _), e', if_pos rfl, badM]
        · have e' : qIn (nI d) 0 20 = 1 := e
          obtain ⟨c1, c2⟩ := clash_ok (d := d) hw hL hi hj (by omega)
          refine ⟨(cl (FI 49) i j d (bn (FI 49) i - d) d, VI 62, VI 63, VI 64), (cl (FI 49) i j d (bn (FI 49) i - d) d, FI 48), ?_, ?_, rfl, rel_same h⟩
          · unfold m_X11_clash; rw [q_call e1, if_neg one_ne0, q_call f1, if_neg one_ne0, if_neg hij, q_call (within_ok _ _ _), e', if_neg one_ne0, q_call c1]
          · unfold m_X12_clash; rw [q_call e2, if_neg one_ne0, q_call f2, if_neg one_ne0, if_neg hij, q_call (in_ok _ _ _), e', if_neg one_ne0, q_call c2]
-- agree
section AG
variable {F : Nat → Nat → Int32} {V n : Nat → Int32} {i : Nat}
theorem agree_aux (hw : relW F n) (h : relL F V n) (hi : i < nv (n 50)) (b m c : Int32) (r : Nat → Int32) : ∀ (k o fu fu2 : Nat) (x : Int32), o + k = nv (n 50) → k < fu → k < fu2 → ∃ y, m_X11_agree_L22 (V 1) (F 3) (F 0) fu b m c (nI i) x (nI o) = some (y, b, m, c) ∧ m_X12_agree_L17 n fu2 r (nI i) x (nI o) = some (y, r)
  | k, o, 0, _, x, _, h, _ => absurd h (Nat.not_lt_zero k)
  | k, o, _ + 1, 0, x, _, _, h => absurd h (Nat.not_lt_zero k)
  | 0, o, fu + 1, fu2 + 1, x, e, _, _ => by
    obtain ⟨h1, h2, _⟩ := h
    have hb := h2.1
    refine ⟨x, ?_, ?_⟩
    · rw [m_X11_agree_L22, h1, h2.2, if_pos (nI_le (by omega) (by omega))]
    · rw [m_X12_agree_L17, show (50 : Int32) = nI 50 from rfl, q_at (by omega) (by omega), h2.2, if_pos (nI_le (by omega) (by omega))]
  | k + 1, o, fu + 1, fu2 + 1, x, e, hfu, hfu2 => by
    have h' := h
    obtain ⟨h1, h2, _⟩ := h'
    have hb := h2.1
    have g1 : ¬ V 1 ≤ nI o := by rw [h1, h2.2]; exact nI_ge (by omega) (by omega)
    have g2 : ¬ n 50 ≤ nI o := by rw [h2.2]; exact nI_ge (by omega) (by omega)
    rw [m_X11_agree_L22, m_X12_agree_L17, show (50 : Int32) = nI 50 from rfl, q_at (by omega) (by omega), if_neg g1, if_neg g2]
    by_cases hoi : nI o = nI i
    · rw [if_pos hoi, if_pos hoi, q_let, q_let, q_let, nI_1, Int32.or_zero]
      exact agree_aux hw h hi b m c r k (o + 1) fu fu2 x (by omega) (by omega) (by omega)
    · rw [if_neg hoi, if_neg hoi]
      obtain ⟨c1, c2⟩ := clash_ok (d := 0) hw h hi (j := o) (by omega) (by omega)
      rw [q_call (show m_X4_firstClash (V 1) (F 3) (F 0) (nI i) (nI o) (0 : Int32) = _ from c1), q_call (show m_X12_clashOf n (nI i) (nI o) (0 : Int32) = _ from c2)]
      by_cases hz : cl n i o 0 (bn n i - 0) 0 = -1
      · rw [if_pos hz, if_pos hz, q_let, q_let, q_let, q_let, nI_1]
        exact agree_aux hw h hi b m c r k (o + 1) fu fu2 _ (by omega) (by omega) (by omega)
      · rw [if_neg hz, if_neg hz, q_let, q_let, q_let, nI_1, Int32.or_zero]
        exact agree_aux hw h hi b m c r k (o + 1) fu fu2 x (by omega) (by omega) (by omega)
end AG
theorem o_agree : opSpec_agree Rel := by
  intro FI FL VI VL a1 h
  have h1 := h.1
  have hw := h1.2.1
  have hL := h1.2.2.2.1
  rcases hasLump_c hL a1 with ⟨e1, e2⟩ | ⟨e1, e2, i, hi, rfl⟩
  · refine ⟨(-2, VI 62 + 1, VI 63, VI 64), (-2, upd (FI 48) 0 (FI 48 0 + 1)), ?_, ?_, rfl, rel_bad h⟩
    · unfold m_X11_agree; rw [q_call e1, if_pos rfl, q_call (counted_bad _ _ _)]
    · unfold m_X12_agree; rw [q_call e2, if_pos rfl, q_call (bad_ok _)]
  · have hb := hL.2.1.1
    obtain ⟨y, y1, y2⟩ := agree_aux hw hL hi (VI 62) (VI 63) (VI 64) (FI 48) (nv (FI 49 50)) 0 mFU mFU 0 (by omega) (by unfold mFU; omega) (by unfold mFU; omega)
    refine ⟨(y, VI 62, VI 63, VI 64), (y, FI 48), ?_, ?_, rfl, rel_same h⟩
    · unfold m_X11_agree; rw [q_call e1, if_neg one_ne0]; exact y1
    · unfold m_X12_agree; rw [q_call e2, if_neg one_ne0]; exact y2
