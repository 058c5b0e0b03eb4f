-- what lumps cost and are worth
section WG
variable {F : Nat → Nat → Int32} {V n : Nat → Int32}
theorem has1 {i : Nat} (h : relL F V n) (hi : i < nv (n 50)) : m_X4_hasLump (V 1) (nI i) = some 1 := by
  have h9 := h.2.1.1
  unfold m_X4_hasLump
  rw [h.1, h.2.1.2, if_neg (nI_pos (by omega)), if_neg (nI_ge hi (by omega))]
theorem has0 {i : Nat} (h : relL F V n) (hi : nv (n 50) ≤ i) (hi2 : i < 1000) : m_X4_hasLump (V 1) (nI i) = some 0 := by
  have h9 := h.2.1.1
  unfold m_X4_hasLump
  rw [h.1, h.2.1.2, if_neg (nI_pos (by omega)), if_pos (nI_le hi (by omega))]
theorem isL1 {i : Nat} (h : relL F V n) (hi : i < nv (n 50)) : m_X12_isLump n (nI i) = some 1 := by
  rcases hasLump_c h (nI i) with ⟨e1, e2⟩ | ⟨e1, e2, _⟩
  · rw [has1 h hi] at e1; exact absurd (Option.some.inj e1) one_ne0
  · exact e2
theorem isL0 {i : Nat} (h : relL F V n) (hi : nv (n 50) ≤ i) (hi2 : i < 1000) : m_X12_isLump n (nI i) = some 0 := by
  rcases hasLump_c h (nI i) with ⟨e1, e2⟩ | ⟨e1, e2, _⟩
  · exact e2
  · rw [has0 h hi hi2] at e1; exact absurd (Option.some.inj e1).symm one_ne0
def csN (n : Nat → Int32) (l : Nat) : Int32 := if l < nv (n 50) then nI (2 * sN n l) else 0
def woN (n : Nat → Int32) (l : Nat) : Int32 := if l < nv (n 50) then ws n l (bn n l) else 0
theorem weigh_aux (hw : relW F n) (hp : relPr F n) (h : relL F V n) : ∀ (k i fu : Nat) (fc fs fw : Nat → Int32), i + k = 8 → k < fu → (∀ l, l < i → fc l = csN n l ∧ fw l = woN n l) → ∃ fc' fs' fw', m_X6_weigh_L2 (V 1) (F 3) (F 0) (F 1) fu fc fs fw (nI i) = some (fc', fs', fw') ∧ ∀ l, l < 8 → fc' l = csN n l ∧ fw' l = woN n l
  | k, i, 0, fc, fs, fw, _, h0, _ => absurd h0 (Nat.not_lt_zero k)
  | 0, i, fu + 1, fc, fs, fw, e, _, hl => by
    refine ⟨fc, fs, fw, ?_, by rw [show 8 = i by omega]; exact hl⟩
    rw [m_X6_weigh_L2, if_pos (show (8 : Int32) ≤ nI i from nI_le (a := 8) (by omega) (by omega))]
  | k + 1, i, fu + 1, fc, fs, fw, e, hfu, hl => by
    rw [m_X6_weigh_L2, if_neg (show ¬ (8 : Int32) ≤ nI i from nI_ge (b := 8) (by omega) (by omega))]
    by_cases hi : i < nv (n 50)
    · obtain ⟨f1, f2, f3, g1, g2, g3, k1, k2, k3, k4, k5, k6⟩ := lump_get h hi
      obtain ⟨f', w1⟩ := worthX_ok hw hp h hi fs
      rw [q_call (has1 h hi), if_neg one_ne0, q_call (show m_X9_at (V 1) (F 3) (nI i) (2 : Int32) = some (nI (sN n i)) from (atL (c := 2) h hi (by omega)).trans (congrArg some f3))]
      unfold m_X6_weigh_B38
      rw [q_wr (by omega) (by omega), if_neg one_ne0, q_call w1, q_wr (by omega) (by omega), q_let, nI_1, show (2 : Int32) * nI (sN n i) = nI (2 * sN n i) from pk_mul 2 _]
      refine weigh_aux hw hp h k (i + 1) fu _ _ _ (by omega) (by omega) (fun l hl2 => ?_)
      by_cases hli : l = i
      · subst hli
        rw [upd_eq, upd_eq]
        unfold csN woN
        rw [if_pos hi, if_pos hi]
        exact ⟨rfl, rfl⟩
      · rw [upd_ne hli, upd_ne hli]
        exact hl l (by omega)
    · rw [q_call (has0 h (by omega) (by omega)), if_pos rfl]
      unfold m_X6_weigh_B38
      rw [q_wr (by omega) (by omega), if_pos rfl, q_wr (by omega) (by omega), q_let, nI_1]
      refine weigh_aux hw hp h k (i + 1) fu _ _ _ (by omega) (by omega) (fun l hl2 => ?_)
      by_cases hli : l = i
      · subst hli
        rw [upd_eq, upd_eq]
        unfold csN woN
        rw [if_neg hi, if_neg hi]
        exact ⟨rfl, rfl⟩
      · rw [upd_ne hli, upd_ne hli]
        exact hl l (by omega)
theorem weigh_ok (hw : relW F n) (hp : relPr F n) (h : relL F V n) (fc fs fw : Nat → Int32) : ∃ fc' fs' fw', m_X6_weigh (V 1) (F 3) fc fs (F 0) (F 1) fw = some (fc', fs', fw') ∧ ∀ l, l < 8 → fc' l = csN n l ∧ fw' l = woN n l := by
  unfold m_X6_weigh
  exact weigh_aux hw hp h 8 0 mFU fc fs fw (by omega) (by unfold mFU; omega) (fun l hl => absurd hl (Nat.not_lt_zero l))
theorem worthOf_c (hw : relW F n) (h : relL F V n) {fw : Nat → Int32} (hf : ∀ l, l < 8 → fw l = woN n l) (x : Int32) : (m_X12_isLump n x = some 0 ∧ m_X6_worthOf fw x = some 0) ∨ (m_X12_isLump n x = some 1 ∧ ∃ y, m_X6_worthOf fw x = some y ∧ m_X12_worth n x = some y) := by
  rcases hasLump_c h x with ⟨e1, e2⟩ | ⟨e1, e2, i, hi, rfl⟩
  · refine Or.inl ⟨e2, ?_⟩
    unfold m_X6_worthOf
    rcases pk_ix x (n := 8) (by omega) with hx | hx | ⟨i, hi, rfl⟩
    · rw [if_pos hx]
    · by_cases hx0 : x < 0
      · rw [if_pos hx0]
      · rw [if_neg hx0, if_pos (show (8 : Int32) ≤ x from hx)]
    · rw [if_neg (nI_pos (by omega)), if_neg (show ¬ (8 : Int32) ≤ nI i from nI_ge (b := 8) hi (by omega)), q_at hi (by omega), hf i hi]
      unfold woN
      rw [if_neg (fun q => by rw [has1 h q] at e1; exact one_ne0 (Option.some.inj e1))]
  · have i8 := (lump_get h hi).2.2.2.2.2.2.2.2.2.2.2
    refine Or.inr ⟨e2, ws n i (bn n i), ?_, worthR_ok hw h hi⟩
    unfold m_X6_worthOf
    rw [if_neg (nI_pos (by omega)), if_neg (show ¬ (8 : Int32) ≤ nI i from nI_ge (b := 8) i8 (by omega)), q_at i8 (by omega), hf i i8]
    unfold woN
    rw [if_pos hi]
theorem drawn_aux (hw : relW F n) (h : relL F V n) {fc fs fw : Nat → Int32} (hf : ∀ l, l < 8 → fw l = woN n l) (b m c : Int32) (r : Nat → Int32) {N : Nat} (hN : N < 100) : ∀ (k i fu fu2 : Nat) (x : Int64) (y : Int32), i + k = N → k < fu → k < fu2 → ∃ z, m_X11_drawn_L47 (V 1) (F 3) (F 0) (F 1) fu b m c fc fs fw (nI N) x y (nI i) = some (z, b, m, c, fc, fs, fw) ∧ m_X12_drawn_L34 n fu2 r (nI N) x y (nI i) = some (z, r)
  | k, i, 0, _, x, y, _, h0, _ => absurd h0 (Nat.not_lt_zero k)
  | k, i, _ + 1, 0, x, y, _, _, h0 => absurd h0 (Nat.not_lt_zero k)
  | 0, i, fu + 1, fu2 + 1, x, y, e, _, _ => by
    refine ⟨y, ?_, ?_⟩
    · rw [m_X11_drawn_L47, if_pos (nI_le (by omega) (by omega))]
    · rw [m_X12_drawn_L34, if_pos (nI_le (by omega) (by omega))]
  | k + 1, i, fu + 1, fu2 + 1, x, y, e, hfu, hfu2 => by
    rw [m_X11_drawn_L47, m_X12_drawn_L34, if_neg (nI_ge (by omega) (by omega)), if_neg (nI_ge (by omega) (by omega)), q_let, q_let, q_let]
    rcases worthOf_c hw h hf (((x * 1103515245 + 12345 - (x * 1103515245 + 12345) / 2147483648 * 2147483648) / 65536 - (x * 1103515245 + 12345 - (x * 1103515245 + 12345) / 2147483648 * 2147483648) / 65536 / 8 * 8).toInt32) with ⟨w1, w2⟩ | ⟨w1, z, w2, w3⟩
    · rw [q_call w1, q_call w2, if_pos rfl, q_let, q_let, q_let, q_let, nI_1]
      exact drawn_aux hw h hf b m c r hN k (i + 1) fu fu2 _ _ (by omega) (by omega) (by omega)
    · rw [q_call w1, q_call w2, if_neg one_ne0, q_call w3, q_let, q_let, q_let, q_let, nI_1]
      exact drawn_aux hw h hf b m c r hN k (i + 1) fu fu2 _ _ (by omega) (by omega) (by omega)
end WG
theorem relLim_c {V V' : Nat → Int32} (h : relLim V) (hV : ∀ j, j < 10 → V' j = V j) : relLim V' := by
  unfold relLim
  rw [hV 0 (by omega), hV 2 (by omega), hV 4 (by omega), hV 6 (by omega), hV 8 (by omega)]
  exact h
/-- rows that only the class looks at: shown, costs, worths -/
theorem rel_wk {FI : Nat → Nat → Int32} {FL : Nat → Nat → Int64} {VI : Nat → Int32} {VL : Nat → Int64} (h : Rel FI FL VI VL) {FI' : Nat → Nat → Int32} {FL' : Nat → Nat → Int64} {VI' : Nat → Int32} {VL' : Nat → Int64} (hF : ∀ j, j ≠ 2 → ¬ (33 ≤ j ∧ j < 47) → ¬ (52 ≤ j ∧ j < 60) → j ≠ 50 → FI' j = FI j) (hV : ∀ j, ¬ (57 ≤ j ∧ j < 62) → ¬ 66 ≤ j → VI' j = VI j) (hW : ∀ j, j ≠ 4 → VL' j = VL j) : Rel FI' FL' VI' VL' := by
  obtain ⟨h1, h2, h3, h4, h5, h6, h7⟩ := h
  refine ⟨relP_cc h1 (fun j hj hj2 => hF j hj2 (by omega) (by omega) (by omega)) (fun j hj => hV j (by omega) (by omega)) (fun k _ => by rw [hF 49 (by omega) (by omega) (by omega) (by omega)]), ?_, ?_, ?_, ?_, ?_, ?_⟩
  · exact ⟨relLim_c h2.1 (fun j hj => hV (14 + j) (by omega) (by omega)), relLim_c h2.2.1 (fun j hj => hV (28 + j) (by omega) (by omega)), relLim_c h2.2.2 (fun j hj => hV (42 + j) (by omega) (by omega))⟩
  · obtain ⟨⟨a1, a2, a3⟩, ⟨b1, b2, b3⟩⟩ := h3
    have e47 := hF 47 (by omega) (by omega) (by omega) (by omega)
    have e60 := hF 60 (by omega) (by omega) (by omega) (by omega)
    have e61 := hF 61 (by omega) (by omega) (by omega) (by omega)
    unfold relI
    rw [e47, e60, e61]
    refine ⟨⟨a1, a2, fun q => relP_cc (a3 q) (fun j hj _ => hF (16 + j) (by omega) (by omega) (by omega) (by omega)) (fun j hj => hV (28 + j) (by omega) (by omega)) (fun _ _ => rfl)⟩, ⟨b1, b2, fun q => relP_cc (b3 q) (fun j hj _ => hF (24 + j) (by omega) (by omega) (by omega) (by omega)) (fun j hj => hV (42 + j) (by omega) (by omega)) (fun _ _ => rfl)⟩⟩
  · unfold relT
    rw [hV 56 (by omega) (by omega), hV 65 (by omega) (by omega), hF 32 (by omega) (by omega) (by omega) (by omega), hF 51 (by omega) (by omega) (by omega) (by omega)]
    exact h4
  · unfold relR
    rw [hF 48 (by omega) (by omega) (by omega) (by omega), hV 62 (by omega) (by omega), hV 63 (by omega) (by omega), hV 64 (by omega) (by omega)]
    exact h5
  · rw [hW 0 (by omega), hW 2 (by omega)]; exact h6
  · rw [hW 1 (by omega), hW 3 (by omega)]; exact h7
theorem up_or {α : Type} {f g : Nat → α} {k j : Nat} {x : α} (h1 : x = g k) (h2 : j ≠ k → f j = g j) : va_up f k x j = g j := by
  unfold va_up
  by_cases e : j = k
  · rw [if_pos e, h1, e]
  · rw [if_neg e]; exact h2 e
theorem o_drawn : opSpec_drawn Rel := by
  intro FI FL VI VL a1 a2 h
  have h1 := h.1
  have hw := h1.2.1
  have hp := h1.2.2.1
  have hL := h1.2.2.2.1
  have badX : m_X11_drawn_B20 (VI 1) (FI 3) (FI 0) (FI 1) (VI 62) (VI 63) (VI 64) (FI 39) (FI 2) (FI 40) = some (-2, VI 62 + 1, VI 63, VI 64, FI 39, FI 2, FI 40) := by unfold m_X11_drawn_B20; rw [q_call (counted_bad _ _ _)]
  have badM : m_X12_drawn_B20 (FI 49) (FI 48) = some (-2, upd (FI 48) 0 (FI 48 0 + 1)) := by unfold m_X12_drawn_B20; rw [q_call (bad_ok _)]
  have bad : m_X11_drawn (VI 62) (VI 63) (VI 64) (VI 1) (FI 3) (FI 39) (FI 2) (FI 0) (FI 1) (FI 40) a1 a2 = some (-2, VI 62 + 1, VI 63, VI 64, FI 39, FI 2, FI 40) → m_X12_drawn (FI 48) (FI 49) a1 a2 = some (-2, upd (FI 48) 0 (FI 48 0 + 1)) → ∃ (rx : Int32 × (Int32) × (Int32) × (Int32) × (Nat → Int32) × (Nat → Int32) × (Nat → Int32)) (rm : Int32 × (Nat → Int32)), m_X11_drawn (VI 62) (VI 63) (VI 64) (VI 1) (FI 3) (FI 39) (FI 2) (FI 0) (FI 1) (FI 40) a1 a2 = some rx ∧ m_X12_drawn (FI 48) (FI 49) a1 a2 = some rm ∧ rx.1 = rm.1 ∧ Rel (va_up (va_up (va_up (va_up FI 2 rx.2.2.2.2.2.1) 39 rx.2.2.2.2.1) 40 rx.2.2.2.2.2.2) 48 rm.2) FL (va_up (va_up (va_up VI 62 rx.2.1) 63 rx.2.2.1) 64 rx.2.2.2.1) VL := fun q1 q2 => ⟨_, _, q1, q2, rfl, by
      have := rel_bad h
      simp only [up_id]
      exact this⟩
  rcases qIn_c a1 0 999999 (by omega) (by omega) with e | ⟨e, s, _, hs, rfl⟩
  · have e' : qIn a1 0 999999 = 0 := e
    refine bad ?_ ?_
    · unfold m_X11_drawn; rw [q_call (within_ok _ _ _), e', if_pos rfl, badX]
    · unfold m_X12_drawn; rw [q_call (in_ok _ _ _), e', if_pos rfl, badM]
  · have e' : qIn (nI s) 0 999999 = 1 := e
    rcases qIn_c a2 0 60 (by omega) (by omega) with e2 | ⟨e2, N, _, hN, rfl⟩
    · have e2' : qIn a2 0 60 = 0 := e2
      refine bad ?_ ?_
      · unfold m_X11_drawn; rw [q_call (within_ok _ _ _), e', if_neg one_ne0, q_call (within_ok _ _ _), e2', if_pos rfl, badX]
      · unfold m_X12_drawn; rw [q_call (in_ok _ _ _), e', if_neg one_ne0, q_call (in_ok _ _ _), e2', if_pos rfl, badM]
    · have e2' : qIn (nI N) 0 60 = 1 := e2
      obtain ⟨fc, fs, fw, w1, w2⟩ := weigh_ok hw hp hL (FI 39) (FI 2) (FI 40)
      obtain ⟨z, z1, z2⟩ := drawn_aux hw hL (fc := fc) (fs := fs) (fun l hl => (w2 l hl).2) (VI 62) (VI 63) (VI 64) (FI 48) (N := N) (by omega) N 0 mFU mFU (nI s).toInt64 0 (by omega) (by unfold mFU; omega) (by unfold mFU; omega)
      refine ⟨(z, VI 62, VI 63, VI 64, fc, fs, fw), (z, FI 48), ?_, ?_, rfl, ?_⟩
      · unfold m_X11_drawn
        rw [q_call (within_ok _ _ _), e', if_neg one_ne0, q_call (within_ok _ _ _), e2', if_neg one_ne0, q_call w1]
        exact z1
      · unfold m_X12_drawn
        rw [q_call (in_ok _ _ _), e', if_neg one_ne0, q_call (in_ok _ _ _), e2', if_neg one_ne0]
        exact z2
      · refine rel_wk h (fun j j2 j3 j4 j5 => ?_) (fun j j1 j2 => ?_) (fun j _ => rfl)
        · show va_up (va_up (va_up (va_up FI 2 fs) 39 fc) 40 fw) 48 (FI 48) j = FI j
          exact up_or rfl (fun _ => by rw [up_ne (by omega), up_ne (by omega), up_ne (by omega)])
        · show va_up (va_up (va_up VI 62 (VI 62)) 63 (VI 63)) 64 (VI 64) j = VI j
          rw [up_id, up_id, up_id]
