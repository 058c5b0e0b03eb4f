-- image, from: a pit becomes another
theorem rel_eq {FI FI' : Nat → Nat → Int32} {FL FL' : Nat → Nat → Int64} {VI VI' : Nat → Int32} {VL VL' : Nat → Int64} (h : Rel FI FL VI VL) (hF : ∀ j, FI' j = FI j) (hV : ∀ j, VI' j = VI j) (hW : ∀ j, VL' j = VL j) : Rel FI' FL' VI' VL' := by
  rw [show FI' = FI from funext hF, show VI' = VI from funext hV, show VL' = VL from funext hW]
  exact h
theorem q_cpy {β : Type} {f g : Nat → Int32} {N n : Nat} {K : (Nat → Int32) → Option β} (h : n ≤ N) (hN : N < 2147483648) : mCpy f g N N (nI 0) (nI 0) (nI n) K = K (va_cpy f g 0 0 n) := by
  unfold mCpy
  rw [nI_clamp (n := 0) (by omega), nI_clamp (n := n) (by omega), if_neg (fun q => by
    rcases q with q | q | q | q | q
    · exact nI_pos (n := 0) (by omega) q
    · exact nI_pos (n := 0) (by omega) q
    · exact nI_pos (n := n) (by omega) q
    · omega
    · omega)]
theorem cpy12 {β : Type} (f g : Nat → Int32) (K : (Nat → Int32) → Option β) : mCpy f g 12 12 (0 : Int32) (0 : Int32) (12 : Int32) K = K (va_cpy f g 0 0 12) := q_cpy (N := 12) (n := 12) (by omega) (by omega)
theorem cpy6 {β : Type} (f g : Nat → Int32) (K : (Nat → Int32) → Option β) : mCpy f g 6 6 (0 : Int32) (0 : Int32) (6 : Int32) K = K (va_cpy f g 0 0 6) := q_cpy (N := 6) (n := 6) (by omega) (by omega)
theorem cpy30 {β : Type} (f g : Nat → Int32) (K : (Nat → Int32) → Option β) : mCpy f g 30 30 (0 : Int32) (0 : Int32) (30 : Int32) K = K (va_cpy f g 0 0 30) := q_cpy (N := 30) (n := 30) (by omega) (by omega)
theorem cpy_in0 {f g : Nat → Int32} {n k : Nat} (h : k < n) : va_cpy f g 0 0 n k = f k := by
  rw [pk_cpy_in (by omega) (by omega), Nat.zero_add, Nat.sub_zero]
theorem copyRows_ok {s lim : Nat} (hs : s ≤ lim) (hl : lim < 100) (x : Int32) (f g : Nat → Int32) : m_X9_copyRows (nI s) (nI lim) x f g = some (nI s, va_cpy g f 0 0 30) := by
  unfold m_X9_copyRows
  rw [cpy30, if_neg (nI_nlt hs (by omega)), q_let]
theorem become_ok {F : Nat → Nat → Int32} {V n : Nat → Int32} (h : relP F V n) (b m c z : Int32) (w p : Nat → Int32) {l0 l2 l4 l6 l8 : Int32} (s1 s3 s5 s7 s9 : Int32) (f3 f4 f5 f6 f7 : Nat → Int32) (e0 : l0 = 8) (e2 : l2 = 8) (e4 : l4 = 10) (e6 : l6 = 8) (e8 : l8 = 6) : m_X4_become (V 10) (V 11) (V 12) (V 13) b m c z (F 0) w (F 1) p l0 s1 (V 1) f3 (F 3) l2 s3 (V 3) f4 (F 4) l4 s5 (V 5) f5 (F 5) l6 s7 (V 7) f6 (F 6) l8 s9 (V 9) f7 (F 7) = some (V 10, V 11, V 12, V 13, va_cpy (F 0) w 0 0 12, va_cpy (F 1) p 0 0 6, V 1, va_cpy (F 3) f3 0 0 30, V 3, va_cpy (F 4) f4 0 0 30, V 5, va_cpy (F 5) f5 0 0 30, V 7, va_cpy (F 6) f6 0 0 30, V 9, va_cpy (F 7) f7 0 0 30) := by
  subst e0 e2 e4 e6 e8
  obtain ⟨_, _, _, ⟨a1, a2, _⟩, ⟨Mu, _, ⟨b1, b2, _⟩⟩, _, ⟨c1, c2, _⟩, ⟨d1, d2, _⟩, ⟨g1, g2, _⟩⟩ := h
  obtain ⟨s, hs, es⟩ := sm_of a2
  obtain ⟨t, ht, et⟩ := sm_of b2
  obtain ⟨u, hu, eu⟩ := sm_of c2
  obtain ⟨v, hv, ev⟩ := sm_of d2
  obtain ⟨x, hx, ex⟩ := sm_of g2
  rw [a1, b1, c1, d1, g1, es, et, eu, ev, ex]
  unfold m_X4_become
  rw [cpy12, cpy6, q_call (show m_X9_copyRows (nI s) (8 : Int32) s1 f3 (F 3) = _ from copyRows_ok (lim := 8) (by omega) (by omega) _ _ _), q_call (show m_X9_copyRows (nI t) (8 : Int32) s3 f4 (F 4) = _ from copyRows_ok (lim := 8) (by omega) (by omega) _ _ _), q_call (show m_X9_copyRows (nI u) (10 : Int32) s5 f5 (F 5) = _ from copyRows_ok (lim := 10) (by omega) (by omega) _ _ _), q_call (show m_X9_copyRows (nI v) (8 : Int32) s7 f6 (F 6) = _ from copyRows_ok (lim := 8) (by omega) (by omega) _ _ _), q_call (show m_X9_copyRows (nI x) (6 : Int32) s9 f7 (F 7) = _ from copyRows_ok (lim := 6) (by omega) (by omega) _ _ _)]
theorem relP_copy {F F' : Nat → Nat → Int32} {V V' n n' : Nat → Int32} (h : relP F V n) (hl : relLim V') (w0 : ∀ k, k < 12 → F' 0 k = F 0 k) (w1 : ∀ k, k < 6 → F' 1 k = F 1 k) (w3 : ∀ k, k < 30 → F' 3 k = F 3 k) (w4 : ∀ k, k < 30 → F' 4 k = F 4 k) (w5 : ∀ k, k < 30 → F' 5 k = F 5 k) (w6 : ∀ k, k < 30 → F' 6 k = F 6 k) (w7 : ∀ k, k < 30 → F' 7 k = F 7 k) (v1 : V' 1 = V 1) (v3 : V' 3 = V 3) (v5 : V' 5 = V 5) (v7 : V' 7 = V 7) (v9 : V' 9 = V 9) (v10 : V' 10 = V 10) (v11 : V' 11 = V 11) (v12 : V' 12 = V 12) (v13 : V' 13 = V 13) (hn : ∀ k, k < 126 → n' k = n k) : relP F' V' n' := by
  obtain ⟨h1, h2, h3, ⟨a1, a2, a3⟩, ⟨Mu, h5, ⟨b1, b2, b3, b4, b5⟩⟩, h7, ⟨c1, c2, c3⟩, ⟨d1, d2, d3, d4, d5, d6⟩, ⟨e1, e2, e3⟩⟩ := h
  have ba := a2.1
  have bb := b2.1
  have bc := c2.1
  have bd := d2.1
  have be := e2.1
  refine ⟨hl, fun k hk => ?_, fun k hk => ?_, ⟨by rw [v1, hn 50 (by omega)]; exact a1, by rw [hn 50 (by omega)]; exact a2, fun j hj => ?_⟩, ⟨Mu, ?_, by rw [v3, hn 53 (by omega)]; exact b1, by rw [hn 53 (by omega)]; exact b2, by rw [v10, hn 53 (by omega)]; exact b3, by rw [hn 51 (by omega), hn 53 (by omega)]; exact b4, fun j hj => ?_⟩, ⟨by rw [v11, hn 51 (by omega)]; exact h7.1, by rw [v12, hn 52 (by omega)]; exact h7.2⟩, ⟨by rw [v5, hn 78 (by omega)]; exact c1, by rw [hn 78 (by omega)]; exact c2, fun j hj => ?_⟩, ⟨by rw [v7, hn 89 (by omega)]; exact d1, by rw [hn 89 (by omega)]; exact d2, by rw [v13, hn 90 (by omega)]; exact d3, by rw [hn 90 (by omega)]; exact d4, by rw [hn 90 (by omega)]; exact d5, fun j hj => ?_⟩, ⟨by rw [v9, hn 107 (by omega)]; exact e1, by rw [hn 107 (by omega)]; exact e2, fun j hj => ?_⟩⟩
  · rw [w0 k hk, hn k (by omega)]; exact h2 k hk
  · rw [w1 k hk, hn (12 + k) (by omega)]; exact h3 k hk
  · rw [hn 50 (by omega)] at hj
    rw [w3 (3 * j) (by omega), w3 (3 * j + 1) (by omega), w3 (3 * j + 2) (by omega), hn (18 + 4 * j) (by omega), hn (18 + 4 * j + 1) (by omega), hn (18 + 4 * j + 2) (by omega), hn (18 + 4 * j + 3) (by omega)]
    exact a3 j hj
  · rw [hn 53 (by omega)]
    exact relB_c h5 (fun k _ hk => hn k (by omega))
  · rw [hn 53 (by omega)] at hj
    rw [w4 (3 * j) (by omega), w4 (3 * j + 1) (by omega), w4 (3 * j + 2) (by omega), hn (54 + 3 * j) (by omega), hn (54 + 3 * j + 1) (by omega), hn (54 + 3 * j + 2) (by omega)]
    exact b5 j hj
  · rw [hn 78 (by omega)] at hj
    rw [w5 (3 * j) (by omega), hn (79 + j) (by omega)]
    exact c3 j hj
  · rw [hn 89 (by omega)] at hj
    rw [w6 (3 * j) (by omega), w6 (3 * j + 1) (by omega), hn (91 + 2 * j) (by omega), hn (91 + 2 * j + 1) (by omega)]
    exact d6 j hj
  · rw [hn 107 (by omega)] at hj
    rw [w7 (3 * j) (by omega), w7 (3 * j + 1) (by omega), w7 (3 * j + 2) (by omega), hn (108 + 3 * j) (by omega), hn (108 + 3 * j + 1) (by omega), hn (108 + 3 * j + 2) (by omega)]
    exact e3 j hj
theorem cpy_succ (f g : Nat → Int32) (sp dp j : Nat) : upd (va_cpy f g sp dp j) (dp + j) (f (sp + j)) = va_cpy f g sp dp (j + 1) := by
  funext q
  show (if q = dp + j then f (sp + j) else (if dp ≤ q ∧ q < dp + j then f (sp + (q - dp)) else g q)) = (if dp ≤ q ∧ q < dp + (j + 1) then f (sp + (q - dp)) else g q)
  by_cases h : q = dp + j
  · rw [if_pos h, if_pos (by omega)]
    congr 1
    omega
  · rw [if_neg h]
    by_cases h2 : dp ≤ q ∧ q < dp + j
    · rw [if_pos h2, if_pos (by omega)]
    · rw [if_neg h2, if_neg (by omega)]
theorem cpy_zero (f g : Nat → Int32) (sp dp : Nat) : va_cpy f g sp dp 0 = g := by
  funext q
  exact pk_cpy_out (by omega)
theorem imageR_aux (n r z f : Nat → Int32) {i : Nat} (hi : i < 2) : ∀ (k j fu : Nat), j + k = 126 → k < fu → m_X12_image_L23 n fu r z (va_cpy n f 0 (126 * i) j) (nI i) (nI j) = some (1, r, z, va_cpy n f 0 (126 * i) 126)
  | k, j, 0, _, h => absurd h (Nat.not_lt_zero k)
  | 0, j, fu + 1, e, _ => by
    rw [m_X12_image_L23, if_pos (show (126 : Int32) ≤ nI j from nI_le (a := 126) (by omega) (by omega)), show j = 126 by omega]
  | k + 1, j, fu + 1, e, hfu => by
    have hs := cpy_succ n f 0 (126 * i) j
    rw [Nat.zero_add] at hs
    rw [m_X12_image_L23, if_neg (show ¬ (126 : Int32) ≤ nI j from nI_ge (b := 126) (by omega) (by omega)), q_at (by omega) (by omega), show (126 : Int32) * nI i = nI (126 * i) from pk_mul 126 i, nI_add, q_wr (by omega) (by omega), q_let, nI_1, hs]
    exact imageR_aux n r z f hi k (j + 1) fu (by omega) (by omega)
theorem fromR_aux (z kp r f : Nat → Int32) {i : Nat} (hi : i < 2) : ∀ (k j fu : Nat), j + k = 126 → k < fu → m_X12_from_L30 z kp fu r (va_cpy kp f (126 * i) 0 j) (nI i) (nI j) = some (1, r, va_cpy kp f (126 * i) 0 126)
  | k, j, 0, _, h => absurd h (Nat.not_lt_zero k)
  | 0, j, fu + 1, e, _ => by
    rw [m_X12_from_L30, if_pos (show (126 : Int32) ≤ nI j from nI_le (a := 126) (by omega) (by omega)), show j = 126 by omega]
  | k + 1, j, fu + 1, e, hfu => by
    have hs := cpy_succ kp f (126 * i) 0 j
    rw [Nat.zero_add] at hs
    rw [m_X12_from_L30, if_neg (show ¬ (126 : Int32) ≤ nI j from nI_ge (b := 126) (by omega) (by omega)), show (126 : Int32) * nI i = nI (126 * i) from pk_mul 126 i, nI_add, q_at (by omega) (by omega), q_wr (by omega) (by omega), q_let, nI_1, hs]
    exact fromR_aux z kp r f hi k (j + 1) fu (by omega) (by omega)
theorem nar1 : vp_nar .boolean 1 = 1 := by decide
theorem imageR_ok (r z n f : Nat → Int32) {i : Nat} (hi : i < 2) : m_X12_image r z n f (nI i) = some (1, r, upd z i 1, va_cpy n f 0 (126 * i) 126) := by
  unfold m_X12_image
  rw [q_call (in_ok _ _ _), show qIn (nI i) 0 1 = 1 from qIn_1 (lo := 0) (hi := 1) (by omega) (by omega) (by omega), if_neg one_ne0, q_wrZ (by omega) (by omega), nar1]
  have h := imageR_aux n r (upd z i 1) f hi 126 0 mFU (by omega) (by unfold mFU; omega)
  rw [cpy_zero] at h
  exact h
theorem fromR_ok (r z kp f : Nat → Int32) {i : Nat} (hi : i < 2) (hz : ¬ z i = 0) : m_X12_from r z kp f (nI i) = some (1, r, va_cpy kp f (126 * i) 0 126) := by
  unfold m_X12_from
  rw [q_call (in_ok _ _ _), show qIn (nI i) 0 1 = 1 from qIn_1 (lo := 0) (hi := 1) (by omega) (by omega) (by omega), if_neg one_ne0, q_at (by omega) (by omega), if_neg hz]
  have h := fromR_aux z kp r f hi 126 0 mFU (by omega) (by unfold mFU; omega)
  rw [cpy_zero] at h
  exact h
theorem fromR_no (r z kp f : Nat → Int32) {i : Nat} (hi : i < 2) (hz : z i = 0) : m_X12_from r z kp f (nI i) = some (-3, upd r 1 (r 1 + 1), f) := by
  unfold m_X12_from
  rw [q_call (in_ok _ _ _), show qIn (nI i) 0 1 = 1 from qIn_1 (lo := 0) (hi := 1) (by omega) (by omega) (by omega), if_neg one_ne0, q_at (by omega) (by omega), if_pos hz, q_call (no_ok _)]
theorem k2_0 {β : Type} (A0 A1 : Option β) : mK2 (nI 0) A0 A1 = A0 := by unfold mK2; rw [if_pos (by decide)]
theorem k2_1 {β : Type} (A0 A1 : Option β) : mK2 (nI 1) A0 A1 = A1 := by unfold mK2; rw [if_neg (by decide), if_pos (by decide)]
/-- image 0 is kept -/
theorem rel_img0 {FI FI' : Nat → Nat → Int32} {FL FL' : Nat → Nat → Int64} {VI VI' : Nat → Int32} {VL VL' : Nat → Int64} (h : Rel FI FL VI VL) (hF : ∀ j, ¬ (16 ≤ j ∧ j < 24) → j ≠ 47 → j ≠ 60 → j ≠ 61 → FI' j = FI j) (hV : ∀ j, ¬ (28 ≤ j ∧ j < 42) → VI' j = VI j) (hW : ∀ j, VL' j = VL j) (l0 : VI' 28 = VI 28) (l2 : VI' 30 = VI 30) (l4 : VI' 32 = VI 32) (l6 : VI' 34 = VI 34) (l8 : VI' 36 = VI 36) (f0 : ∀ k, k < 12 → FI' 16 k = FI 0 k) (f1 : ∀ k, k < 6 → FI' 17 k = FI 1 k) (f3 : ∀ k, k < 30 → FI' 19 k = FI 3 k) (f4 : ∀ k, k < 30 → FI' 20 k = FI 4 k) (f5 : ∀ k, k < 30 → FI' 21 k = FI 5 k) (f6 : ∀ k, k < 30 → FI' 22 k = FI 6 k) (f7 : ∀ k, k < 30 → FI' 23 k = FI 7 k) (v1 : VI' 29 = VI 1) (v3 : VI' 31 = VI 3) (v5 : VI' 33 = VI 5) (v7 : VI' 35 = VI 7) (v9 : VI' 37 = VI 9) (v10 : VI' 38 = VI 10) (v11 : VI' 39 = VI 11) (v12 : VI' 40 = VI 12) (v13 : VI' 41 = VI 13) (k47 : FI' 47 = upd (FI 47) 0 1) (k60 : FI' 60 = upd (FI 60) 0 1) (k61 : FI' 61 = va_cpy (FI 49) (FI 61) 0 0 126) : Rel FI' FL' VI' VL' := by
  obtain ⟨h1, h2, h3, h4, h5, h6, h7⟩ := h
  have e49 := hF 49 (by omega) (by omega) (by omega) (by omega)
  have hl : relLim (fun j => VI' (28 + j)) := by
    have q := h2.2.1
    exact ⟨l0.trans q.1, l2.trans q.2.1, l4.trans q.2.2.1, l6.trans q.2.2.2.1, l8.trans q.2.2.2.2⟩
  have ho : relLim (fun j => VI' (42 + j)) := relLim_c h2.2.2 (fun j hj => hV (42 + j) (by omega))
  have hnew : relP (fun j => FI' (16 + j)) (fun j => VI' (28 + j)) (fun k => FI' 61 (k)) := by
    refine relP_copy h1 hl f0 f1 f3 f4 f5 f6 f7 v1 v3 v5 v7 v9 v10 v11 v12 v13 (fun k hk => ?_)
    show FI' 61 (k) = FI 49 k
    rw [k61, pk_cpy_in (by omega) (by omega), show 0 + (k - 0) = k by omega]
  refine ⟨relP_cc h1 (fun j hj hj2 => hF j (by omega) (by omega) (by omega) (by omega)) (fun j hj => hV j (by omega)) (fun k _ => by rw [e49]), ⟨relLim_c h2.1 (fun j hj => hV (14 + j) (by omega)), hl, ho⟩, ?_, ?_, ?_, by rw [hW 0, hW 2]; exact h6, by rw [hW 1, hW 3]; exact h7⟩
  · obtain ⟨⟨a1, a2, a3⟩, ⟨b1, b2, b3⟩⟩ := h3
    refine ⟨⟨by rw [k47, k60, upd_eq, upd_eq], by rw [k60, upd_eq]; exact Or.inr rfl, fun _ => hnew⟩, ⟨by rw [k47, k60, upd_ne (by omega), upd_ne (by omega)]; exact b1, by rw [k60, upd_ne (by omega)]; exact b2, fun q => ?_⟩⟩
    rw [k60, upd_ne (by omega)] at q
    refine relP_cc (b3 q) (fun j hj _ => hF (24 + j) (by omega) (by omega) (by omega) (by omega)) (fun j hj => hV (42 + j) (by omega)) (fun k hk => ?_)
    show FI' 61 (126 + k) = FI 61 (126 + k)
    rw [k61, pk_cpy_out (by omega)]
  · unfold relT
    rw [hV 56 (by omega), hV 65 (by omega), hF 32 (by omega) (by omega) (by omega) (by omega), hF 51 (by omega) (by omega) (by omega) (by omega)]
    exact h4
  · unfold relR
    rw [hF 48 (by omega) (by omega) (by omega) (by omega), hV 62 (by omega), hV 63 (by omega), hV 64 (by omega)]
    exact h5
/-- it goes on from image 0 -/
theorem rel_from0 {FI FI' : Nat → Nat → Int32} {FL FL' : Nat → Nat → Int64} {VI VI' : Nat → Int32} {VL VL' : Nat → Int64} (h : Rel FI FL VI VL) (hk1 : FI 60 0 = 1) (hF : ∀ j, 8 ≤ j → j ≠ 49 → FI' j = FI j) (hV : ∀ j, 14 ≤ j → VI' j = VI j) (hW : ∀ j, VL' j = VL j) (l0 : VI' 0 = VI 0) (l2 : VI' 2 = VI 2) (l4 : VI' 4 = VI 4) (l6 : VI' 6 = VI 6) (l8 : VI' 8 = VI 8) (f0 : ∀ k, k < 12 → FI' 0 k = FI 16 k) (f1 : ∀ k, k < 6 → FI' 1 k = FI 17 k) (f3 : ∀ k, k < 30 → FI' 3 k = FI 19 k) (f4 : ∀ k, k < 30 → FI' 4 k = FI 20 k) (f5 : ∀ k, k < 30 → FI' 5 k = FI 21 k) (f6 : ∀ k, k < 30 → FI' 6 k = FI 22 k) (f7 : ∀ k, k < 30 → FI' 7 k = FI 23 k) (v1 : VI' 1 = VI 29) (v3 : VI' 3 = VI 31) (v5 : VI' 5 = VI 33) (v7 : VI' 7 = VI 35) (v9 : VI' 9 = VI 37) (v10 : VI' 10 = VI 38) (v11 : VI' 11 = VI 39) (v12 : VI' 12 = VI 40) (v13 : VI' 13 = VI 41) (k49 : FI' 49 = va_cpy (FI 61) (FI 49) 0 0 126) : Rel FI' FL' VI' VL' := by
  obtain ⟨h1, h2, h3, h4, h5, h6, h7⟩ := h
  have hl : relLim VI' := ⟨l0.trans h1.1.1, l2.trans h1.1.2.1, l4.trans h1.1.2.2.1, l6.trans h1.1.2.2.2.1, l8.trans h1.1.2.2.2.2⟩
  refine ⟨?_, ⟨relLim_c h2.1 (fun j hj => hV (14 + j) (by omega)), relLim_c h2.2.1 (fun j hj => hV (28 + j) (by omega)), relLim_c h2.2.2 (fun j hj => hV (42 + j) (by omega))⟩, ?_, ?_, ?_, by rw [hW 0, hW 2]; exact h6, by rw [hW 1, hW 3]; exact h7⟩
  · refine relP_copy (h3.1.2.2 hk1) hl f0 f1 f3 f4 f5 f6 f7 v1 v3 v5 v7 v9 v10 v11 v12 v13 (fun k hk => ?_)
    show FI' 49 k = FI 61 (k)
    rw [k49, pk_cpy_in (by omega) (by omega), show 0 + (k - 0) = k by omega]
  · obtain ⟨⟨a1, a2, a3⟩, ⟨b1, b2, b3⟩⟩ := h3
    have e47 := hF 47 (by omega) (by omega)
    have e60 := hF 60 (by omega) (by omega)
    have e61 := hF 61 (by omega) (by omega)
    unfold relI
    rw [e47, e60, e61]
    refine ⟨⟨a1, a2, fun q => relP_cc (a3 q) (fun j hj _ => hF (16 + j) (by omega) (by omega)) (fun j hj => hV (28 + j) (by omega)) (fun _ _ => rfl)⟩, ⟨b1, b2, fun q => relP_cc (b3 q) (fun j hj _ => hF (24 + j) (by omega) (by omega)) (fun j hj => hV (42 + j) (by omega)) (fun _ _ => rfl)⟩⟩
  · unfold relT
    rw [hV 56 (by omega), hV 65 (by omega), hF 32 (by omega) (by omega), hF 51 (by omega) (by omega)]
    exact h4
  · unfold relR
    rw [hF 48 (by omega) (by omega), hV 62 (by omega), hV 63 (by omega), hV 64 (by omega)]
    exact h5
/-- image 1 is kept -/
theorem rel_img1 {FI FI' : Nat → Nat → Int32} {FL FL' : Nat → Nat → Int64} {VI VI' : Nat → Int32} {VL VL' : Nat → Int64} (h : Rel FI FL VI VL) (hF : ∀ j, ¬ (24 ≤ j ∧ j < 32) → j ≠ 47 → j ≠ 60 → j ≠ 61 → FI' j = FI j) (hV : ∀ j, ¬ (42 ≤ j ∧ j < 56) → VI' j = VI j) (hW : ∀ j, VL' j = VL j) (l0 : VI' 42 = VI 42) (l2 : VI' 44 = VI 44) (l4 : VI' 46 = VI 46) (l6 : VI' 48 = VI 48) (l8 : VI' 50 = VI 50) (f0 : ∀ k, k < 12 → FI' 24 k = FI 0 k) (f1 : ∀ k, k < 6 → FI' 25 k = FI 1 k) (f3 : ∀ k, k < 30 → FI' 27 k = FI 3 k) (f4 : ∀ k, k < 30 → FI' 28 k = FI 4 k) (f5 : ∀ k, k < 30 → FI' 29 k = FI 5 k) (f6 : ∀ k, k < 30 → FI' 30 k = FI 6 k) (f7 : ∀ k, k < 30 → FI' 31 k = FI 7 k) (v1 : VI' 43 = VI 1) (v3 : VI' 45 = VI 3) (v5 : VI' 47 = VI 5) (v7 : VI' 49 = VI 7) (v9 : VI' 51 = VI 9) (v10 : VI' 52 = VI 10) (v11 : VI' 53 = VI 11) (v12 : VI' 54 = VI 12) (v13 : VI' 55 = VI 13) (k47 : FI' 47 = upd (FI 47) 1 1) (k60 : FI' 60 = upd (FI 60) 1 1) (k61 : FI' 61 = va_cpy (FI 49) (FI 61) 0 126 126) : Rel FI' FL' VI' VL' := by
  obtain ⟨h1, h2, h3, h4, h5, h6, h7⟩ := h
  have e49 := hF 49 (by omega) (by omega) (by omega) (by omega)
  have hl : relLim (fun j => VI' (42 + j)) := by
    have q := h2.2.2
    exact ⟨l0.trans q.1, l2.trans q.2.1, l4.trans q.2.2.1, l6.trans q.2.2.2.1, l8.trans q.2.2.2.2⟩
  have ho : relLim (fun j => VI' (28 + j)) := relLim_c h2.2.1 (fun j hj => hV (28 + j) (by omega))
  have hnew : relP (fun j => FI' (24 + j)) (fun j => VI' (42 + j)) (fun k => FI' 61 (126 + k)) := by
    refine relP_copy h1 hl f0 f1 f3 f4 f5 f6 f7 v1 v3 v5 v7 v9 v10 v11 v12 v13 (fun k hk => ?_)
    show FI' 61 (126 + k) = FI 49 k
    rw [k61, pk_cpy_in (by omega) (by omega), show 0 + (126 + k - 126) = k by omega]
  refine ⟨relP_cc h1 (fun j hj hj2 => hF j (by omega) (by omega) (by omega) (by omega)) (fun j hj => hV j (by omega)) (fun k _ => by rw [e49]), ⟨relLim_c h2.1 (fun j hj => hV (14 + j) (by omega)), ho, hl⟩, ?_, ?_, ?_, by rw [hW 0, hW 2]; exact h6, by rw [hW 1, hW 3]; exact h7⟩
  · obtain ⟨⟨a1, a2, a3⟩, ⟨b1, b2, b3⟩⟩ := h3
    refine ⟨⟨by rw [k47, k60, upd_ne (by omega), upd_ne (by omega)]; exact a1, by rw [k60, upd_ne (by omega)]; exact a2, fun q => ?_⟩, ⟨by rw [k47, k60, upd_eq, upd_eq], by rw [k60, upd_eq]; exact Or.inr rfl, fun _ => hnew⟩⟩
    rw [k60, upd_ne (by omega)] at q
    refine relP_cc (a3 q) (fun j hj _ => hF (16 + j) (by omega) (by omega) (by omega) (by omega)) (fun j hj => hV (28 + j) (by omega)) (fun k hk => ?_)
    show FI' 61 k = FI 61 k
    rw [k61, pk_cpy_out (by omega)]
  · unfold relT
    rw [hV 56 (by omega), hV 65 (by omega), hF 32 (by omega) (by omega) (by omega) (by omega), hF 51 (by omega) (by omega) (by omega) (by omega)]
    exact h4
  · unfold relR
    rw [hF 48 (by omega) (by omega) (by omega) (by omega), hV 62 (by omega), hV 63 (by omega), hV 64 (by omega)]
    exact h5
/-- it goes on from image 1 -/
theorem rel_from1 {FI FI' : Nat → Nat → Int32} {FL FL' : Nat → Nat → Int64} {VI VI' : Nat → Int32} {VL VL' : Nat → Int64} (h : Rel FI FL VI VL) (hk1 : FI 60 1 = 1) (hF : ∀ j, 8 ≤ j → j ≠ 49 → FI' j = FI j) (hV : ∀ j, 14 ≤ j → VI' j = VI j) (hW : ∀ j, VL' j = VL j) (l0 : VI' 0 = VI 0) (l2 : VI' 2 = VI 2) (l4 : VI' 4 = VI 4) (l6 : VI' 6 = VI 6) (l8 : VI' 8 = VI 8) (f0 : ∀ k, k < 12 → FI' 0 k = FI 24 k) (f1 : ∀ k, k < 6 → FI' 1 k = FI 25 k) (f3 : ∀ k, k < 30 → FI' 3 k = FI 27 k) (f4 : ∀ k, k < 30 → FI' 4 k = FI 28 k) (f5 : ∀ k, k < 30 → FI' 5 k = FI 29 k) (f6 : ∀ k, k < 30 → FI' 6 k = FI 30 k) (f7 : ∀ k, k < 30 → FI' 7 k = FI 31 k) (v1 : VI' 1 = VI 43) (v3 : VI' 3 = VI 45) (v5 : VI' 5 = VI 47) (v7 : VI' 7 = VI 49) (v9 : VI' 9 = VI 51) (v10 : VI' 10 = VI 52) (v11 : VI' 11 = VI 53) (v12 : VI' 12 = VI 54) (v13 : VI' 13 = VI 55) (k49 : FI' 49 = va_cpy (FI 61) (FI 49) 126 0 126) : Rel FI' FL' VI' VL' := by
  obtain ⟨h1, h2, h3, h4, h5, h6, h7⟩ := h
  have hl : relLim VI' := ⟨l0.trans h1.1.1, l2.trans h1.1.2.1, l4.trans h1.1.2.2.1, l6.trans h1.1.2.2.2.1, l8.trans h1.1.2.2.2.2⟩
  refine ⟨?_, ⟨relLim_c h2.1 (fun j hj => hV (14 + j) (by omega)), relLim_c h2.2.1 (fun j hj => hV (28 + j) (by omega)), relLim_c h2.2.2 (fun j hj => hV (42 + j) (by omega))⟩, ?_, ?_, ?_, by rw [hW 0, hW 2]; exact h6, by rw [hW 1, hW 3]; exact h7⟩
  · refine relP_copy (h3.2.2.2 hk1) hl f0 f1 f3 f4 f5 f6 f7 v1 v3 v5 v7 v9 v10 v11 v12 v13 (fun k hk => ?_)
    show FI' 49 k = FI 61 (126 + k)
    rw [k49, pk_cpy_in (by omega) (by omega), show 126 + (k - 0) = 126 + k by omega]
  · obtain ⟨⟨a1, a2, a3⟩, ⟨b1, b2, b3⟩⟩ := h3
    have e47 := hF 47 (by omega) (by omega)
    have e60 := hF 60 (by omega) (by omega)
    have e61 := hF 61 (by omega) (by omega)
    unfold relI
    rw [e47, e60, e61]
    refine ⟨⟨a1, a2, fun q => relP_cc (a3 q) (fun j hj _ => hF (16 + j) (by omega) (by omega)) (fun j hj => hV (28 + j) (by omega)) (fun _ _ => rfl)⟩, ⟨b1, b2, fun q => relP_cc (b3 q) (fun j hj _ => hF (24 + j) (by omega) (by omega)) (fun j hj => hV (42 + j) (by omega)) (fun _ _ => rfl)⟩⟩
  · unfold relT
    rw [hV 56 (by omega), hV 65 (by omega), hF 32 (by omega) (by omega), hF 51 (by omega) (by omega)]
    exact h4
  · unfold relR
    rw [hF 48 (by omega) (by omega), hV 62 (by omega), hV 63 (by omega), hV 64 (by omega)]
    exact h5
set_option maxHeartbeats 4000000 in
set_option maxRecDepth 20000 in
theorem o_image : opSpec_image Rel := by
  intro FI FL VI VL a1 h
  rcases qIn_c a1 0 1 (by omega) (by omega) with e | ⟨e, i, _, hi, rfl⟩
  · have e' : qIn a1 0 1 = 0 := e
    have hx : m_X11_image (VI 62) (VI 63) (VI 64) (VI 52) (VI 53) (VI 54) (VI 55) (VI 10) (VI 11) (VI 12) (VI 13) (FI 0) (FI 24) (FI 1) (FI 25) (VI 42) (VI 43) (VI 1) (FI 27) (FI 3) (VI 44) (VI 45) (VI 3) (FI 28) (FI 4) (VI 46) (VI 47) (VI 5) (FI 29) (FI 5) (VI 48) (VI 49) (VI 7) (FI 30) (FI 6) (VI 50) (VI 51) (VI 9) (FI 31) (FI 7) (FI 47) (VI 38) (VI 39) (VI 40) (VI 41) (FI 16) (FI 17) (VI 28) (VI 29) (FI 19) (VI 30) (VI 31) (FI 20) (VI 32) (VI 33) (FI 21) (VI 34) (VI 35) (FI 22) (VI 36) (VI 37) (FI 23) a1 = some (-2, VI 62 + 1, VI 63, VI 64, VI 52, VI 53, VI 54, VI 55, FI 24, FI 25, VI 43, FI 27, VI 45, FI 28, VI 47, FI 29, VI 49, FI 30, VI 51, FI 31, FI 47, VI 38, VI 39, VI 40, VI 41, FI 16, FI 17, VI 29, FI 19, VI 31, FI 20, VI 33, FI 21, VI 35, FI 22, VI 37, FI 23) := by
      unfold m_X11_image
      rw [q_call (within_ok _ _ _), e', if_pos rfl, q_call (counted_bad _ _ _)]
    have hm : m_X12_image (FI 48) (FI 60) (FI 49) (FI 61) a1 = some (-2, upd (FI 48) 0 (FI 48 0 + 1), FI 60, FI 61) := by
      unfold m_X12_image
      rw [q_call (in_ok _ _ _), e', if_pos rfl, q_call (bad_ok _)]
    refine ⟨_, _, hx, hm, rfl, rel_eq (rel_bad h) (fun j => ?_) (fun j => ?_) (fun j => rfl)⟩
    · repeat (refine up_or rfl (fun _ => ?_))
      exact (up_ne ‹j ≠ 48›).symm
    · repeat (refine up_or rfl (fun _ => ?_))
      exact (up_ne ‹j ≠ 62›).symm
  · have hc : i = 0 ∨ i = 1 := by omega
    rcases hc with rfl | rfl
    · have e' : qIn (nI 0) 0 1 = 1 := e
      have ll := h.2.1.2.1
      have hb : m_X4_become (VI 10) (VI 11) (VI 12) (VI 13) (VI 38) (VI 39) (VI 40) (VI 41) (FI 0) (FI 16) (FI 1) (FI 17) (VI 28) (VI 29) (VI 1) (FI 19) (FI 3) (VI 30) (VI 31) (VI 3) (FI 20) (FI 4) (VI 32) (VI 33) (VI 5) (FI 21) (FI 5) (VI 34) (VI 35) (VI 7) (FI 22) (FI 6) (VI 36) (VI 37) (VI 9) (FI 23) (FI 7) = some (VI 10, VI 11, VI 12, VI 13, va_cpy (FI 0) (FI 16) 0 0 12, va_cpy (FI 1) (FI 17) 0 0 6, VI 1, va_cpy (FI 3) (FI 19) 0 0 30, VI 3, va_cpy (FI 4) (FI 20) 0 0 30, VI 5, va_cpy (FI 5) (FI 21) 0 0 30, VI 7, va_cpy (FI 6) (FI 22) 0 0 30, VI 9, va_cpy (FI 7) (FI 23) 0 0 30) := become_ok h.1 _ _ _ _ _ _ _ _ _ _ _ _ _ _ _ _ ll.1 ll.2.1 ll.2.2.1 ll.2.2.2.1 ll.2.2.2.2
      have hx : m_X11_image (VI 62) (VI 63) (VI 64) (VI 52) (VI 53) (VI 54) (VI 55) (VI 10) (VI 11) (VI 12) (VI 13) (FI 0) (FI 24) (FI 1) (FI 25) (VI 42) (VI 43) (VI 1) (FI 27) (FI 3) (VI 44) (VI 45) (VI 3) (FI 28) (FI 4) (VI 46) (VI 47) (VI 5) (FI 29) (FI 5) (VI 48) (VI 49) (VI 7) (FI 30) (FI 6) (VI 50) (VI 51) (VI 9) (FI 31) (FI 7) (FI 47) (VI 38) (VI 39) (VI 40) (VI 41) (FI 16) (FI 17) (VI 28) (VI 29) (FI 19) (VI 30) (VI 31) (FI 20) (VI 32) (VI 33) (FI 21) (VI 34) (VI 35) (FI 22) (VI 36) (VI 37) (FI 23) (nI 0) = some (1, VI 62, VI 63, VI 64, VI 52, VI 53, VI 54, VI 55, FI 24, FI 25, VI 43, FI 27, VI 45, FI 28, VI 47, FI 29, VI 49, FI 30, VI 51, FI 31, upd (FI 47) 0 1, VI 10, VI 11, VI 12, VI 13, va_cpy (FI 0) (FI 16) 0 0 12, va_cpy (FI 1) (FI 17) 0 0 6, VI 1, va_cpy (FI 3) (FI 19) 0 0 30, VI 3, va_cpy (FI 4) (FI 20) 0 0 30, VI 5, va_cpy (FI 5) (FI 21) 0 0 30, VI 7, va_cpy (FI 6) (FI 22) 0 0 30, VI 9, va_cpy (FI 7) (FI 23) 0 0 30) := by
        unfold m_X11_image
        rw [q_call (within_ok _ _ _), e', if_neg one_ne0, k2_0, q_call hb, q_wrZ (by omega) (by omega), nar1]
      refine ⟨_, _, hx, imageR_ok (FI 48) (FI 60) (FI 49) (FI 61) (i := 0) (by omega), rfl, ?_⟩
      refine rel_img0 h (fun j j1 j2 j3 j4 => ?_) (fun j j1 => ?_) (fun j => rfl) rfl rfl rfl rfl rfl (fun k hk => cpy_in0 hk) (fun k hk => cpy_in0 hk) (fun k hk => cpy_in0 hk) (fun k hk => cpy_in0 hk) (fun k hk => cpy_in0 hk) (fun k hk => cpy_in0 hk) (fun k hk => cpy_in0 hk) rfl rfl rfl rfl rfl rfl rfl rfl rfl rfl rfl rfl
      · repeat (first | refine up_or rfl (fun _ => ?_) | rw [up_ne (by omega)])
        try rfl
      · repeat (first | refine up_or rfl (fun _ => ?_) | rw [up_ne (by omega)])
        try rfl
    · have e' : qIn (nI 1) 0 1 = 1 := e
      have ll := h.2.1.2.2
      have hb : m_X4_become (VI 10) (VI 11) (VI 12) (VI 13) (VI 52) (VI 53) (VI 54) (VI 55) (FI 0) (FI 24) (FI 1) (FI 25) (VI 42) (VI 43) (VI 1) (FI 27) (FI 3) (VI 44) (VI 45) (VI 3) (FI 28) (FI 4) (VI 46) (VI 47) (VI 5) (FI 29) (FI 5) (VI 48) (VI 49) (VI 7) (FI 30) (FI 6) (VI 50) (VI 51) (VI 9) (FI 31) (FI 7) = some (VI 10, VI 11, VI 12, VI 13, va_cpy (FI 0) (FI 24) 0 0 12, va_cpy (FI 1) (FI 25) 0 0 6, VI 1, va_cpy (FI 3) (FI 27) 0 0 30, VI 3, va_cpy (FI 4) (FI 28) 0 0 30, VI 5, va_cpy (FI 5) (FI 29) 0 0 30, VI 7, va_cpy (FI 6) (FI 30) 0 0 30, VI 9, va_cpy (FI 7) (FI 31) 0 0 30) := become_ok h.1 _ _ _ _ _ _ _ _ _ _ _ _ _ _ _ _ ll.1 ll.2.1 ll.2.2.1 ll.2.2.2.1 ll.2.2.2.2
      have hx : m_X11_image (VI 62) (VI 63) (VI 64) (VI 52) (VI 53) (VI 54) (VI 55) (VI 10) (VI 11) (VI 12) (VI 13) (FI 0) (FI 24) (FI 1) (FI 25) (VI 42) (VI 43) (VI 1) (FI 27) (FI 3) (VI 44) (VI 45) (VI 3) (FI 28) (FI 4) (VI 46) (VI 47) (VI 5) (FI 29) (FI 5) (VI 48) (VI 49) (VI 7) (FI 30) (FI 6) (VI 50) (VI 51) (VI 9) (FI 31) (FI 7) (FI 47) (VI 38) (VI 39) (VI 40) (VI 41) (FI 16) (FI 17) (VI 28) (VI 29) (FI 19) (VI 30) (VI 31) (FI 20) (VI 32) (VI 33) (FI 21) (VI 34) (VI 35) (FI 22) (VI 36) (VI 37) (FI 23) (nI 1) = some (1, VI 62, VI 63, VI 64, VI 10, VI 11, VI 12, VI 13, va_cpy (FI 0) (FI 24) 0 0 12, va_cpy (FI 1) (FI 25) 0 0 6, VI 1, va_cpy (FI 3) (FI 27) 0 0 30, VI 3, va_cpy (FI 4) (FI 28) 0 0 30, VI 5, va_cpy (FI 5) (FI 29) 0 0 30, VI 7, va_cpy (FI 6) (FI 30) 0 0 30, VI 9, va_cpy (FI 7) (FI 31) 0 0 30, upd (FI 47) 1 1, VI 38, VI 39, VI 40, VI 41, FI 16, FI 17, VI 29, FI 19, VI 31, FI 20, VI 33, FI 21, VI 35, FI 22, VI 37, FI 23) := by
        unfold m_X11_image
        rw [q_call (within_ok _ _ _), e', if_neg one_ne0, k2_1, q_call hb, q_wrZ (by omega) (by omega), nar1]
      refine ⟨_, _, hx, imageR_ok (FI 48) (FI 60) (FI 49) (FI 61) (i := 1) (by omega), rfl, ?_⟩
      refine rel_img1 h (fun j j1 j2 j3 j4 => ?_) (fun j j1 => ?_) (fun j => rfl) rfl rfl rfl rfl rfl (fun k hk => cpy_in0 hk) (fun k hk => cpy_in0 hk) (fun k hk => cpy_in0 hk) (fun k hk => cpy_in0 hk) (fun k hk => cpy_in0 hk) (fun k hk => cpy_in0 hk) (fun k hk => cpy_in0 hk) rfl rfl rfl rfl rfl rfl rfl rfl rfl rfl rfl rfl
      · repeat (first | refine up_or rfl (fun _ => ?_) | rw [up_ne (by omega)])
        try rfl
      · repeat (first | refine up_or rfl (fun _ => ?_) | rw [up_ne (by omega)])
        try rfl
set_option maxHeartbeats 4000000 in
set_option maxRecDepth 20000 in
theorem o_from : opSpec_from Rel := by
  intro FI FL VI VL a1 h
  rcases qIn_c a1 0 1 (by omega) (by omega) with e | ⟨e, i, _, hi, rfl⟩
  · have e' : qIn a1 0 1 = 0 := e
    have hx : m_X11_from (VI 62) (VI 63) (VI 64) (FI 47) (VI 10) (VI 11) (VI 12) (VI 13) (VI 52) (VI 53) (VI 54) (VI 55) (FI 24) (FI 0) (FI 25) (FI 1) (VI 0) (VI 1) (VI 43) (FI 3) (FI 27) (VI 2) (VI 3) (VI 45) (FI 4) (FI 28) (VI 4) (VI 5) (VI 47) (FI 5) (FI 29) (VI 6) (VI 7) (VI 49) (FI 6) (FI 30) (VI 8) (VI 9) (VI 51) (FI 7) (FI 31) (VI 38) (VI 39) (VI 40) (VI 41) (FI 16) (FI 17) (VI 29) (FI 19) (VI 31) (FI 20) (VI 33) (FI 21) (VI 35) (FI 22) (VI 37) (FI 23) a1 = some (-2, VI 62 + 1, VI 63, VI 64, VI 10, VI 11, VI 12, VI 13, FI 0, FI 1, VI 1, FI 3, VI 3, FI 4, VI 5, FI 5, VI 7, FI 6, VI 9, FI 7) := by
      unfold m_X11_from
      rw [q_call (within_ok _ _ _), e', if_pos rfl, q_call (counted_bad _ _ _)]
    have hm : m_X12_from (FI 48) (FI 60) (FI 61) (FI 49) a1 = some (-2, upd (FI 48) 0 (FI 48 0 + 1), FI 49) := by
      unfold m_X12_from
      rw [q_call (in_ok _ _ _), e', if_pos rfl, q_call (bad_ok _)]
    refine ⟨_, _, hx, hm, rfl, rel_eq (rel_bad h) (fun j => ?_) (fun j => ?_) (fun j => rfl)⟩
    · repeat (refine up_or rfl (fun _ => ?_))
      exact (up_ne ‹j ≠ 48›).symm
    · repeat (refine up_or rfl (fun _ => ?_))
      exact (up_ne ‹j ≠ 62›).symm
  · have hc : i = 0 ∨ i = 1 := by omega
    rcases hc with rfl | rfl
    · have e' : qIn (nI 0) 0 1 = 1 := e
      have rI := h.2.2.1.1
      by_cases hz : FI 60 0 = 0
      · have hz2 : FI 47 0 = 0 := rI.1.trans hz
        have hx : m_X11_from (VI 62) (VI 63) (VI 64) (FI 47) (VI 10) (VI 11) (VI 12) (VI 13) (VI 52) (VI 53) (VI 54) (VI 55) (FI 24) (FI 0) (FI 25) (FI 1) (VI 0) (VI 1) (VI 43) (FI 3) (FI 27) (VI 2) (VI 3) (VI 45) (FI 4) (FI 28) (VI 4) (VI 5) (VI 47) (FI 5) (FI 29) (VI 6) (VI 7) (VI 49) (FI 6) (FI 30) (VI 8) (VI 9) (VI 51) (FI 7) (FI 31) (VI 38) (VI 39) (VI 40) (VI 41) (FI 16) (FI 17) (VI 29) (FI 19) (VI 31) (FI 20) (VI 33) (FI 21) (VI 35) (FI 22) (VI 37) (FI 23) (nI 0) = some (-3, VI 62, VI 63 + 1, VI 64, VI 10, VI 11, VI 12, VI 13, FI 0, FI 1, VI 1, FI 3, VI 3, FI 4, VI 5, FI 5, VI 7, FI 6, VI 9, FI 7) := by
          unfold m_X11_from
          rw [q_call (within_ok _ _ _), e', if_neg one_ne0, q_at (by omega) (by omega), if_pos hz2, q_call (counted_no _ _ _)]
        refine ⟨_, _, hx, fromR_no (FI 48) (FI 60) (FI 61) (FI 49) (i := 0) (by omega) hz, rfl, rel_eq (rel_no h) (fun j => ?_) (fun j => ?_) (fun j => rfl)⟩
        · repeat (refine up_or rfl (fun _ => ?_))
          exact (up_ne ‹j ≠ 48›).symm
        · repeat (refine up_or rfl (fun _ => ?_))
          exact (up_ne ‹j ≠ 63›).symm
      · have h1 : FI 60 0 = 1 := rI.2.1.resolve_left hz
        have hz2 : ¬ FI 47 0 = 0 := fun q => hz (rI.1.symm.trans q)
        have ll := h.1.1
        have hb : m_X4_become (VI 38) (VI 39) (VI 40) (VI 41) (VI 10) (VI 11) (VI 12) (VI 13) (FI 16) (FI 0) (FI 17) (FI 1) (VI 0) (VI 1) (VI 29) (FI 3) (FI 19) (VI 2) (VI 3) (VI 31) (FI 4) (FI 20) (VI 4) (VI 5) (VI 33) (FI 5) (FI 21) (VI 6) (VI 7) (VI 35) (FI 6) (FI 22) (VI 8) (VI 9) (VI 37) (FI 7) (FI 23) = some (VI 38, VI 39, VI 40, VI 41, va_cpy (FI 16) (FI 0) 0 0 12, va_cpy (FI 17) (FI 1) 0 0 6, VI 29, va_cpy (FI 19) (FI 3) 0 0 30, VI 31, va_cpy (FI 20) (FI 4) 0 0 30, VI 33, va_cpy (FI 21) (FI 5) 0 0 30, VI 35, va_cpy (FI 22) (FI 6) 0 0 30, VI 37, va_cpy (FI 23) (FI 7) 0 0 30) := become_ok (rI.2.2 h1) _ _ _ _ _ _ _ _ _ _ _ _ _ _ _ _ ll.1 ll.2.1 ll.2.2.1 ll.2.2.2.1 ll.2.2.2.2
        have hx : m_X11_from (VI 62) (VI 63) (VI 64) (FI 47) (VI 10) (VI 11) (VI 12) (VI 13) (VI 52) (VI 53) (VI 54) (VI 55) (FI 24) (FI 0) (FI 25) (FI 1) (VI 0) (VI 1) (VI 43) (FI 3) (FI 27) (VI 2) (VI 3) (VI 45) (FI 4) (FI 28) (VI 4) (VI 5) (VI 47) (FI 5) (FI 29) (VI 6) (VI 7) (VI 49) (FI 6) (FI 30) (VI 8) (VI 9) (VI 51) (FI 7) (FI 31) (VI 38) (VI 39) (VI 40) (VI 41) (FI 16) (FI 17) (VI 29) (FI 19) (VI 31) (FI 20) (VI 33) (FI 21) (VI 35) (FI 22) (VI 37) (FI 23) (nI 0) = some (1, VI 62, VI 63, VI 64, VI 38, VI 39, VI 40, VI 41, va_cpy (FI 16) (FI 0) 0 0 12, va_cpy (FI 17) (FI 1) 0 0 6, VI 29, va_cpy (FI 19) (FI 3) 0 0 30, VI 31, va_cpy (FI 20) (FI 4) 0 0 30, VI 33, va_cpy (FI 21) (FI 5) 0 0 30, VI 35, va_cpy (FI 22) (FI 6) 0 0 30, VI 37, va_cpy (FI 23) (FI 7) 0 0 30) := by
          unfold m_X11_from
          rw [q_call (within_ok _ _ _), e', if_neg one_ne0, q_at (by omega) (by omega), if_neg hz2, k2_0, q_call hb]
        refine ⟨_, _, hx, fromR_ok (FI 48) (FI 60) (FI 61) (FI 49) (i := 0) (by omega) hz, rfl, ?_⟩
        refine rel_from0 h h1 (fun j j1 j2 => ?_) (fun j j1 => ?_) (fun j => rfl) rfl rfl rfl rfl rfl (fun k hk => cpy_in0 hk) (fun k hk => cpy_in0 hk) (fun k hk => cpy_in0 hk) (fun k hk => cpy_in0 hk) (fun k hk => cpy_in0 hk) (fun k hk => cpy_in0 hk) (fun k hk => cpy_in0 hk) rfl rfl rfl rfl rfl rfl rfl rfl rfl rfl
        · repeat (first | refine up_or rfl (fun _ => ?_) | rw [up_ne (by omega)])
          try rfl
        · repeat (first | refine up_or rfl (fun _ => ?_) | rw [up_ne (by omega)])
          try rfl
    · have e' : qIn (nI 1) 0 1 = 1 := e
      have rI := h.2.2.1.2
      by_cases hz : FI 60 1 = 0
      · have hz2 : FI 47 1 = 0 := rI.1.trans hz
        have hx : m_X11_from (VI 62) (VI 63) (VI 64) (FI 47) (VI 10) (VI 11) (VI 12) (VI 13) (VI 52) (VI 53) (VI 54) (VI 55) (FI 24) (FI 0) (FI 25) (FI 1) (VI 0) (VI 1) (VI 43) (FI 3) (FI 27) (VI 2) (VI 3) (VI 45) (FI 4) (FI 28) (VI 4) (VI 5) (VI 47) (FI 5) (FI 29) (VI 6) (VI 7) (VI 49) (FI 6) (FI 30) (VI 8) (VI 9) (VI 51) (FI 7) (FI 31) (VI 38) (VI 39) (VI 40) (VI 41) (FI 16) (FI 17) (VI 29) (FI 19) (VI 31) (FI 20) (VI 33) (FI 21) (VI 35) (FI 22) (VI 37) (FI 23) (nI 1) = some (-3, VI 62, VI 63 + 1, VI 64, VI 10, VI 11, VI 12, VI 13, FI 0, FI 1, VI 1, FI 3, VI 3, FI 4, VI 5, FI 5, VI 7, FI 6, VI 9, FI 7) := by
          unfold m_X11_from
          rw [q_call (within_ok _ _ _), e', if_neg one_ne0, q_at (by omega) (by omega), if_pos hz2, q_call (counted_no _ _ _)]
        refine ⟨_, _, hx, fromR_no (FI 48) (FI 60) (FI 61) (FI 49) (i := 1) (by omega) hz, rfl, rel_eq (rel_no h) (fun j => ?_) (fun j => ?_) (fun j => rfl)⟩
        · repeat (refine up_or rfl (fun _ => ?_))
          exact (up_ne ‹j ≠ 48›).symm
        · repeat (refine up_or rfl (fun _ => ?_))
          exact (up_ne ‹j ≠ 63›).symm
      · have h1 : FI 60 1 = 1 := rI.2.1.resolve_left hz
        have hz2 : ¬ FI 47 1 = 0 := fun q => hz (rI.1.symm.trans q)
        have ll := h.1.1
        have hb : m_X4_become (VI 52) (VI 53) (VI 54) (VI 55) (VI 10) (VI 11) (VI 12) (VI 13) (FI 24) (FI 0) (FI 25) (FI 1) (VI 0) (VI 1) (VI 43) (FI 3) (FI 27) (VI 2) (VI 3) (VI 45) (FI 4) (FI 28) (VI 4) (VI 5) (VI 47) (FI 5) (FI 29) (VI 6) (VI 7) (VI 49) (FI 6) (FI 30) (VI 8) (VI 9) (VI 51) (FI 7) (FI 31) = some (VI 52, VI 53, VI 54, VI 55, va_cpy (FI 24) (FI 0) 0 0 12, va_cpy (FI 25) (FI 1) 0 0 6, VI 43, va_cpy (FI 27) (FI 3) 0 0 30, VI 45, va_cpy (FI 28) (FI 4) 0 0 30, VI 47, va_cpy (FI 29) (FI 5) 0 0 30, VI 49, va_cpy (FI 30) (FI 6) 0 0 30, VI 51, va_cpy (FI 31) (FI 7) 0 0 30) := become_ok (rI.2.2 h1) _ _ _ _ _ _ _ _ _ _ _ _ _ _ _ _ ll.1 ll.2.1 ll.2.2.1 ll.2.2.2.1 ll.2.2.2.2
        have hx : m_X11_from (VI 62) (VI 63) (VI 64) (FI 47) (VI 10) (VI 11) (VI 12) (VI 13) (VI 52) (VI 53) (VI 54) (VI 55) (FI 24) (FI 0) (FI 25) (FI 1) (VI 0) (VI 1) (VI 43) (FI 3) (FI 27) (VI 2) (VI 3) (VI 45) (FI 4) (FI 28) (VI 4) (VI 5) (VI 47) (FI 5) (FI 29) (VI 6) (VI 7) (VI 49) (FI 6) (FI 30) (VI 8) (VI 9) (VI 51) (FI 7) (FI 31) (VI 38) (VI 39) (VI 40) (VI 41) (FI 16) (FI 17) (VI 29) (FI 19) (VI 31) (FI 20) (VI 33) (FI 21) (VI 35) (FI 22) (VI 37) (FI 23) (nI 1) = some (1, VI 62, VI 63, VI 64, VI 52, VI 53, VI 54, VI 55, va_cpy (FI 24) (FI 0) 0 0 12, va_cpy (FI 25) (FI 1) 0 0 6, VI 43, va_cpy (FI 27) (FI 3) 0 0 30, VI 45, va_cpy (FI 28) (FI 4) 0 0 30, VI 47, va_cpy (FI 29) (FI 5) 0 0 30, VI 49, va_cpy (FI 30) (FI 6) 0 0 30, VI 51, va_cpy (FI 31) (FI 7) 0 0 30) := by
          unfold m_X11_from
          rw [q_call (within_ok _ _ _), e', if_neg one_ne0, q_at (by omega) (by omega), if_neg hz2, k2_1, q_call hb]
        refine ⟨_, _, hx, fromR_ok (FI 48) (FI 60) (FI 61) (FI 49) (i := 1) (by omega) hz, rfl, ?_⟩
        refine rel_from1 h h1 (fun j j1 j2 => ?_) (fun j j1 => ?_) (fun j => rfl) rfl rfl rfl rfl rfl (fun k hk => cpy_in0 hk) (fun k hk => cpy_in0 hk) (fun k hk => cpy_in0 hk) (fun k hk => cpy_in0 hk) (fun k hk => cpy_in0 hk) (fun k hk => cpy_in0 hk) (fun k hk => cpy_in0 hk) rfl rfl rfl rfl rfl rfl rfl rfl rfl rfl
        · repeat (first | refine up_or rfl (fun _ => ?_) | rw [up_ne (by omega)])
          try rfl
        · repeat (first | refine up_or rfl (fun _ => ?_) | rw [up_ne (by omega)])
          try rfl
