-- fewest
section FE
variable {F : Nat → Nat → Int32} {V n : Nat → Int32} {Mu : Nat → Nat} {le fb sh wr wy re la yt : Nat → Int32} {wv : Nat → Nat}
theorem find_sim (h : relL F V n) (hE : relE F V n) (hB : relB n (Mu (nv (n 53)))) (hU : relU F V n Mu) (hfb : fbOk n (Mu (nv (n 53))) le fb) (hsh : ∀ t, t < 2 ^ nv (n 50) → sh t = nI (shN n t (nv (n 50)))) {s k' l0 : Nat} (hs : s < 2 ^ nv (n 50)) (hre : re s = nI (shN n s (nv (n 50)))) (hsE : shN n s (nv (n 50)) ≤ nv (n 78)) (hla : ∀ l, l < nv (n 50) → cf n (Mu (nv (n 53))) s l = true → lB la yt (s + 2 ^ l)) (hls : la s = nI (k' + 1)) (hys : yt s = nI (k' + 1)) (hk : k' ≤ 8) (hl0 : l0 < nv (n 50)) (hc0 : cf n (Mu (nv (n 53))) s l0 = true) (hq : la (s + 2 ^ l0) = nI k') (k57 : (Nat → Int32) → (Nat → Int32) → (Nat → Int32) → (Nat → Int32) → Int32 → Int32 → Int32 → Int32 → Option (Int32 × (Nat → Int32) × (Nat → Int32) × (Nat → Int32) × (Nat → Int32))) (r : Nat → Int32) (x1 x4 : Int32) : ∀ (m l fu fu2 : Nat), l + m = l0 → m < fu → m < fu2 → ∃ l1, l1 < nv (n 50) ∧ cf n (Mu (nv (n 53))) s l1 = true ∧ la (s + 2 ^ l1) = nI k' ∧ yt (s + 2 ^ l1) = nI k' ∧ m_X6_firstBehind_L2 fb re la fu (nI s) (nI l) = some (nI l1) ∧ m_X12_fewest_L65 n k57 fu2 r sh wr yt x1 (nI s) (nI l) x4 = k57 r sh wr yt x1 (nI (s + 2 ^ l1)) (nI l1) (x4 + 1)
  | m, l, 0, _, _, h0, _ => absurd h0 (Nat.not_lt_zero m)
  | m, l, _ + 1, 0, _, _, h0 => absurd h0 (Nat.not_lt_zero m)
  | m, l, fu + 1, fu2 + 1, e, hfu, hfu2 => by
    have h9 := h.2.1.1
    obtain ⟨p1, p2, p3⟩ := pow_is (nv (n 50)) h9
    have hs256 : s < 256 := by omega
    have hl : l < nv (n 50) := by omega
    have next : l ≠ l0 → ∃ l1, l1 < nv (n 50) ∧ cf n (Mu (nv (n 53))) s l1 = true ∧ la (s + 2 ^ l1) = nI k' ∧ yt (s + 2 ^ l1) = nI k' ∧ m_X6_firstBehind_L2 fb re la fu (nI s) (nI (l + 1)) = some (nI l1) ∧ m_X12_fewest_L65 n k57 fu2 r sh wr yt x1 (nI s) (nI (l + 1)) x4 = k57 r sh wr yt x1 (nI (s + 2 ^ l1)) (nI l1) (x4 + 1) := by
      intro hne
      cases m with
      | zero => omega
      | succ m' => exact find_sim h hE hB hU hfb hsh hs hre hsE hla hls hys hk hl0 hc0 hq k57 r x1 x4 m' (l + 1) fu fu2 (by omega) (by omega) (by omega)
    rw [m_X6_firstBehind_L2, m_X12_fewest_L65, if_neg (show ¬ (8 : Int32) ≤ nI l from nI_ge (b := 8) (by omega) (by omega)), q_call (folX hE hs256 (by omega) hfb hre hsE), q_call (folR h hE hB hU hs256 hl (hsh s hs)), if_pos hl, nI_1 l]
    by_cases hcf : cf n (Mu (nv (n 53))) s l = true
    · obtain ⟨c1, c2, c3⟩ := cf_bit hcf
      obtain ⟨a1, a2, a3, a4⟩ := bit_add s hs256 l (by omega) c1
      rw [b2_t hcf, if_neg one_ne0, if_neg one_ne0, a2, q_at a1 (by omega), q_at hs256 (by omega), q_at a1 (by omega), q_at hs256 (by omega), hls, hys, nI_pred]
      rcases hla l hl hcf with ⟨l1, l2⟩ | ⟨k2, l3, l1, l2⟩
      · rw [if_neg (show ¬ la (s + 2 ^ l) = nI k' from fun q => nI_nn (k := k') (by omega) (z := -1) (by decide) (q.symm.trans l1)), l2, nI_1, if_neg (show ¬ nI (1000000 + 1) = nI (k' + 1) from fun q => by have := (nI_eq (by omega) (by omega)).mp q; omega), q_let, q_let]
        refine next (fun q => ?_)
        rw [q, hq] at l1
        exact nI_nn (by omega) (by decide) l1
      · by_cases hkk : k2 = k'
        · subst hkk
          refine ⟨l, hl, hcf, l1, l2, ?_, ?_⟩
          · rw [if_pos l1]
          · rw [l2, nI_1, if_pos rfl, q_let, q_let]
        · rw [if_neg (show ¬ la (s + 2 ^ l) = nI k' from fun q => hkk ((nI_eq (by omega) (by omega)).mp (l1.symm.trans q))), l2, nI_1, if_neg (show ¬ nI (k2 + 1) = nI (k' + 1) from fun q => hkk (by have := (nI_eq (by omega) (by omega)).mp q; omega)), q_let, q_let]
          refine next (fun q => ?_)
          rw [q, hq] at l1
          exact hkk ((nI_eq (by omega) (by omega)).mp l1).symm
    · rw [b2_f hcf, if_pos rfl, if_pos rfl, q_let, q_let]
      refine next (fun q => hcf ?_)
      rw [q]
      exact hc0
theorem row_sim (h : relL F V n) (hE : relE F V n) (hB : relB n (Mu (nv (n 53)))) (hU : relU F V n Mu) (hfb : fbOk n (Mu (nv (n 53))) le fb) (hsh : ∀ t, t < 2 ^ nv (n 50) → sh t = nI (shN n t (nv (n 50)))) (hR : wR n (Mu (nv (n 53))) (2 ^ nv (n 50)) 0 wy re wr wv) (hlR : ∀ t, t < 2 ^ nv (n 50) → 0 < wv t → lR n (Mu (nv (n 53))) la yt t) (r : Nat → Int32) {i : Nat} (hi : i < 8) : ∀ (m j fu fu2 s k : Nat) (x x' : Int32), j + m = i + 1 → m < fu → m < fu2 → s < 2 ^ nv (n 50) → 0 < wv s → la s = nI k → yt s = nI k → m ≤ k → k ≤ 8 → (m = 0 → x = x') → ∃ y, m_X6_inFirstRow_L7 fb re la fu (nI i) (nI s) x (nI j) = some y ∧ m_X12_fewest_L57 n fu2 r sh wr yt (nI i) (nI s) x' (nI j) = some (y, r, sh, wr, yt)
  | m, j, 0, _, s, k, x, x', _, h0, _, _, _, _, _, _, _, _ => absurd h0 (Nat.not_lt_zero m)
  | m, j, _ + 1, 0, s, k, x, x', _, _, h0, _, _, _, _, _, _, _ => absurd h0 (Nat.not_lt_zero m)
  | 0, j, fu + 1, fu2 + 1, s, k, x, x', e, _, _, hs, hp, hls, hys, hmk, hk8, hx => by
    refine ⟨x, ?_, ?_⟩
    · rw [m_X6_inFirstRow_L7, if_pos (nI_lt (by omega) (by omega))]
    · rw [m_X12_fewest_L57, if_pos (nI_lt (by omega) (by omega)), hx rfl]
  | m + 1, j, fu + 1, fu2 + 1, s, k, x, x', e, hfu, hfu2, hs, hp, hls, hys, hmk, hk8, hx => by
    have h9 := h.2.1.1
    obtain ⟨p1, p2, p3⟩ := pow_is (nv (n 50)) h9
    have hs256 : s < 256 := by omega
    obtain ⟨r1, r2⟩ := hR.2.2.2.1 s hs256 hp
    have hla : ∀ l, l < nv (n 50) → cf n (Mu (nv (n 53))) s l = true → lB la yt (s + 2 ^ l) := fun l hl hcf => by
      obtain ⟨c1, c2, c3⟩ := cf_bit hcf
      exact lR_B (hlR _ (lt_add hs (by omega) hl c1) (hR.2.2.2.2.2 s l (Or.inl hs) hs256 hl hp hcf))
    have hw : ∃ k' l, k = k' + 1 ∧ l < nv (n 50) ∧ cf n (Mu (nv (n 53))) s l = true ∧ la (s + 2 ^ l) = nI k' ∧ yt (s + 2 ^ l) = nI k' := by
      rcases hlR s hs hp with ⟨q1, q2⟩ | ⟨k1, q0, q1, q2, q3⟩
      · rw [hls] at q1
        exact absurd q1 (nI_nn (by omega) (by decide))
      · have ek : k1 = k := (nI_eq (by omega) (by omega)).mp (q1.symm.trans hls)
        subst ek
        rcases q3 with q3 | q3
        · omega
        · exact q3
    obtain ⟨k', l0, rfl, hl0, hc0, hq, hq2⟩ := hw
    obtain ⟨l1, g1, g2, g3, g4, g5, g6⟩ := find_sim (wr := wr) (l0 := l0) h hE hB hU hfb hsh hs r1 r2 hla hls hys (by omega) hl0 hc0 hq (m_X12_fewest_L57 n fu2) r (nI i) (nI j) l0 0 mFU mFU (by omega) (by unfold mFU; omega) (by unfold mFU; omega)
    obtain ⟨c1, c2, c3⟩ := cf_bit g2
    obtain ⟨a1, a2, a3, a4⟩ := bit_add s hs256 l1 (by omega) c1
    rw [m_X6_inFirstRow_L7, m_X12_fewest_L57, if_neg (nI_nlt (by omega) (by omega)), if_neg (nI_nlt (by omega) (by omega)), if_neg (show ¬ (8 : Int32) ≤ nI j from nI_ge (b := 8) (by omega) (by omega)), q_call (show m_X6_firstBehind fb re la (nI s) = some (nI l1) from g5), if_neg (nI_nn (by omega) (by decide)), a2, q_let, q_let, show m_X12_fewest_L65 n (m_X12_fewest_L57 n fu2) mFU r sh wr yt (nI i) (nI s) (0 : Int32) (nI j) = _ from g6, nI_1]
    exact row_sim h hE hB hU hfb hsh hR hlR r hi m (j + 1) fu fu2 (s + 2 ^ l1) k' (nI l1) (nI l1) (by omega) (by omega) (by omega) (lt_add hs (by omega) g1 c1) (hR.2.2.2.2.2 s l1 (Or.inl hs) hs256 g1 hp g2) g3 g4 (by omega) (by omega) (fun _ => rfl)
end FE
theorem o_fewest : opSpec_fewest Rel := by
  intro FI FL VI VL a1 h
  have hw := h.1.2.1
  have hL := h.1.2.2.2.1
  obtain ⟨Mu, hB, hU⟩ := h.1.2.2.2.2.1
  have hE := h.1.2.2.2.2.2.2.1
  have h9 := hL.2.1.1
  obtain ⟨p1, p2, p3⟩ := pow_is _ h9
  by_cases hm : (-1 : Int32) ≤ a1
  · obtain ⟨sw, le, fb, wy, re, sh, wr, wv, w1, w2, w3, w4, w5⟩ := ways_ok hw hL hE hB hU (FI 2) (FI 34) (FI 35) (FI 36) (FI 37) (FI 53) (FI 54) (FI 55)
    obtain ⟨la, yt, b1, b3, b4⟩ := la_ok hL hE hB hU w3 w4 w5 (FI 38) (FI 55)
    have fin : ∀ y : Int32, m_X6_ofFewest (FI 38) wy re fb (VI 5) a1 = some (y, la) → m_X12_fewest (FI 48) (FI 49) (FI 53) (FI 54) (FI 55) a1 = some (y, FI 48, sh, wr, yt) → ∃ (rx : Int32 × (Int32) × (Nat → Int32) × (Nat → Int32) × (Nat → Int32) × (Nat → Int32) × (Nat → Int32) × (Nat → Int32)) (rm : Int32 × (Nat → Int32) × (Nat → Int32) × (Nat → Int32) × (Nat → Int32)), m_X11_fewest (VI 62) (VI 10) (VI 1) (FI 3) (FI 2) (FI 0) (FI 34) (VI 5) (FI 5) (FI 35) (FI 36) (FI 37) (FI 38) a1 = some rx ∧ m_X12_fewest (FI 48) (FI 49) (FI 53) (FI 54) (FI 55) a1 = some rm ∧ rx.1 = rm.1 ∧ Rel (va_up (va_up (va_up (va_up (va_up (va_up (va_up (va_up (va_up (va_up FI 2 rx.2.2.1) 34 rx.2.2.2.1) 35 rx.2.2.2.2.1) 36 rx.2.2.2.2.2.1) 37 rx.2.2.2.2.2.2.1) 38 rx.2.2.2.2.2.2.2) 48 rm.2.1) 53 rm.2.2.1) 54 rm.2.2.2.1) 55 rm.2.2.2.2) FL (va_up VI 62 rx.2.1) VL := by
      intro y q1 q2
      have hx : m_X11_fewest (VI 62) (VI 10) (VI 1) (FI 3) (FI 2) (FI 0) (FI 34) (VI 5) (FI 5) (FI 35) (FI 36) (FI 37) (FI 38) a1 = some (y, VI 62, sw, le, fb, wy, re, la) := by
        unfold m_X11_fewest
        rw [if_pos hm, q_call w1, q_call q1]
      refine ⟨_, _, hx, q2, rfl, rel_wk h (fun j j2 j3 j4 j5 => ?_) (fun j j1 j2 => ?_) (fun j _ => rfl)⟩
      · repeat (first | refine up_or rfl (fun _ => ?_) | rw [up_ne (by omega)])
      · exact congrFun (up_id VI 62) j
    have l0 := b4 0 (by omega) w5.2.2.2.2.1
    rcases l0 with ⟨q1, q2⟩ | ⟨k, k0, q1, q2, _⟩
    · refine fin (-5) ?_ ?_
      · unfold m_X6_ofFewest
        rw [q_call b1, show mRd la 256 (0 : Int32) = mRd la 256 (nI 0) from rfl, q_at (by omega) (by omega), if_pos q1]
      · unfold m_X12_fewest
        rw [if_pos hm, q_call (Eq.trans w2 b3), show mRd (sh, wr, yt).2.2 256 (0 : Int32) = mRd yt 256 (nI 0) from rfl, q_at (by omega) (by omega), q2, if_pos (by decide)]
    · have hX : m_X6_ofFewest (FI 38) wy re fb (VI 5) a1 = if a1 < nI k then (if a1 = (-1 : Int32) then some (nI k, la) else mCall (m_X6_inFirstRow fb re la a1) (fun (r3 : Int32) => some (r3, la))) else some (-5, la) := by
        unfold m_X6_ofFewest
        rw [q_call b1, show mRd la 256 (0 : Int32) = mRd la 256 (nI 0) from rfl, q_at (by omega) (by omega), q1, if_neg (nI_nn (by omega) (by decide))]
      have hM : m_X12_fewest (FI 48) (FI 49) (FI 53) (FI 54) (FI 55) a1 = if a1 < nI k then (if a1 = (-1 : Int32) then some (nI k, FI 48, sh, wr, yt) else m_X12_fewest_L57 (FI 49) mFU (FI 48) sh wr yt a1 (0 : Int32) (0 : Int32) (0 : Int32)) else some (-5, FI 48, sh, wr, yt) := by
        unfold m_X12_fewest
        rw [if_pos hm, q_call (Eq.trans w2 b3), show mRd (sh, wr, yt).2.2 256 (0 : Int32) = mRd yt 256 (nI 0) from rfl, q_at (by omega) (by omega), q2, if_neg (show ¬ (1000000 : Int32) ≤ nI k from nI_ge (b := 1000000) (by omega) (by omega)), q_at (by omega) (by omega), q2, q_at (by omega) (by omega), q2]
      by_cases hlt : a1 < nI k
      · rw [if_pos hlt] at hX hM
        by_cases hx1 : a1 = -1
        · rw [if_pos hx1] at hX hM
          exact fin (nI k) hX hM
        · rw [if_neg hx1] at hX hM
          have hpos : ¬ a1 < 0 := fun q => by
            have t1 := Int32.le_iff_toInt_le.mp hm
            have t2 := Int32.lt_iff_toInt_lt.mp q
            have t3 : (-1 : Int32).toInt = -1 := by decide
            have t4 : (0 : Int32).toInt = 0 := by decide
            exact hx1 (Int32.toInt_inj.mp (by omega))
          obtain ⟨i, hi, rfl⟩ := nI_of hpos
          have hik : i < k := (nI_ltI (by omega) (by omega)).mp hlt
          obtain ⟨y, y1, y2⟩ := row_sim hL hE hB hU w3 w4 w5 b4 (FI 48) (i := i) (by omega) (i + 1) 0 mFU mFU 0 k (-1) 0 (by omega) (by unfold mFU; omega) (by unfold mFU; omega) (by omega) w5.2.2.2.2.1 q1 q2 (by omega) (by omega) (fun q => by omega)
          refine fin y ?_ ?_
          · rw [hX]
            unfold m_X6_inFirstRow
            rw [q_call (show m_X6_inFirstRow_L7 fb re la mFU (nI i) (0 : Int32) (-1 : Int32) (0 : Int32) = some y from y1)]
          · rw [hM]
            exact y2
      · rw [if_neg hlt] at hX hM
        exact fin (-5) hX hM
  · refine ⟨(-10, VI 62 + 1, FI 2, FI 34, FI 35, FI 36, FI 37, FI 38), (-10, upd (FI 48) 0 (FI 48 0 + 1), FI 53, FI 54, FI 55), ?_, ?_, rfl, ?_⟩
    · unfold m_X11_fewest; rw [if_neg hm, q_call (badIndex_ok _)]
    · unfold m_X12_fewest; rw [if_neg hm, q_call (wrong_ok _)]
    · refine rel_eq (rel_bad h) (fun j => ?_) (fun j => ?_) (fun j => rfl)
      · repeat (refine up_or rfl (fun _ => ?_))
        exact (up_ne ‹j ≠ 48›).symm
      · rfl
