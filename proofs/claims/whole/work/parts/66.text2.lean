-- read: an item of both
theorem wd_ne {wx w : Int32} (h : wdR wx w) : ¬ w = 3 ∧ ¬ w = 2 ∧ ¬ w = 0 := by
  rcases h with ⟨_, h⟩ | ⟨_, h⟩ | ⟨_, h⟩ | ⟨_, h⟩ | ⟨_, h⟩ <;> rw [h] <;> decide
def tiR (S i cnt : Nat) (wd : Int32) (rx : Int32 × (Int32) × (Int32) × (Int32) × (Nat → Int32)) (rm : Int32 × (Int32) × (Int32) × (Int32) × (Int32) × (Int32) × (Nat → Int32)) : Prop := rm.2.2.2.2.2.1 = wd ∧ ((rx.1 = 0 ∧ rm.1 = 0 ∧ ∃ a, a ≤ S ∧ rx.2.2.1 = nI a ∧ rm.2.1 = nI a) ∨ (rx.1 = 1 ∧ rm.1 = 1 ∧ ∃ e, i < e ∧ e ≤ S ∧ rx.2.1 = nI e ∧ rm.2.2.1 = nI e ∧ ∀ j, j < cnt → rx.2.2.2.2 j = rm.2.2.2.2.2.2 j))
section RD
variable {S : Nat} {fb ft : Nat → Int32}
theorem take_sim (h : txR S fb ft) {w cnt : Nat} (hw : w < 4) (hc : sNumL.getD w 0 = nI cnt) (hc3 : cnt ≤ 3) (wd : Int32) : ∀ (m k fu fu2 i : Nat) (st v ta tk vr : Int32) (nu nr : Nat → Int32), k + m = cnt → m < fu → m < fu2 → i ≤ S → (∀ j, j < k → nu j = nr j) → ∃ rx rm, m_X10_takeItem_L16 (nI S) fb fu (nI i) st v nu (nI w) (nI k) = some rx ∧ m_X12_reads_L102 (nI S) ft fu2 ta (nI i) tk vr wd nr (nI cnt) (nI k) = some rm ∧ tiR S i cnt wd rx rm
  | m, k, 0, _, i, st, v, ta, tk, vr, nu, nr, _, h0, _, _, _ => absurd h0 (Nat.not_lt_zero m)
  | m, k, _ + 1, 0, i, st, v, ta, tk, vr, nu, nr, _, _, h0, _, _ => absurd h0 (Nat.not_lt_zero m)
  | 0, k, fu + 1, fu2 + 1, i, st, v, ta, tk, vr, nu, nr, e, _, _, hi, hn => by
    obtain ⟨rx, x1, x2⟩ := tok_sim h hi st v
    obtain ⟨rm, m1, m2⟩ := x2 ta (nI i) tk vr
    have hle : nI cnt ≤ nI k := nI_le (by omega) (by omega)
    rw [m_X10_takeItem_L16, m_X12_reads_L102, q_at hw (by omega), hc, if_pos hle, if_pos hle]
    unfold m_X10_takeItem_B60
    rw [q_call x1, q_call m1]
    obtain ⟨a, a1, a2, a3, a4, a5⟩ := m2
    have bad : ¬ rx.1 = 2 → ¬ rm.2.2.1 = 3 → ∃ rx' rm', (if rx.1 = (2 : Int32) then some ((1 : Int32), rx.2.1, rx.2.2.1, rx.2.2.2, nu) else some ((0 : Int32), rx.2.1, rx.2.2.1, rx.2.2.2, nu)) = some rx' ∧ (if rm.2.2.1 = (3 : Int32) then some ((1 : Int32), rm.1, rm.2.1, rm.2.2.1, rm.2.2.2, wd, nr) else some ((0 : Int32), rm.1, rm.2.1, rm.2.2.1, rm.2.2.2, wd, nr)) = some rm' ∧ tiR S i cnt wd rx' rm' := fun q1 q2 => ⟨_, _, if_neg q1, if_neg q2, rfl, Or.inl ⟨rfl, rfl, a, a2, a3, a4⟩⟩
    rcases a5 with ⟨c1, c2⟩ | ⟨c1, c2⟩ | ⟨e', e1, e2, e3, e4, c⟩
    · exact bad (by rw [c1]; decide) (by rw [c2]; decide)
    · exact bad (by rw [c1]; decide) (by rw [c2]; decide)
    · rcases c with ⟨c1, wx, _, c2⟩ | ⟨c1, c2, _⟩ | ⟨c1, c2⟩
      · exact bad (by rw [c1]; decide) (wd_ne c2).1
      · exact bad (by rw [c1]; decide) (by rw [c2]; decide)
      · exact ⟨_, _, if_pos c1, if_pos c2, rfl, Or.inr ⟨rfl, rfl, e', by omega, e2, e3, e4, fun j hj => hn j (by omega)⟩⟩
  | m + 1, k, fu + 1, fu2 + 1, i, st, v, ta, tk, vr, nu, nr, e, hfu, hfu2, hi, hn => by
    obtain ⟨rx, x1, x2⟩ := tok_sim h hi st v
    obtain ⟨rm, m1, m2⟩ := x2 ta (nI i) tk vr
    have hle : ¬ nI cnt ≤ nI k := nI_ge (by omega) (by omega)
    rw [m_X10_takeItem_L16, m_X12_reads_L102, q_at hw (by omega), hc, if_neg hle, if_neg hle, if_neg (show ¬ (3 : Int32) ≤ nI k from nI_ge (b := 3) (by omega) (by omega)), q_call x1, q_call m1]
    obtain ⟨a, a1, a2, a3, a4, a5⟩ := m2
    have bad : ¬ rx.1 = 1 → ¬ rm.2.2.1 = 2 → ∃ rx' rm', (if rx.1 = (1 : Int32) then mWr nu 3 (nI k) rx.2.2.2 (fun (f3 : Nat → Int32) => mLet (nI k + (1 : Int32)) (fun (t4 : Int32) => m_X10_takeItem_L16 (nI S) fb fu rx.2.1 rx.2.2.1 rx.2.2.2 f3 (nI w) t4)) else some ((0 : Int32), rx.2.1, rx.2.2.1, rx.2.2.2, nu)) = some rx' ∧ (if rm.2.2.1 = (2 : Int32) then mWr nr 3 (nI k) rm.2.2.2 (fun (f3 : Nat → Int32) => mLet (nI k + (1 : Int32)) (fun (t4 : Int32) => m_X12_reads_L102 (nI S) ft fu2 rm.1 rm.2.1 rm.2.2.1 rm.2.2.2 wd f3 (nI cnt) t4)) else some ((0 : Int32), rm.1, rm.2.1, rm.2.2.1, rm.2.2.2, wd, nr)) = some rm' ∧ tiR S i cnt wd rx' rm' := fun q1 q2 => ⟨_, _, if_neg q1, if_neg q2, rfl, Or.inl ⟨rfl, rfl, a, a2, a3, a4⟩⟩
    rcases a5 with ⟨c1, c2⟩ | ⟨c1, c2⟩ | ⟨e', e1, e2, e3, e4, c⟩
    · exact bad (by rw [c1]; decide) (by rw [c2]; decide)
    · exact bad (by rw [c1]; decide) (by rw [c2]; decide)
    · rcases c with ⟨c1, wx, _, c2⟩ | ⟨c1, c2, c3⟩ | ⟨c1, c2⟩
      · exact bad (by rw [c1]; decide) (wd_ne c2).2.1
      · rw [if_pos c1, if_pos c2, q_wr (by omega) (by omega), q_wr (by omega) (by omega), nI_1, q_let, q_let, e3, e4]
        obtain ⟨rx2, rm2, g1, g2, g3, g4⟩ := take_sim h hw hc hc3 wd m (k + 1) fu fu2 e' rx.2.2.1 rx.2.2.2 rm.1 rm.2.2.1 rm.2.2.2 (upd nu k rx.2.2.2) (upd nr k rm.2.2.2) (by omega) (by omega) (by omega) e2 (fun j hj => by
          by_cases hjk : j = k
          · rw [hjk, upd_eq, upd_eq]; exact c3
          · rw [upd_ne hjk, upd_ne hjk]; exact hn j (by omega))
        refine ⟨rx2, rm2, g1, g2, g3, ?_⟩
        rcases g4 with g4 | ⟨b1, b3, e2', b4, b5⟩
        · exact Or.inl g4
        · exact Or.inr ⟨b1, b3, e2', by omega, b5⟩
      · exact bad (by rw [c1]; decide) (by rw [c2]; decide)
end RD
-- the pit that is told
def tF (G : Nat → Nat → Int32) (w p lc : Nat → Int32) : Nat → Nat → Int32 := va_up (va_up (va_up G 0 w) 1 p) 3 lc
def tV (U : Nat → Int32) (s1 s3 : Int32) : Nat → Int32 := va_up (va_up U 1 s1) 3 s3
theorem tF_0 (G : Nat → Nat → Int32) (w p lc w' : Nat → Int32) (j : Nat) : tF G w' p lc j = va_up (tF G w p lc) 0 w' j := by
  unfold tF va_up
  by_cases h0 : j = 0
  · subst h0; rfl
  · simp [h0]
theorem tF_1 (G : Nat → Nat → Int32) (w p lc p' : Nat → Int32) (j : Nat) : tF G w p' lc j = va_up (tF G w p lc) 1 p' j := by
  unfold tF va_up
  by_cases h0 : j = 1
  · subst h0; rfl
  · simp [h0]
section AP
variable {G : Nat → Nat → Int32} {U : Nat → Int32} {w p lc t nu nr : Nat → Int32} {s1 s3 : Int32}
/-- an item is told to both -/
theorem apply_sim (hU : U 0 = 8) (hP : relP (tF G w p lc) (tV U s1 s3) t) {wx cnt : Nat} {wd : Int32} (hww : (wx = 0 ∧ wd = 4 ∧ cnt = 0) ∨ (wx = 1 ∧ wd = 5 ∧ cnt = 2) ∨ (wx = 2 ∧ wd = 6 ∧ cnt = 2) ∨ (wx = 3 ∧ wd = 7 ∧ cnt = 3)) (hn : ∀ j, j < cnt → nu j = nr j) : ∃ (y s1' s3' : Int32) (lc' p' w' t' : Nat → Int32), m_X10_apply nu (U 0) s1 s3 lc p w (nI wx) = some (y, s1', s3', lc', p', w') ∧ ((0 ≤ y ∧ m_X12_isRefused wd nr t = some (0, t')) ∨ (¬ 0 ≤ y ∧ m_X12_isRefused wd nr t = some (1, t'))) ∧ relP (tF G w' p' lc') (tV U s1' s3') t' := by
  unfold m_X10_apply m_X12_isRefused
  rcases hww with ⟨rfl, rfl, rfl⟩ | ⟨rfl, rfl, rfl⟩ | ⟨rfl, rfl, rfl⟩ | ⟨rfl, rfl, rfl⟩
  · exact ⟨0, s1, s3, lc, p, w, t, rfl, Or.inl ⟨by decide, rfl⟩, hP⟩
  · rw [if_pos (by decide), if_pos rfl, show mRd nu 3 (0 : Int32) = mRd nu 3 (nI 0) from rfl, q_at (by omega) (by omega), show mRd nu 3 (1 : Int32) = mRd nu 3 (nI 1) from rfl, q_at (by omega) (by omega), show mRd nr 3 (0 : Int32) = mRd nr 3 (nI 0) from rfl, q_at (by omega) (by omega), show mRd nr 3 (1 : Int32) = mRd nr 3 (nI 1) from rfl, q_at (by omega) (by omega), hn 0 (by omega), hn 1 (by omega)]
    generalize nr 0 = a1
    generalize nr 1 = a2
    have bad : m_X4_setWeather w a1 a2 = some (-2, w) → m_X12_layerOn t a1 a2 = some (-2, t) → ∃ (y s1' s3' : Int32) (lc' p' w' t' : Nat → Int32), mCall (m_X4_setWeather w a1 a2) (fun (r3 : Int32 × (Nat → Int32)) => some (r3.1, s1, s3, lc, p, r3.2)) = some (y, s1', s3', lc', p', w') ∧ ((0 ≤ y ∧ mCall (m_X12_layerOn t a1 a2) (fun (r3 : Int32 × (Nat → Int32)) => if 0 ≤ r3.1 then some ((0 : Int32), r3.2) else some ((1 : Int32), r3.2)) = some (0, t')) ∨ (¬ 0 ≤ y ∧ mCall (m_X12_layerOn t a1 a2) (fun (r3 : Int32 × (Nat → Int32)) => if 0 ≤ r3.1 then some ((0 : Int32), r3.2) else some ((1 : Int32), r3.2)) = some (1, t'))) ∧ relP (tF G w' p' lc') (tV U s1' s3') t' := by
      intro q1 q2
      refine ⟨-2, s1, s3, lc, p, w, t, ?_, Or.inr ⟨by decide, ?_⟩, hP⟩
      · rw [q_call q1]
      · rw [q_call q2, if_neg (show ¬ (0 : Int32) ≤ -2 by decide)]
    rcases qIn_c a1 0 11 (by omega) (by omega) with e | ⟨e, k, _, hk, rfl⟩
    · exact bad (setW_b1 e) (layerOn_b1 e)
    · rcases qIn_c a2 0 5 (by omega) (by omega) with e2 | ⟨e2, j, _, hj, rfl⟩
      · exact bad (setW_b2 e e2) (layerOn_b2 e e2)
      · have hwk := hP.2.1 k (by omega)
        obtain ⟨v, hv, ev⟩ := sm_of hwk.2
        have ewk : w k = nI v := hwk.1.trans ev
        refine ⟨nI v, s1, s3, lc, p, upd w k (nI j), upd t k (nI j), ?_, Or.inl ⟨nI_pos' (by omega), ?_⟩, ?_⟩
        · rw [q_call (setW_ok (by omega) (by omega)), ewk]
        · rw [q_call (layerOn_ok (by omega) (by omega)), ev, if_pos (nI_pos' (by omega))]
        · exact relP_cc (relP_layer (k := k) (j := j) (by omega) (by omega) hP) (fun q _ _ => tF_0 G w p lc _ q) (fun _ _ => rfl) (fun _ _ => rfl)
  · rw [if_neg (by decide), if_pos (by decide), if_neg (by decide), if_pos rfl, show mRd nu 3 (0 : Int32) = mRd nu 3 (nI 0) from rfl, q_at (by omega) (by omega), show mRd nu 3 (1 : Int32) = mRd nu 3 (nI 1) from rfl, q_at (by omega) (by omega), show mRd nr 3 (0 : Int32) = mRd nr 3 (nI 0) from rfl, q_at (by omega) (by omega), show mRd nr 3 (1 : Int32) = mRd nr 3 (nI 1) from rfl, q_at (by omega) (by omega), hn 0 (by omega), hn 1 (by omega)]
    generalize nr 0 = a1
    generalize nr 1 = a2
    have bad : m_X4_setPrice p a1 a2 = some (-2, p) → m_X12_priceOn t a1 a2 = some (-2, t) → ∃ (y s1' s3' : Int32) (lc' p' w' t' : Nat → Int32), mCall (m_X4_setPrice p a1 a2) (fun (r3 : Int32 × (Nat → Int32)) => some (r3.1, s1, s3, lc, r3.2, w)) = some (y, s1', s3', lc', p', w') ∧ ((0 ≤ y ∧ mCall (m_X12_priceOn t a1 a2) (fun (r3 : Int32 × (Nat → Int32)) => if 0 ≤ r3.1 then some ((0 : Int32), r3.2) else some ((1 : Int32), r3.2)) = some (0, t')) ∨ (¬ 0 ≤ y ∧ mCall (m_X12_priceOn t a1 a2) (fun (r3 : Int32 × (Nat → Int32)) => if 0 ≤ r3.1 then some ((0 : Int32), r3.2) else some ((1 : Int32), r3.2)) = some (1, t'))) ∧ relP (tF G w' p' lc') (tV U s1' s3') t' := by
      intro q1 q2
      refine ⟨-2, s1, s3, lc, p, w, t, ?_, Or.inr ⟨by decide, ?_⟩, hP⟩
      · rw [q_call q1]
      · rw [q_call q2, if_neg (show ¬ (0 : Int32) ≤ -2 by decide)]
    rcases qIn_c a1 0 5 (by omega) (by omega) with e | ⟨e, k, _, hk, rfl⟩
    · exact bad (setP_b1 e) (priceOn_b1 e)
    · rcases qIn_c a2 0 9 (by omega) (by omega) with e2 | ⟨e2, j, _, hj, rfl⟩
      · exact bad (setP_b2 e e2) (priceOn_b2 e e2)
      · have hwk := hP.2.2.1 k (by omega)
        obtain ⟨v, hv, ev⟩ := sm_of hwk.2
        have ewk : p k = nI v := hwk.1.trans ev
        refine ⟨nI v, s1, s3, lc, upd p k (nI j), w, upd t (12 + k) (nI j), ?_, Or.inl ⟨nI_pos' (by omega), ?_⟩, ?_⟩
        · rw [q_call (setP_ok (by omega) (by omega)), ewk]
        · rw [q_call (priceOn_ok (by omega) (by omega)), ev, if_pos (nI_pos' (by omega))]
        · exact relP_cc (relP_price (k := k) (j := j) (by omega) (by omega) hP) (fun q _ _ => tF_1 G w p lc _ q) (fun _ _ => rfl) (fun _ _ => rfl)
  · rw [if_neg (by decide), if_neg (by decide), if_pos (by decide), if_neg (by decide), if_neg (by decide), if_pos rfl, show mRd nu 3 (0 : Int32) = mRd nu 3 (nI 0) from rfl, q_at (by omega) (by omega), show mRd nu 3 (1 : Int32) = mRd nu 3 (nI 1) from rfl, q_at (by omega) (by omega), show mRd nu 3 (2 : Int32) = mRd nu 3 (nI 2) from rfl, q_at (by omega) (by omega), show mRd nr 3 (0 : Int32) = mRd nr 3 (nI 0) from rfl, q_at (by omega) (by omega), show mRd nr 3 (1 : Int32) = mRd nr 3 (nI 1) from rfl, q_at (by omega) (by omega), show mRd nr 3 (2 : Int32) = mRd nr 3 (nI 2) from rfl, q_at (by omega) (by omega), hn 0 (by omega), hn 1 (by omega), hn 2 (by omega)]
    generalize nr 0 = a1
    generalize nr 1 = a2
    generalize nr 2 = a3
    have hL := hP.2.2.2.1
    obtain ⟨N, hN, eN⟩ := sm_of hL.2.1
    have ev : s1 = nI N := hL.1.trans eN
    have lim : U 0 = nI 8 := hU
    rcases lump_cases a1 a2 a3 with ⟨c1, c2⟩ | ⟨k, a, s, hk, hs, hs2, ha, rfl, rfl, rfl⟩
    · refine ⟨-2, s1, s3, lc, p, w, t, ?_, Or.inr ⟨by decide, ?_⟩, hP⟩
      · rw [q_call (lumpX_b c1)]
      · rw [q_call (lumpR_b c2), if_neg (show ¬ (0 : Int32) ≤ -2 by decide)]
    · by_cases hf : N = 8
      · subst hf
        refine ⟨-4, nI 8, s3, lc, p, w, t, ?_, Or.inr ⟨by decide, ?_⟩, by rw [← ev]; exact hP⟩
        · rw [lim, ev, q_call ((lumpX_ok hk hs hs2 ha (by omega)).trans (if_neg (by decide)))]
        · rw [q_call (lumpR_full eN hk hs hs2 ha), if_neg (show ¬ (0 : Int32) ≤ -4 by decide)]
      · refine ⟨nI N, nI (N + 1), 0, addF lc N (nI k) (nI a) (nI s), p, w, lumpF t N k a s, ?_, Or.inl ⟨nI_pos' (by omega), ?_⟩, ?_⟩
        · rw [lim, ev, q_call ((lumpX_ok hk hs hs2 ha (by omega)).trans ((if_pos (nI_lt (by omega) (by omega))).trans (q_call (add_ok (by omega) (by omega)))))]
          show some (nI (N + 1) - 1, nI (N + 1), (0 : Int32), addF lc N (nI k) (nI a) (nI s), p, w) = _
          rw [nI_pred]
        · rw [q_call (lumpR_ok eN (by omega) hk hs hs2 ha), if_pos (nI_pos' (by omega))]
        · refine relP_lump hP eN (by omega) hk hs hs2 ha (fun j hj j2 j3 j4 => ?_) rfl (fun j hj j1 j3 => ?_) rfl rfl
          · show va_up (va_up (va_up G 0 w) 1 p) 3 _ j = va_up (va_up (va_up G 0 w) 1 p) 3 lc j
            rw [up_ne j3, up_ne j3]
          · show va_up (va_up U 1 _) 3 _ j = va_up (va_up U 1 s1) 3 s3 j
            rw [up_ne j3, up_ne j3, up_ne j1, up_ne j1]
end AP
-- read: the loop of both
def rdR (G : Nat → Nat → Int32) (U now : Nat → Int32) (rx : Int32 × (Int32) × (Int32) × (Int32) × (Int32) × (Nat → Int32) × (Nat → Int32) × (Int32) × (Int32) × (Int32) × (Int32) × (Int32) × (Int32) × (Int32) × (Int32) × (Nat → Int32) × (Nat → Int32)) (rm : Int32 × (Int32) × (Int32) × (Int32) × (Int32) × (Int32) × (Nat → Int32) × (Nat → Int32) × (Nat → Int32)) : Prop := rx.1 = rm.1 ∧ (rx.2.1 = 0 ∧ rx.2.2.1 = 0 ∧ rx.2.2.2.1 = 0 ∧ rx.2.2.2.2.1 = 1 ∧ rx.2.2.2.2.2.2.2.2.2.1 = 0 ∧ rx.2.2.2.2.2.2.2.2.2.2.1 = 0 ∧ rx.2.2.2.2.2.2.2.2.2.2.2.1 = 0) ∧ ((rx.1 ≤ 0 ∧ rm.2.2.2.2.2.2.2.2 = now) ∨ (¬ rx.1 ≤ 0 ∧ relP (tF G rx.2.2.2.2.2.1 rx.2.2.2.2.2.2.1 rx.2.2.2.2.2.2.2.2.2.2.2.2.2.2.2.2) (tV U rx.2.2.2.2.2.2.2.1 rx.2.2.2.2.2.2.2.2.1) rm.2.2.2.2.2.2.2.2))
theorem neg10 : ∀ a, a < 151 → ((-10 : Int32) - nI a) ≤ 0 := by decide +kernel
theorem neg1000 : ∀ a, a < 151 → ((-1000 : Int32) - nI a) ≤ 0 := by decide +kernel
def refOk (x : Int32) : Prop := x = -1 ∨ ∃ r, r < 151 ∧ x = nI r
section LP
variable {S : Nat} {fb ft : Nat → Int32} {G : Nat → Nat → Int32} {U now : Nat → Int32}
/-- an item was read: both go on -/
def goR (S : Nat) (fb ft : Nat → Int32) (G : Nat → Nat → Int32) (U now : Nat → Int32) (kX : (Int32) → (Int32) → (Int32) → (Int32) → (Nat → Int32) → (Nat → Int32) → (Int32) → (Int32) → (Int32) → (Int32) → (Int32) → (Int32) → (Int32) → (Int32) → (Nat → Int32) → (Nat → Int32) → Int32 → Int32 → Int32 → Option (Int32 × (Int32) × (Int32) × (Int32) × (Int32) × (Nat → Int32) × (Nat → Int32) × (Int32) × (Int32) × (Int32) × (Int32) × (Int32) × (Int32) × (Int32) × (Int32) × (Nat → Int32) × (Nat → Int32))) (kR : (Int32) → (Int32) → (Int32) → (Int32) → (Int32) → (Nat → Int32) → (Nat → Int32) → (Nat → Int32) → Int32 → Int32 → Int32 → Int32 → Option (Int32 × (Int32) × (Int32) × (Int32) × (Int32) × (Int32) × (Nat → Int32) × (Nat → Int32) × (Nat → Int32))) (i k : Nat) (oX : Option (Int32 × (Int32) × (Int32) × (Int32) × (Int32) × (Nat → Int32) × (Nat → Int32) × (Int32) × (Int32) × (Int32) × (Int32) × (Int32) × (Int32) × (Int32) × (Int32) × (Nat → Int32) × (Nat → Int32))) (oR : Option (Int32 × (Int32) × (Int32) × (Int32) × (Int32) × (Int32) × (Nat → Int32) × (Nat → Int32) × (Nat → Int32))) : Prop := (∃ rx rm, oX = some rx ∧ oR = some rm ∧ rdR G U now rx rm) ∨ (∃ (i' : Nat) (w p lc t nu nr : Nat → Int32) (s1 s3 st v ref ta tk vr wd : Int32), i < i' ∧ i' ≤ S ∧ relP (tF G w p lc) (tV U s1 s3) t ∧ refOk ref ∧ oX = kX 0 0 0 1 w p s1 s3 0 0 0 (nI i') st v nu lc (nI (k + 1)) ref (nI (k + 1)) ∧ oR = m_X12_read_B67 (nI S) ft kR ta (nI i') tk vr wd t nr now (nI k) ref)
theorem good_sim (h : txR S fb ft) (hU : U 0 = 8) (kX : (Int32) → (Int32) → (Int32) → (Int32) → (Nat → Int32) → (Nat → Int32) → (Int32) → (Int32) → (Int32) → (Int32) → (Int32) → (Int32) → (Int32) → (Int32) → (Nat → Int32) → (Nat → Int32) → Int32 → Int32 → Int32 → Option (Int32 × (Int32) × (Int32) × (Int32) × (Int32) × (Nat → Int32) × (Nat → Int32) × (Int32) × (Int32) × (Int32) × (Int32) × (Int32) × (Int32) × (Int32) × (Int32) × (Nat → Int32) × (Nat → Int32))) (kR : (Int32) → (Int32) → (Int32) → (Int32) → (Int32) → (Nat → Int32) → (Nat → Int32) → (Nat → Int32) → Int32 → Int32 → Int32 → Int32 → Option (Int32 × (Int32) × (Int32) × (Int32) × (Int32) × (Int32) × (Nat → Int32) × (Nat → Int32) × (Nat → Int32))) {w p lc t nu nr : Nat → Int32} {s1 s3 ref : Int32} (hP : relP (tF G w p lc) (tV U s1 s3) t) (hr : refOk ref) {i e k wx cnt : Nat} {wd : Int32} (hww : (wx = 0 ∧ wd = 4 ∧ cnt = 0) ∨ (wx = 1 ∧ wd = 5 ∧ cnt = 2) ∨ (wx = 2 ∧ wd = 6 ∧ cnt = 2) ∨ (wx = 3 ∧ wd = 7 ∧ cnt = 3)) (hie : i < e) (he : e ≤ S) (hk : k ≤ i) (st v sb : Int32) {ta0 te0 tk0 vr0 wd0 fz ta tk vr : Int32} (hreads : m_X12_reads (nI S) ta0 te0 tk0 vr0 wd0 ft nr (nI i) fz = m_X12_reads_L102 (nI S) ft mFU ta (nI e) tk vr wd nr (nI cnt) (0 : Int32)) : goR S fb ft G U now kX kR i k (m_X10_tell_B83 (U 0) (nI S) fb kX 0 0 0 1 w p s1 s3 0 0 0 (nI e) st v nu lc (nI k) ref (nI k) (nI wx) sb sb) (m_X12_read_B32 (nI S) ft kR ta0 te0 tk0 vr0 wd0 t nr now (nI k) ref fz (nI i)) := by
  have hS := h.1
  have hwx : wx < 4 := by omega
  have hc3 : cnt ≤ 3 := by omega
  have hc : sNumL.getD wx 0 = nI cnt := by
    rcases hww with ⟨rfl, _, rfl⟩ | ⟨rfl, _, rfl⟩ | ⟨rfl, _, rfl⟩ | ⟨rfl, _, rfl⟩ <;> rfl
  obtain ⟨rx, rm, g1, g2, g3, g4⟩ := take_sim h hwx hc hc3 wd cnt 0 mFU mFU e st v ta tk vr nu nr (by omega) (by unfold mFU; omega) (by unfold mFU; omega) he (fun j hj => absurd hj (Nat.not_lt_zero j))
  have hX : m_X10_takeItem (nI S) (nI e) st v nu fb (nI wx) = some rx := by
    unfold m_X10_takeItem
    rw [if_neg (nI_pos (by omega)), if_pos (show nI wx < (4 : Int32) from nI_lt (b := 4) hwx (by omega))]
    exact g1
  have hR : m_X12_reads (nI S) ta0 te0 tk0 vr0 wd0 ft nr (nI i) fz = some rm := hreads.trans g2
  unfold m_X10_tell_B83 m_X12_read_B32
  rw [if_pos rfl, q_call hX, q_call hR]
  rcases g4 with ⟨b1, b2, a, a1, a2, a3⟩ | ⟨b1, b2, e', e1, e2, e3, e4, e5⟩
  · refine Or.inl ?_
    rw [if_pos b1, if_pos b2, a2, a3]
    exact ⟨_, _, rfl, rfl, rfl, ⟨rfl, rfl, rfl, rfl, rfl, rfl, rfl⟩, Or.inl ⟨neg10 a (by omega), rfl⟩⟩
  · refine Or.inr ?_
    rw [if_neg (show ¬ rx.1 = 0 by rw [b1]; exact one_ne0), if_neg (show ¬ rm.1 = 0 by rw [b2]; exact one_ne0), e3, e4, g3]
    unfold m_X12_read_B66
    by_cases hz : ref = -1
    · obtain ⟨y, s1', s3', lc', p', w', t', y1, y2, y3⟩ := apply_sim hU hP hww e5
      rw [if_pos hz, if_pos hz, q_call y1, nI_1, q_let, q_let, q_let, q_let]
      rcases y2 with ⟨y2, y4⟩ | ⟨y2, y4⟩
      · rw [if_pos y2, q_call y4, if_pos rfl]
        exact ⟨e', w', p', lc', t', _, _, s1', s3', _, _, ref, _, _, _, _, by omega, e2, y3, hr, rfl, rfl⟩
      · rw [if_neg y2, q_call y4, if_neg one_ne0]
        exact ⟨e', w', p', lc', t', _, _, s1', s3', _, _, nI k, _, _, _, _, by omega, e2, y3, Or.inr ⟨k, by omega, rfl⟩, rfl, rfl⟩
    · rw [if_neg hz, if_neg hz, nI_1, q_let, q_let]
      exact ⟨e', w, p, lc, t, _, _, s1, s3, _, _, ref, _, _, _, _, by omega, e2, hP, hr, rfl, rfl⟩
theorem item_sim (h : txR S fb ft) (hU : U 0 = 8) (kX : (Int32) → (Int32) → (Int32) → (Int32) → (Nat → Int32) → (Nat → Int32) → (Int32) → (Int32) → (Int32) → (Int32) → (Int32) → (Int32) → (Int32) → (Int32) → (Nat → Int32) → (Nat → Int32) → Int32 → Int32 → Int32 → Option (Int32 × (Int32) × (Int32) × (Int32) × (Int32) × (Nat → Int32) × (Nat → Int32) × (Int32) × (Int32) × (Int32) × (Int32) × (Int32) × (Int32) × (Int32) × (Int32) × (Nat → Int32) × (Nat → Int32))) (kR : (Int32) → (Int32) → (Int32) → (Int32) → (Int32) → (Nat → Int32) → (Nat → Int32) → (Nat → Int32) → Int32 → Int32 → Int32 → Int32 → Option (Int32 × (Int32) × (Int32) × (Int32) × (Int32) × (Int32) × (Nat → Int32) × (Nat → Int32) × (Nat → Int32))) {w p lc t nu nr : Nat → Int32} {s1 s3 ref : Int32} (hP : relP (tF G w p lc) (tV U s1 s3) t) (hr : refOk ref) {i k : Nat} (hi : i ≤ S) (hk : k ≤ i) {rx : Int32 × Int32 × Int32 × Int32} (hall : ∀ ta te tk vr, ∃ rm, m_X12_next (nI S) ta te tk vr ft (nI i) = some rm ∧ tkR S fb i rx rm) (ta te tk vr wd : Int32) : goR S fb ft G U now kX kR i k (m_X10_tell_B43 (U 0) (nI S) fb kX 0 0 0 1 w p s1 s3 0 0 0 rx.2.1 rx.2.2.1 rx.2.2.2 nu lc (nI k) ref (nI k) rx.1) (m_X12_read_B32 (nI S) ft kR ta te tk vr wd t nr now (nI k) ref (if k = 0 then 1 else 0) (nI i)) := by
  have hS := h.1
  obtain ⟨rm, m1, a, a1, a2, a3, a4, a5⟩ := hall ta te tk vr
  -- a fault of both, at the token
  have flt : ∀ oX : Option (Int32 × (Int32) × (Int32) × (Int32) × (Int32) × (Nat → Int32) × (Nat → Int32) × (Int32) × (Int32) × (Int32) × (Int32) × (Int32) × (Int32) × (Int32) × (Int32) × (Nat → Int32) × (Nat → Int32)), oX = some ((-10 : Int32) - rx.2.2.1, 0, 0, 0, 1, w, p, s1, s3, 0, 0, 0, rx.2.1, rx.2.2.1, rx.2.2.2, nu, lc) → m_X12_reads (nI S) ta te tk vr wd ft nr (nI i) (if k = 0 then 1 else 0) = some (0, rm.1, rm.2.1, rm.2.2.1, rm.2.2.2, wd, nr) → goR S fb ft G U now kX kR i k oX (m_X12_read_B32 (nI S) ft kR ta te tk vr wd t nr now (nI k) ref (if k = 0 then 1 else 0) (nI i)) := by
    intro oX q1 q2
    refine Or.inl ?_
    unfold m_X12_read_B32
    rw [q1, q_call q2, if_pos rfl, a3, a4]
    exact ⟨_, _, rfl, rfl, rfl, ⟨rfl, rfl, rfl, rfl, rfl, rfl, rfl⟩, Or.inl ⟨neg10 a (by omega), rfl⟩⟩
  have hf : (k = 0 ∧ (if k = 0 then (1 : Int32) else 0) = 1) ∨ (0 < k ∧ (if k = 0 then (1 : Int32) else 0) = 0) := by
    by_cases hk0 : k = 0
    · exact Or.inl ⟨hk0, if_pos hk0⟩
    · exact Or.inr ⟨by omega, if_neg hk0⟩
  -- the reference refuses a token that is no word to begin with
  have rno : ¬ (k = 0 ∧ rm.2.2.1 = 4) → ¬ (0 < k ∧ (rm.2.2.1 = 5 ∨ rm.2.2.1 = 6 ∨ rm.2.2.1 = 7)) → m_X12_reads (nI S) ta te tk vr wd ft nr (nI i) (if k = 0 then 1 else 0) = some (0, rm.1, rm.2.1, rm.2.2.1, rm.2.2.2, wd, nr) := by
    intro q1 q2
    unfold m_X12_reads m_X12_reads_B56
    rw [q_call m1]
    rcases hf with ⟨f1, f2⟩ | ⟨f1, f2⟩
    · rw [f2, if_neg one_ne0, if_neg (fun z => q1 ⟨f1, z⟩), if_pos rfl]
    · rw [f2, if_pos rfl, if_neg (fun z => q2 ⟨f1, Or.inl z⟩), if_neg (fun z => q2 ⟨f1, Or.inr (Or.inl z)⟩), if_neg (fun z => q2 ⟨f1, Or.inr (Or.inr z)⟩), if_pos rfl]
  have xno : ∀ z, ¬ z = 0 → m_X10_tell_B43 (U 0) (nI S) fb kX 0 0 0 1 w p s1 s3 0 0 0 rx.2.1 rx.2.2.1 rx.2.2.2 nu lc (nI k) ref (nI k) z = some ((-10 : Int32) - rx.2.2.1, 0, 0, 0, 1, w, p, s1, s3, 0, 0, 0, rx.2.1, rx.2.2.1, rx.2.2.2, nu, lc) := by
    intro z hz
    unfold m_X10_tell_B43 m_X10_tell_B56
    rw [if_neg hz, if_pos rfl]
  rcases a5 with ⟨c1, c2⟩ | ⟨c1, c2⟩ | ⟨e, e1, e2, e3, e4, c⟩
  · exact flt _ (xno _ (by rw [c1]; decide)) (rno (fun q => by rw [c2] at q; exact absurd q.2 (by decide)) (fun q => by rw [c2] at q; rcases q.2 with q | q | q <;> exact absurd q (by decide)))
  · exact flt _ (xno _ (by rw [c1]; decide)) (rno (fun q => by rw [c2] at q; exact absurd q.2 (by decide)) (fun q => by rw [c2] at q; rcases q.2 with q | q | q <;> exact absurd q (by decide)))
  · rcases c with ⟨c1, wx, c3, c2⟩ | ⟨c1, c2, _⟩ | ⟨c1, c2⟩
    · have hX : m_X10_tell_B43 (U 0) (nI S) fb kX 0 0 0 1 w p s1 s3 0 0 0 rx.2.1 rx.2.2.1 rx.2.2.2 nu lc (nI k) ref (nI k) rx.1 = m_X10_tell_B56 (U 0) (nI S) fb kX 0 0 0 1 w p s1 s3 0 0 0 rx.2.1 rx.2.2.1 rx.2.2.2 nu lc (nI k) ref (nI k) wx := by
        unfold m_X10_tell_B43
        rw [if_pos c1, e3, a3, q_call c3]
      rw [hX]
      rcases c2 with ⟨w1, w2⟩ | ⟨w1, w2⟩ | ⟨w1, w2⟩ | ⟨w1, w2⟩ | ⟨w1, w2⟩
      · rcases hf with ⟨f1, f2⟩ | ⟨f1, f2⟩
        · have hB : m_X10_tell_B56 (U 0) (nI S) fb kX 0 0 0 1 w p s1 s3 0 0 0 rx.2.1 rx.2.2.1 rx.2.2.2 nu lc (nI k) ref (nI k) wx = m_X10_tell_B83 (U 0) (nI S) fb kX 0 0 0 1 w p s1 s3 0 0 0 (nI e) rx.2.2.1 rx.2.2.2 nu lc (nI k) ref (nI k) (nI 0) 1 1 := by
            unfold m_X10_tell_B56 m_X10_tell_B74
            rw [w1, if_neg (by decide), if_pos rfl, if_pos (show nI k = 0 by rw [f1]; rfl), e3]
            rfl
          have hq : m_X12_reads (nI S) ta te tk vr wd ft nr (nI i) (if k = 0 then 1 else 0) = m_X12_reads_L102 (nI S) ft mFU rm.1 (nI e) rm.2.2.1 rm.2.2.2 4 nr (nI 0) (0 : Int32) := by
            unfold m_X12_reads m_X12_reads_B56
            rw [q_call m1, f2, if_neg one_ne0, if_pos w2, if_neg one_ne0, if_pos w2, e4, w2]
            rfl
          rw [hB]
          exact good_sim h hU kX kR hP hr (Or.inl ⟨rfl, rfl, rfl⟩) (by omega) e2 hk _ _ _ hq
        · refine flt _ ?_ (rno (fun q => by omega) (fun q => by rw [w2] at q; rcases q.2 with q | q | q <;> exact absurd q (by decide)))
          unfold m_X10_tell_B56 m_X10_tell_B74 m_X10_tell_B83
          rw [w1, if_neg (by decide), if_pos rfl, if_neg (nI_ne0 (by omega) (by omega)), if_neg (by decide)]
      · rcases hf with ⟨f1, f2⟩ | ⟨f1, f2⟩
        · refine flt _ ?_ (rno (fun q => by rw [w2] at q; exact absurd q.2 (by decide)) (fun q => by omega))
          unfold m_X10_tell_B56 m_X10_tell_B74 m_X10_tell_B83
          rw [w1, if_neg (by decide), if_neg (by decide), if_pos (show nI k = 0 by rw [f1]; rfl), if_neg (by decide)]
        · have hB : m_X10_tell_B56 (U 0) (nI S) fb kX 0 0 0 1 w p s1 s3 0 0 0 rx.2.1 rx.2.2.1 rx.2.2.2 nu lc (nI k) ref (nI k) wx = m_X10_tell_B83 (U 0) (nI S) fb kX 0 0 0 1 w p s1 s3 0 0 0 (nI e) rx.2.2.1 rx.2.2.2 nu lc (nI k) ref (nI k) (nI 1) 0 0 := by
            unfold m_X10_tell_B56 m_X10_tell_B74
            rw [w1, if_neg (by decide), if_neg (by decide), if_neg (nI_ne0 (by omega) (by omega)), e3]
            rfl
          have hq : m_X12_reads (nI S) ta te tk vr wd ft nr (nI i) (if k = 0 then 1 else 0) = m_X12_reads_L102 (nI S) ft mFU rm.1 (nI e) rm.2.2.1 rm.2.2.2 5 nr (nI 2) (0 : Int32) := by
            unfold m_X12_reads m_X12_reads_B51 m_X12_reads_B56
            rw [q_call m1, f2, if_pos rfl, if_pos w2, if_neg one_ne0, if_neg (by rw [w2]; decide), if_neg (by rw [w2]; decide), e4, w2]
            rfl
          rw [hB]
          exact good_sim h hU kX kR hP hr (Or.inr (Or.inl ⟨rfl, rfl, rfl⟩)) (by omega) e2 hk _ _ _ hq
      · rcases hf with ⟨f1, f2⟩ | ⟨f1, f2⟩
        · refine flt _ ?_ (rno (fun q => by rw [w2] at q; exact absurd q.2 (by decide)) (fun q => by omega))
          unfold m_X10_tell_B56 m_X10_tell_B74 m_X10_tell_B83
          rw [w1, if_neg (by decide), if_neg (by decide), if_pos (show nI k = 0 by rw [f1]; rfl), if_neg (by decide)]
        · have hB : m_X10_tell_B56 (U 0) (nI S) fb kX 0 0 0 1 w p s1 s3 0 0 0 rx.2.1 rx.2.2.1 rx.2.2.2 nu lc (nI k) ref (nI k) wx = m_X10_tell_B83 (U 0) (nI S) fb kX 0 0 0 1 w p s1 s3 0 0 0 (nI e) rx.2.2.1 rx.2.2.2 nu lc (nI k) ref (nI k) (nI 2) 0 0 := by
            unfold m_X10_tell_B56 m_X10_tell_B74
            rw [w1, if_neg (by decide), if_neg (by decide), if_neg (nI_ne0 (by omega) (by omega)), e3]
            rfl
          have hq : m_X12_reads (nI S) ta te tk vr wd ft nr (nI i) (if k = 0 then 1 else 0) = m_X12_reads_L102 (nI S) ft mFU rm.1 (nI e) rm.2.2.1 rm.2.2.2 6 nr (nI 2) (0 : Int32) := by
            unfold m_X12_reads m_X12_reads_B51 m_X12_reads_B56
            rw [q_call m1, f2, if_pos rfl, if_neg (by rw [w2]; decide), if_pos w2, if_neg one_ne0, if_neg (by rw [w2]; decide), if_neg (by rw [w2]; decide), e4, w2]
            rfl
          rw [hB]
          exact good_sim h hU kX kR hP hr (Or.inr (Or.inr (Or.inl ⟨rfl, rfl, rfl⟩))) (by omega) e2 hk _ _ _ hq
      · rcases hf with ⟨f1, f2⟩ | ⟨f1, f2⟩
        · refine flt _ ?_ (rno (fun q => by rw [w2] at q; exact absurd q.2 (by decide)) (fun q => by omega))
          unfold m_X10_tell_B56 m_X10_tell_B74 m_X10_tell_B83
          rw [w1, if_neg (by decide), if_neg (by decide), if_pos (show nI k = 0 by rw [f1]; rfl), if_neg (by decide)]
        · have hB : m_X10_tell_B56 (U 0) (nI S) fb kX 0 0 0 1 w p s1 s3 0 0 0 rx.2.1 rx.2.2.1 rx.2.2.2 nu lc (nI k) ref (nI k) wx = m_X10_tell_B83 (U 0) (nI S) fb kX 0 0 0 1 w p s1 s3 0 0 0 (nI e) rx.2.2.1 rx.2.2.2 nu lc (nI k) ref (nI k) (nI 3) 0 0 := by
            unfold m_X10_tell_B56 m_X10_tell_B74
            rw [w1, if_neg (by decide), if_neg (by decide), if_neg (nI_ne0 (by omega) (by omega)), e3]
            rfl
          have hq : m_X12_reads (nI S) ta te tk vr wd ft nr (nI i) (if k = 0 then 1 else 0) = m_X12_reads_L102 (nI S) ft mFU rm.1 (nI e) rm.2.2.1 rm.2.2.2 7 nr (nI 3) (0 : Int32) := by
            unfold m_X12_reads m_X12_reads_B51 m_X12_reads_B56
            rw [q_call m1, f2, if_pos rfl, if_neg (by rw [w2]; decide), if_neg (by rw [w2]; decide), if_pos w2, if_neg one_ne0, if_neg (by rw [w2]; decide), if_pos w2, e4, w2]
            rfl
          rw [hB]
          exact good_sim h hU kX kR hP hr (Or.inr (Or.inr (Or.inr ⟨rfl, rfl, rfl⟩))) (by omega) e2 hk _ _ _ hq
      · refine flt _ ?_ (rno (fun q => by rw [w2] at q; exact absurd q.2 (by decide)) (fun q => by rw [w2] at q; rcases q.2 with q | q | q <;> exact absurd q (by decide)))
        unfold m_X10_tell_B56
        rw [w1, if_pos rfl]
    · exact flt _ (xno _ (by rw [c1]; decide)) (rno (fun q => by rw [c2] at q; exact absurd q.2 (by decide)) (fun q => by rw [c2] at q; rcases q.2 with q | q | q <;> exact absurd q (by decide)))
    · exact flt _ (xno _ (by rw [c1]; decide)) (rno (fun q => by rw [c2] at q; exact absurd q.2 (by decide)) (fun q => by rw [c2] at q; rcases q.2 with q | q | q <;> exact absurd q (by decide)))
theorem read112 (vs : Int32) (ft : Nat → Int32) (ta te tk vr wd x1 : Int32) (t nr now : Nat → Int32) : ∀ (m j fu : Nat), j + m = 126 → m < fu → m_X12_read_L112 vs ft fu ta te tk vr wd t nr (va_cpy t now 0 0 j) x1 (nI j) = some (x1, ta, te, tk, vr, wd, t, nr, va_cpy t now 0 0 126)
  | m, j, 0, _, h0 => absurd h0 (Nat.not_lt_zero m)
  | 0, j, fu + 1, e, _ => by
    rw [m_X12_read_L112, if_pos (show (126 : Int32) ≤ nI j from nI_le (a := 126) (by omega) (by omega)), show j = 126 by omega]
  | m + 1, j, fu + 1, e, hfu => by
    have hs := cpy_succ t now 0 0 j
    rw [Nat.zero_add] at hs
    rw [m_X12_read_L112, if_neg (show ¬ (126 : Int32) ≤ nI j from nI_ge (b := 126) (by omega) (by omega)), q_at (by omega) (by omega), q_wr (by omega) (by omega), q_let, nI_1, hs]
    exact read112 vs ft ta te tk vr wd x1 t nr now m (j + 1) fu (by omega) (by omega)
/-- from the second item on -/
theorem loop_sim (h : txR S fb ft) (hU : U 0 = 8) : ∀ (m i k fu fu2 : Nat) (w p lc t nu nr : Nat → Int32) (s1 s3 st v ref ta tk vr wd : Int32), i + m = S → k < i → m < fu → m < fu2 → relP (tF G w p lc) (tV U s1 s3) t → refOk ref → ∃ rx rm, m_X10_tell_L16 (U 0) (nI S) fb fu 0 0 0 1 w p s1 s3 0 0 0 (nI i) st v nu lc (nI (k + 1)) ref (nI (k + 1)) = some rx ∧ m_X12_read_B67 (nI S) ft (m_X12_read_L16 (nI S) ft fu2) ta (nI i) tk vr wd t nr now (nI k) ref = some rm ∧ rdR G U now rx rm
  | m, i, k, 0, _, w, p, lc, t, nu, nr, s1, s3, st, v, ref, ta, tk, vr, wd, _, _, h0, _, _, _ => absurd h0 (Nat.not_lt_zero m)
  | m, i, k, _ + 1, 0, w, p, lc, t, nu, nr, s1, s3, st, v, ref, ta, tk, vr, wd, _, _, _, h0, _, _ => absurd h0 (Nat.not_lt_zero m)
  | m, i, k, fu + 1, fu2 + 1, w, p, lc, t, nu, nr, s1, s3, st, v, ref, ta, tk, vr, wd, e, hk, hfu, hfu2, hP, hr => by
    have hS := h.1
    obtain ⟨rx, x1, x2⟩ := tok_sim h (i := i) (by omega) st v
    obtain ⟨rm, m1, m2⟩ := x2 ta (nI i) tk vr
    unfold m_X12_read_B67
    rw [m_X10_tell_L16, if_neg (show ¬ (150 : Int32) < nI (k + 1) from nI_nlt (a := 150) (by omega) (by omega)), q_call x1, nI_1, q_let, q_call m1]
    by_cases hend : rx.1 = 4
    · have htk : rm.2.2.1 = 0 := by
        obtain ⟨a, _, _, _, _, a5⟩ := m2
        rcases a5 with ⟨_, c2⟩ | ⟨c1, _⟩ | ⟨_, _, _, _, _, ⟨c1, _⟩ | ⟨c1, _⟩ | ⟨c1, _⟩⟩
        · exact c2
        · rw [hend] at c1; exact absurd c1 (by decide)
        · rw [hend] at c1; exact absurd c1 (by decide)
        · rw [hend] at c1; exact absurd c1 (by decide)
        · rw [hend] at c1; exact absurd c1 (by decide)
      rw [if_pos hend, if_neg (nI_nle (by omega) (by omega)), if_pos htk, m_X12_read_L16, if_pos rfl]
      unfold m_X10_tell_B129
      rcases hr with hr | ⟨r, r1, r2⟩
      · rw [if_pos hr, if_pos hr]
        have hc := read112 (nI S) ft rm.1 rm.2.1 rm.2.2.1 rm.2.2.2 wd (nI (k + 1)) t nr now 126 0 mFU (by omega) (by unfold mFU; omega)
        rw [cpy_zero] at hc
        rw [show m_X12_read_L112 (nI S) ft mFU rm.1 rm.2.1 rm.2.2.1 rm.2.2.2 wd t nr now (nI (k + 1)) (0 : Int32) = _ from hc]
        exact ⟨_, _, rfl, rfl, rfl, ⟨rfl, rfl, rfl, rfl, rfl, rfl, rfl⟩, Or.inr ⟨nI_nle (by omega) (by omega), relP_cc hP (fun _ _ _ => rfl) (fun _ _ => rfl) (fun q hq => cpy_in0 hq)⟩⟩
      · have hne : ¬ ref = -1 := by rw [r2]; exact nI_nn (by omega) (by decide)
        rw [if_neg hne, if_neg hne, r2]
        exact ⟨_, _, rfl, rfl, rfl, ⟨rfl, rfl, rfl, rfl, rfl, rfl, rfl⟩, Or.inl ⟨neg1000 r r1, rfl⟩⟩
    · have htk : ¬ rm.2.2.1 = 0 := by
        obtain ⟨a, _, _, _, _, a5⟩ := m2
        rcases a5 with ⟨c1, _⟩ | ⟨_, c2⟩ | ⟨_, _, _, _, _, ⟨_, wx, _, c2⟩ | ⟨_, c2, _⟩ | ⟨_, c2⟩⟩
        · exact absurd c1 hend
        · rw [c2]; decide
        · exact (wd_ne c2).2.2
        · rw [c2]; decide
        · rw [c2]; decide
      rw [if_neg hend, if_neg htk, m_X12_read_L16, if_neg one_ne0, if_neg (nI_ne0 (by omega) (by omega))]
      have hi := item_sim (now := now) (nu := nu) (nr := nr) h hU (m_X10_tell_L16 (U 0) (nI S) fb fu) (m_X12_read_L16 (nI S) ft fu2) hP hr (i := i) (k := k + 1) (by omega) (by omega) x2 rm.1 rm.2.1 rm.2.2.1 rm.2.2.2 wd
      rw [if_neg (show ¬ k + 1 = 0 by omega)] at hi
      rcases hi with hi | ⟨i', w', p', lc', t', nu', nr', s1', s3', st', v', ref', ta', tk', vr', wd', i1, i2, i3, i4, i5, i6⟩
      · exact hi
      · rw [i5, i6]
        exact loop_sim h hU (S - i') i' (k + 1) fu fu2 w' p' lc' t' nu' nr' s1' s3' st' v' ref' ta' tk' vr' wd' (by omega) (by omega) (by omega) (by omega) i3 i4
end LP
theorem read_sim {S : Nat} {fb ft : Nat → Int32} {G : Nat → Nat → Int32} {U now : Nat → Int32} (h : txR S fb ft) (hU : relLim U) (u5 : U 5 = 0) (u7 : U 7 = 0) (u9 : U 9 = 0) (u10 : U 10 = 0) (u11 : U 11 = 0) (u12 : U 12 = 0) (u13 : U 13 = 1) (b m c z a1 a2 a3 a4 a5 nx st v ta te tk vr wd : Int32) (w p lc nu tr nr : Nat → Int32) : ∃ rx rm, m_X10_tell b m c z w p (U 0) a1 a2 a3 a4 a5 (nI S) nx st v fb nu lc = some rx ∧ m_X12_read (nI S) ta te tk vr wd tr ft nr now = some rm ∧ rdR G U now rx rm := by
  have hS := h.1
  unfold m_X10_tell m_X12_read
  rw [q_call (reset_ok _ _ _ _ _ _ _ _ _ _ _), q_call (anew_ok _)]
  have hP : relP (tF G (fun j => if j < 12 then 0 else w j) (fun j => if j < 6 then 1 else p j) lc) (tV U 0 0) (anewF tr) := relP_new hU (fun k hk => if_pos hk) (fun k hk => if_pos hk) rfl rfl u5 u7 u9 u10 u11 u12 u13
  obtain ⟨rx, x1, x2⟩ := tok_sim h (i := 0) (by omega) st v
  have hi := item_sim (now := now) (nu := nu) (nr := nr) h hU.1 (m_X10_tell_L16 (U 0) (nI S) fb 999) (m_X12_read_L16 (nI S) ft 999) hP (Or.inl rfl) (i := 0) (k := 0) (by omega) (by omega) x2 ta te tk vr wd
  have eX : m_X10_tell_L16 (U 0) (nI S) fb mFU 0 0 0 1 (fun j => if j < 12 then 0 else w j) (fun j => if j < 6 then 1 else p j) 0 0 0 0 0 (0 : Int32) st v nu lc (0 : Int32) (-1 : Int32) (0 : Int32) = m_X10_tell_B43 (U 0) (nI S) fb (m_X10_tell_L16 (U 0) (nI S) fb 999) 0 0 0 1 (fun j => if j < 12 then 0 else w j) (fun j => if j < 6 then 1 else p j) 0 0 0 0 0 rx.2.1 rx.2.2.1 rx.2.2.2 nu lc (nI 0) (-1) (nI 0) rx.1 := by
    show m_X10_tell_L16 (U 0) (nI S) fb (999 + 1) 0 0 0 1 (fun j => if j < 12 then 0 else w j) (fun j => if j < 6 then 1 else p j) 0 0 0 0 0 (nI 0) st v nu lc (nI 0) (-1 : Int32) (nI 0) = _
    rw [m_X10_tell_L16, if_neg (by decide), q_call x1, if_pos (show nI 0 ≤ (0 : Int32) by decide)]
    by_cases hq : rx.1 = 4
    · rw [if_pos hq]
    · rw [if_neg hq]
  have eR : m_X12_read_L16 (nI S) ft mFU ta te tk vr wd (anewF tr) nr now (0 : Int32) (-1 : Int32) (0 : Int32) (1 : Int32) = m_X12_read_B32 (nI S) ft (m_X12_read_L16 (nI S) ft 999) ta te tk vr wd (anewF tr) nr now (nI 0) (-1) 1 (nI 0) := by
    show m_X12_read_L16 (nI S) ft (999 + 1) ta te tk vr wd (anewF tr) nr now (nI 0) (-1 : Int32) (nI 0) (1 : Int32) = _
    rw [m_X12_read_L16, if_neg one_ne0, if_pos (show nI 0 = (0 : Int32) from rfl)]
  rw [eX, eR]
  rw [if_pos (show (0 : Nat) = 0 from rfl)] at hi
  rcases hi with hi | ⟨i', w', p', lc', t', nu', nr', s1', s3', st', v', ref', ta', tk', vr', wd', i1, i2, i3, i4, i5, i6⟩
  · exact hi
  · rw [i5, i6]
    exact loop_sim h hU.1 (S - i') i' 0 999 999 w' p' lc' t' nu' nr' s1' s3' st' v' ref' ta' tk' vr' wd' (by omega) (by omega) (by omega) (by omega) i3 i4
/-- the text was no pit: the trial's rows alone have changed -/
theorem rel_tr {FI FI' : Nat → Nat → Int32} {FL FL' : Nat → Nat → Int64} {VI VI' : Nat → Int32} {VL VL' : Nat → Int64} (h : Rel FI FL VI VL) (hF : ∀ j, ¬ (8 ≤ j ∧ j < 16) → j ≠ 33 → j ≠ 50 → j ≠ 52 → FI' j = FI j) (hV : ∀ j, ¬ (15 ≤ j ∧ j < 28) → ¬ (57 ≤ j ∧ j < 60) → ¬ 66 ≤ j → VI' j = VI j) (l2 : VI' 16 = VI 16) (l4 : VI' 18 = VI 18) (l6 : VI' 20 = VI 20) (l8 : VI' 22 = VI 22) (hW : ∀ j, VL' j = VL j) : Rel FI' FL' VI' VL' := by
  obtain ⟨h1, h2, h3, h4, h5, h6, h7⟩ := h
  refine ⟨relP_cc h1 (fun j hj _ => hF j (by omega) (by omega) (by omega) (by omega)) (fun j hj => hV j (by omega) (by omega) (by omega)) (fun k _ => by rw [hF 49 (by omega) (by omega) (by omega) (by omega)]), ⟨?_, relLim_c h2.2.1 (fun j hj => hV (28 + j) (by omega) (by omega) (by omega)), relLim_c h2.2.2 (fun j hj => hV (42 + j) (by omega) (by omega) (by omega))⟩, ?_, ?_, ?_, by rw [hW 0, hW 2]; exact h6, by rw [hW 1, hW 3]; exact h7⟩
  · obtain ⟨q0, q2, q4, q6, q8⟩ := h2.1
    exact ⟨(hV 14 (by omega) (by omega) (by omega)).trans q0, l2.trans q2, l4.trans q4, l6.trans q6, l8.trans q8⟩
  · obtain ⟨⟨a1, a2, a3⟩, ⟨b1, b2, b3⟩⟩ := h3
    have e47 := hF 47 (by omega) (by omega) (by omega) (by omega)
    have e60 := hF 60 (by omega) (by omega) (by omega) (by omega)
    have e61 := hF 61 (by omega) (by omega) (by omega) (by omega)
    unfold relI
    rw [e47, e60, e61]
    exact ⟨⟨a1, a2, fun q => relP_cc (a3 q) (fun j hj _ => hF (16 + j) (by omega) (by omega) (by omega) (by omega)) (fun j hj => hV (28 + j) (by omega) (by omega) (by omega)) (fun _ _ => rfl)⟩, ⟨b1, b2, fun q => relP_cc (b3 q) (fun j hj _ => hF (24 + j) (by omega) (by omega) (by omega) (by omega)) (fun j hj => hV (42 + j) (by omega) (by omega) (by omega)) (fun _ _ => rfl)⟩⟩
  · unfold relT
    rw [hV 56 (by omega) (by omega) (by omega), hV 65 (by omega) (by omega) (by omega), hF 32 (by omega) (by omega) (by omega) (by omega), hF 51 (by omega) (by omega) (by omega) (by omega)]
    exact h4
  · unfold relR
    rw [hF 48 (by omega) (by omega) (by omega) (by omega), hV 62 (by omega) (by omega) (by omega), hV 63 (by omega) (by omega) (by omega), hV 64 (by omega) (by omega) (by omega)]
    exact h5
/-- the pit is told anew -/
theorem rel_told {FI FI' : Nat → Nat → Int32} {FL FL' : Nat → Nat → Int64} {VI VI' : Nat → Int32} {VL VL' : Nat → Int64} (h : Rel FI FL VI VL) (hP : relP FI' VI' (FI' 49)) (hF : ∀ j, 16 ≤ j → j ≠ 33 → j ≠ 49 → j ≠ 50 → j ≠ 52 → FI' j = FI j) (hV : ∀ j, 28 ≤ j → ¬ (57 ≤ j ∧ j < 60) → ¬ 66 ≤ j → VI' j = VI j) (l0 : VI' 14 = VI 0) (l2 : VI' 16 = VI 2) (l4 : VI' 18 = VI 4) (l6 : VI' 20 = VI 6) (l8 : VI' 22 = VI 8) (hW : ∀ j, VL' j = VL j) : Rel FI' FL' VI' VL' := by
  obtain ⟨h1, h2, h3, h4, h5, h6, h7⟩ := h
  refine ⟨hP, ⟨?_, relLim_c h2.2.1 (fun j hj => hV (28 + j) (by omega) (by omega) (by omega)), relLim_c h2.2.2 (fun j hj => hV (42 + j) (by omega) (by omega) (by omega))⟩, ?_, ?_, ?_, by rw [hW 0, hW 2]; exact h6, by rw [hW 1, hW 3]; exact h7⟩
  · obtain ⟨q0, q2, q4, q6, q8⟩ := h1.1
    exact ⟨l0.trans q0, l2.trans q2, l4.trans q4, l6.trans q6, l8.trans q8⟩
  · obtain ⟨⟨a1, a2, a3⟩, ⟨b1, b2, b3⟩⟩ := h3
    have e47 := hF 47 (by omega) (by omega) (by omega) (by omega) (by omega)
    have e60 := hF 60 (by omega) (by omega) (by omega) (by omega) (by omega)
    have e61 := hF 61 (by omega) (by omega) (by omega) (by omega) (by omega)
    unfold relI
    rw [e47, e60, e61]
    exact ⟨⟨a1, a2, fun q => relP_cc (a3 q) (fun j hj _ => hF (16 + j) (by omega) (by omega) (by omega) (by omega) (by omega)) (fun j hj => hV (28 + j) (by omega) (by omega) (by omega)) (fun _ _ => rfl)⟩, ⟨b1, b2, fun q => relP_cc (b3 q) (fun j hj _ => hF (24 + j) (by omega) (by omega) (by omega) (by omega) (by omega)) (fun j hj => hV (42 + j) (by omega) (by omega) (by omega)) (fun _ _ => rfl)⟩⟩
  · unfold relT
    rw [hV 56 (by omega) (by omega) (by omega), hV 65 (by omega) (by omega) (by omega), hF 32 (by omega) (by omega) (by omega) (by omega) (by omega), hF 51 (by omega) (by omega) (by omega) (by omega) (by omega)]
    exact h4
  · unfold relR
    rw [hF 48 (by omega) (by omega) (by omega) (by omega) (by omega), hV 62 (by omega) (by omega) (by omega), hV 63 (by omega) (by omega) (by omega), hV 64 (by omega) (by omega) (by omega)]
    exact h5
/-- limits as the trial's, sizes none -/
def trU (VI : Nat → Int32) : Nat → Int32 := fun j => if j = 13 then 1 else if j = 0 then VI 14 else if j = 2 then VI 16 else if j = 4 then VI 18 else if j = 6 then VI 20 else if j = 8 then VI 22 else 0
set_option maxHeartbeats 4000000 in
set_option maxRecDepth 20000 in
theorem o_read : opSpec_read Rel := by
  intro FI FL VI VL h
  obtain ⟨t1, t2, t3⟩ := h.2.2.2.1
  obtain ⟨S, hS, eS⟩ := sm_of t2
  have ev : VI 56 = nI S := t1.trans eS
  have nvS : nv (VI 65) = S := by rw [eS]; exact nv_nI (by omega)
  have hx : txR S (FI 32) (FI 51) := ⟨by omega, fun i hi => t3 i (by rw [nvS]; exact hi)⟩
  have hU : relLim (trU VI) := h.2.1.1
  obtain ⟨rx, rm, r1, r2, r3, ⟨c1, c2, c3, c4, c5, c6, c7⟩, r4⟩ := read_sim (G := fun j => FI (8 + j)) (U := trU VI) (now := FI 49) hx hU rfl rfl rfl rfl rfl rfl rfl (VI 24) (VI 25) (VI 26) (VI 27) (VI 15) (VI 17) (VI 19) (VI 21) (VI 23) (VI 57) (VI 58) (VI 59) (VI 66) (VI 67) (VI 68) (VI 69) (VI 70) (FI 8) (FI 9) (FI 11) (FI 33) (FI 50) (FI 52)
  refine ⟨rx, rm, by rw [ev]; exact r1, by rw [eS]; exact r2, r3, fun hle => ?_, fun hgt => ?_⟩
  · rcases r4 with ⟨_, q⟩ | ⟨q, _⟩
    · refine rel_tr h (fun j j1 j2 j3 j4 => ?_) (fun j j1 j2 j3 => ?_) rfl rfl rfl rfl (fun _ => rfl)
      · rw [q]
        repeat (first | refine up_or rfl (fun _ => ?_) | rw [up_ne (by omega)])
      · repeat (first | refine up_or rfl (fun _ => ?_) | rw [up_ne (by omega)])
    · exact absurd hle q
  · rcases r4 with ⟨q, _⟩ | ⟨_, q⟩
    · exact absurd q hgt
    · refine rel_told h ?_ (fun j j1 j2 j3 j4 j5 => ?_) (fun j j1 j2 j3 => ?_) rfl rfl rfl rfl rfl (fun _ => rfl)
      · refine relP_cc q (fun j hj j2 => ?_) (fun j hj => ?_) (fun _ _ => rfl)
        · have hc : j = 0 ∨ j = 1 ∨ j = 3 ∨ j = 4 ∨ j = 5 ∨ j = 6 ∨ j = 7 := by omega
          rcases hc with rfl | rfl | rfl | rfl | rfl | rfl | rfl <;> rfl
        · have hc : j = 0 ∨ j = 1 ∨ j = 2 ∨ j = 3 ∨ j = 4 ∨ j = 5 ∨ j = 6 ∨ j = 7 ∨ j = 8 ∨ j = 9 ∨ j = 10 ∨ j = 11 ∨ j = 12 ∨ j = 13 := by omega
          rcases hc with rfl | rfl | rfl | rfl | rfl | rfl | rfl | rfl | rfl | rfl | rfl | rfl | rfl | rfl
          · rfl
          · rfl
          · rfl
          · rfl
          · rfl
          · exact c5
          · rfl
          · exact c6
          · rfl
          · exact c7
          · exact c1
          · exact c2
          · exact c3
          · exact c4
      · repeat (first | refine up_or rfl (fun _ => ?_) | rw [up_ne (by omega)])
      · repeat (first | refine up_or rfl (fun _ => ?_) | rw [up_ne (by omega)])
