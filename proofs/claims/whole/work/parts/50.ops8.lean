-- digest
def mr (g : Nat → Int32) (h : Int64) : Nat → Int64
  | 0 => h
  | k + 1 => 31 * mr g h k + (g k).toInt64
def mq (g : Nat → Nat → Int32) (c : Nat) (h : Int64) : Nat → Int64
  | 0 => h
  | r + 1 => mr (g r) (mq g c h r) c
theorem mr_c {g g' : Nat → Int32} (h : Int64) : ∀ (m : Nat), (∀ k, k < m → g k = g' k) → mr g h m = mr g' h m
  | 0, _ => rfl
  | m + 1, e => by
    show 31 * mr g h m + (g m).toInt64 = 31 * mr g' h m + (g' m).toInt64
    rw [mr_c h m (fun k hk => e k (by omega)), e m (by omega)]
theorem mr_add (g : Nat → Int32) (h : Int64) (a : Nat) : ∀ b, mr g h (a + b) = mr (fun k => g (a + k)) (mr g h a) b
  | 0 => rfl
  | b + 1 => by
    show 31 * mr g h (a + b) + (g (a + b)).toInt64 = 31 * mr (fun k => g (a + k)) (mr g h a) b + (g (a + b)).toInt64
    rw [mr_add g h a b]
theorem mq_c {g g' : Nat → Nat → Int32} {c : Nat} (h : Int64) : ∀ (m : Nat), (∀ r k, r < m → k < c → g r k = g' r k) → mq g c h m = mq g' c h m
  | 0, _ => rfl
  | m + 1, e => by
    show mr (g m) (mq g c h m) c = mr (g' m) (mq g' c h m) c
    rw [mq_c h m (fun r k hr hk => e r k (by omega) hk), mr_c _ c (fun k hk => e m k (by omega) hk)]
theorem mq_flat (f : Nat → Int32) (c : Nat) (h : Int64) : ∀ N, mq (fun r k => f (c * r + k)) c h N = mr f h (c * N)
  | 0 => rfl
  | N + 1 => by
    show mr (fun k => f (c * N + k)) (mq (fun r k => f (c * r + k)) c h N) c = mr f h (c * (N + 1))
    rw [mq_flat f c h N, Nat.mul_succ, mr_add]
theorem mixRow_aux (n : Nat → Int32) (b m : Nat) (hm : b + m ≤ 126) (h : Int64) : ∀ (d k fu : Nat), k + d = m → d < fu → m_X12_mixRow_L2 n fu (mr (fun k => n (b + k)) h k) (nI b) (nI m) (nI k) = some (mr (fun k => n (b + k)) h m)
  | d, k, 0, _, h => absurd h (Nat.not_lt_zero d)
  | 0, k, fu + 1, e, _ => by
    rw [m_X12_mixRow_L2, if_pos (nI_le (by omega) (by omega)), show k = m by omega]
  | d + 1, k, fu + 1, e, hfu => by
    rw [m_X12_mixRow_L2, if_neg (nI_ge (by omega) (by omega)), nI_add, q_at (by omega) (by omega)]
    unfold m_X12_mix
    rw [q_let, q_some, q_let, nI_1]
    exact mixRow_aux n b m hm h d (k + 1) fu (by omega) (by omega)
theorem mixRow_ok (n : Nat → Int32) (b m : Nat) (hm : b + m ≤ 126) (h : Int64) : m_X12_mixRow h n (nI b) (nI m) = some (mr (fun k => n (b + k)) h m) := by
  unfold m_X12_mixRow
  exact mixRow_aux n b m hm h m 0 mFU (by omega) (by unfold mFU; omega)
theorem mixIn_aux (f : Nat → Int32) {N r c : Nat} (hr : r < N) (hN : N ≤ 10) (hc : c ≤ 3) (k6 : Int32 → Int64 → Int32 → Option (Int64)) (h : Int64) : ∀ (d k fu : Nat), k + d = c → d < fu → m_X9_mixedRows_L18 (nI N) f k6 fu (nI c) (mr (fun k => f (3 * r + k)) h k) (nI r) (nI k) = k6 (nI c) (mr (fun k => f (3 * r + k)) h c) (nI (r + 1))
  | d, k, 0, _, h => absurd h (Nat.not_lt_zero d)
  | 0, k, fu + 1, e, _ => by
    rw [m_X9_mixedRows_L18, if_pos (nI_le (by omega) (by omega)), q_let, nI_1, show k = c by omega]
  | d + 1, k, fu + 1, e, hfu => by
    rw [m_X9_mixedRows_L18, if_neg (nI_ge (by omega) (by omega)), q_call (at_ok hr hN (by omega))]
    unfold m_X11_mixed
    rw [q_some, q_let, nI_1]
    exact mixIn_aux f hr hN hc k6 h d (k + 1) fu (by omega) (by omega)
theorem mixOut_aux (f : Nat → Int32) {N c : Nat} (hN : N ≤ 10) (hc : c ≤ 3) (h : Int64) : ∀ (d r fu : Nat), r + d = N → d < fu → m_X9_mixedRows_L6 (nI N) f fu (nI c) (mq (fun r k => f (3 * r + k)) c h r) (nI r) = some (mq (fun r k => f (3 * r + k)) c h N)
  | d, r, 0, _, h => absurd h (Nat.not_lt_zero d)
  | 0, r, fu + 1, e, _ => by
    rw [m_X9_mixedRows_L6, if_pos (nI_le (by omega) (by omega)), show r = N by omega]
  | d + 1, r, fu + 1, e, hfu => by
    rw [m_X9_mixedRows_L6, if_neg (nI_ge (by omega) (by omega))]
    have := mixIn_aux f (r := r) (c := c) (by omega) hN hc (m_X9_mixedRows_L6 (nI N) f fu) (mq (fun r k => f (3 * r + k)) c h r) c 0 mFU (by omega) (by unfold mFU; omega)
    refine Eq.trans this ?_
    exact mixOut_aux f hN hc h d (r + 1) fu (by omega) (by omega)
theorem mixedRows_ok (f : Nat → Int32) {N c : Nat} (hN : N ≤ 10) (hc : c ≤ 3) (h : Int64) : m_X9_mixedRows (nI N) f h (nI c) = some (mq (fun r k => f (3 * r + k)) c h N) := by
  unfold m_X9_mixedRows
  exact mixOut_aux f hN hc h N 0 mFU (by omega) (by unfold mFU; omega)
section DG
variable {F : Nat → Nat → Int32} {V n : Nat → Int32}
/-- what the lumps and the rest mix -/
def dgR (n : Nat → Int32) (h : Int64) : Int64 :=
  mr (fun k => n (108 + k)) (mr (fun k => n (91 + k)) (31 * mr (fun k => n (79 + k)) (mq (fun r k => n (18 + 4 * r + k)) 3 h (nv (n 50))) (nv (n 78)) + (n 90).toInt64) (2 * nv (n 89))) (3 * nv (n 107))
theorem dgL34 (hr : relP F V n) : ∀ (d k fu : Nat) (h : Int64), k + d = 6 → d < fu → m_X4_mixedInto_L34 (V 13) (F 0) (F 1) (V 1) (F 3) (V 5) (F 5) (V 7) (F 6) (V 9) (F 7) fu (mr (fun k => n (12 + k)) h k) (nI k) = some (dgR n (mr (fun k => n (12 + k)) h 6))
  | d, k, 0, h, _, h0 => absurd h0 (Nat.not_lt_zero d)
  | 0, k, fu + 1, h, e, _ => by
    have hL := hr.2.2.2.1
    have hE := hr.2.2.2.2.2.2.1
    have hS := hr.2.2.2.2.2.2.2.1
    have hG := hr.2.2.2.2.2.2.2.2
    have b1 := hL.2.1.1
    have b2 := hE.2.1.1
    have b3 := hS.2.1.1
    have b4 := hG.2.1.1
    rw [m_X4_mixedInto_L34, if_pos (show (6 : Int32) ≤ nI k from nI_le (a := 6) (by omega) (by omega)), hL.1, hL.2.1.2, q_call (show m_X9_mixedRows (nI (nv (n 50))) (F 3) (mr (fun k => n (12 + k)) h k) (3 : Int32) = _ from mixedRows_ok (F 3) (c := 3) (by omega) (by omega) _), hE.1, hE.2.1.2, q_call (show m_X9_mixedRows (nI (nv (n 78))) (F 5) _ (1 : Int32) = _ from mixedRows_ok (F 5) (c := 1) (by omega) (by omega) _)]
    unfold m_X11_mixed
    rw [q_some, hS.1, hS.2.1.2, q_call (show m_X9_mixedRows (nI (nv (n 89))) (F 6) _ (2 : Int32) = _ from mixedRows_ok (F 6) (c := 2) (by omega) (by omega) _), hG.1, hG.2.1.2, q_call (show m_X9_mixedRows (nI (nv (n 107))) (F 7) _ (3 : Int32) = _ from mixedRows_ok (F 7) (c := 3) (by omega) (by omega) _), hS.2.2.1, show k = 6 by omega]
    unfold dgR
    have x1 : ∀ h, mq (fun r k => F 3 (3 * r + k)) 3 h (nv (n 50)) = mq (fun r k => n (18 + 4 * r + k)) 3 h (nv (n 50)) := fun h => mq_c h _ (fun r k hr hk => by
      obtain ⟨⟨a1, _⟩, ⟨a2, _⟩, ⟨a3, _⟩, _⟩ := hL.2.2 r hr
      have : k = 0 ∨ k = 1 ∨ k = 2 := by omega
      rcases this with rfl | rfl | rfl
      · exact a1
      · exact a2
      · exact a3)
    have x2 : ∀ h, mq (fun r k => F 5 (3 * r + k)) 1 h (nv (n 78)) = mr (fun k => n (79 + k)) h (nv (n 78)) := fun h => by
      have := mq_flat (fun k => n (79 + k)) 1 h (nv (n 78))
      rw [Nat.one_mul] at this
      rw [← this]
      refine mq_c h _ (fun r k hr hk => ?_)
      have e1 := (hE.2.2 r hr).1
      rw [show k = 0 by omega, Nat.one_mul]
      exact e1
    have x3 : ∀ h, mq (fun r k => F 6 (3 * r + k)) 2 h (nv (n 89)) = mr (fun k => n (91 + k)) h (2 * nv (n 89)) := fun h => by
      rw [← mq_flat (fun k => n (91 + k)) 2 h (nv (n 89))]
      refine mq_c h _ (fun r k hr hk => ?_)
      obtain ⟨e1, _, e2, _⟩ := hS.2.2.2.2.2 r hr
      have : k = 0 ∨ k = 1 := by omega
      rcases this with rfl | rfl
      · exact e1
      · exact e2
    have x4 : ∀ h, mq (fun r k => F 7 (3 * r + k)) 3 h (nv (n 107)) = mr (fun k => n (108 + k)) h (3 * nv (n 107)) := fun h => by
      rw [← mq_flat (fun k => n (108 + k)) 3 h (nv (n 107))]
      refine mq_c h _ (fun r k hr hk => ?_)
      obtain ⟨⟨e1, _⟩, ⟨e2, _⟩, ⟨e3, _⟩⟩ := hG.2.2 r hr
      have : k = 0 ∨ k = 1 ∨ k = 2 := by omega
      rcases this with rfl | rfl | rfl
      · exact e1
      · exact e2
      · exact e3
    rw [x1, x2, x3, x4]
  | d + 1, k, fu + 1, h, e, hfu => by
    rw [m_X4_mixedInto_L34, if_neg (show ¬ (6 : Int32) ≤ nI k from nI_ge (b := 6) (by omega) (by omega)), q_at (by omega) (by omega), (hr.2.2.1 k (by omega)).1]
    unfold m_X11_mixed
    rw [q_some, q_let, nI_1]
    exact dgL34 hr d (k + 1) fu h (by omega) (by omega)
theorem dgL5 (hr : relP F V n) : ∀ (d k fu : Nat) (h : Int64), k + d = 12 → d < fu → m_X4_mixedInto_L5 (V 13) (F 0) (F 1) (V 1) (F 3) (V 5) (F 5) (V 7) (F 6) (V 9) (F 7) fu (mr (fun k => n (0 + k)) h k) (nI k) = some (dgR n (mr (fun k => n (12 + k)) (mr (fun k => n (0 + k)) h 12) 6))
  | d, k, 0, h, _, h0 => absurd h0 (Nat.not_lt_zero d)
  | 0, k, fu + 1, h, e, _ => by
    rw [m_X4_mixedInto_L5, if_pos (show (12 : Int32) ≤ nI k from nI_le (a := 12) (by omega) (by omega)), show k = 12 by omega]
    exact dgL34 hr 6 0 mFU _ (by omega) (by unfold mFU; omega)
  | d + 1, k, fu + 1, h, e, hfu => by
    rw [m_X4_mixedInto_L5, if_neg (show ¬ (12 : Int32) ≤ nI k from nI_ge (b := 12) (by omega) (by omega)), q_at (by omega) (by omega), (hr.2.1 k (by omega)).1]
    unfold m_X11_mixed
    rw [q_some, q_let, nI_1]
    have := dgL5 hr d (k + 1) fu h (by omega) (by omega)
    rw [show mr (fun k => n (0 + k)) h (k + 1) = 31 * mr (fun k => n (0 + k)) h k + (n (0 + k)).toInt64 from rfl, Nat.zero_add] at this
    exact this
theorem dgR48 (hr : relP F V n) (u v : Int64) (T : Int32) : ∀ (d r fu : Nat) (h : Int64), r + d = nv (n 50) → d < fu → m_X12_digest_L48 u v T n fu (mq (fun r k => n (18 + 4 * r + k)) 3 h r) (nI r) = some (31 * (31 * dgR n h + u) + v, 31 * (31 * dgR n h + u) + v)
  | d, r, 0, h, _, h0 => absurd h0 (Nat.not_lt_zero d)
  | 0, r, fu + 1, h, e, _ => by
    have hL := hr.2.2.2.1
    have hE := hr.2.2.2.2.2.2.1
    have hS := hr.2.2.2.2.2.2.2.1
    have hG := hr.2.2.2.2.2.2.2.2
    have b1 := hL.2.1.1
    have b2 := hE.2.1.1
    have b3 := hS.2.1.1
    have b4 := hG.2.1.1
    rw [m_X12_digest_L48, show (50 : Int32) = nI 50 from rfl, show (78 : Int32) = nI 78 from rfl, show (90 : Int32) = nI 90 from rfl, show (89 : Int32) = nI 89 from rfl, show (107 : Int32) = nI 107 from rfl, q_at (by omega) (by omega), hL.2.1.2, if_pos (nI_le (by omega) (by omega)), q_at (by omega) (by omega), hE.2.1.2, q_call (show m_X12_mixRow _ n (79 : Int32) _ = _ from mixRow_ok n 79 _ (by omega) _), q_at (by omega) (by omega)]
    unfold m_X12_mix
    rw [q_let, q_some, q_at (by omega) (by omega), hS.2.1.2, show (2 : Int32) * nI (nv (n 89)) = nI (2 * nv (n 89)) from pk_mul 2 _, q_call (show m_X12_mixRow _ n (91 : Int32) _ = _ from mixRow_ok n 91 _ (by omega) _), q_at (by omega) (by omega), hG.2.1.2, show (3 : Int32) * nI (nv (n 107)) = nI (3 * nv (n 107)) from pk_mul 3 _, q_call (show m_X12_mixRow _ n (108 : Int32) _ = _ from mixRow_ok n 108 _ (by omega) _), q_let, q_some, q_let, q_some]
    unfold dgR
    rw [show r = nv (n 50) by omega]
  | d + 1, r, fu + 1, h, e, hfu => by
    have hL := hr.2.2.2.1
    have b1 := hL.2.1.1
    have g2 : ¬ n 50 ≤ nI r := by rw [hL.2.1.2]; exact nI_ge (by omega) (by omega)
    rw [m_X12_digest_L48, show (50 : Int32) = nI 50 from rfl, q_at (by omega) (by omega), if_neg g2, show (4 : Int32) * nI r = nI (4 * r) from pk_mul 4 r, show (18 : Int32) + nI (4 * r) = nI (18 + 4 * r) from nI_add 18 _, q_call (show m_X12_mixRow _ n (nI (18 + 4 * r)) (3 : Int32) = _ from mixRow_ok n (18 + 4 * r) 3 (by omega) _), q_let, nI_1]
    exact dgR48 hr u v T d (r + 1) fu h (by omega) (by omega)
theorem digest_aux (hr : relP F V n) (u v : Int64) (T : Int32) : ∀ (d k fu fu2 : Nat) (h : Int64), k + d = 9 → d < fu → d < fu2 → ∃ y, m_X11_digest_L6 u v T (V 10) (V 11) (V 12) (V 13) (V 3) (V 9) (V 7) (V 5) (V 1) (F 0) (F 1) (F 3) (F 5) (F 6) (F 7) fu h (nI k) = some y ∧ m_X12_digest_L9 u v T n fu2 h (nI k) = some (y, y)
  | d, k, 0, _, h, _, h0, _ => absurd h0 (Nat.not_lt_zero d)
  | d, k, _ + 1, 0, h, _, _, h0 => absurd h0 (Nat.not_lt_zero d)
  | 0, k, fu + 1, fu2 + 1, h, e, _, _ => by
    have h9 := hr.2.2.2.1.2.1.1
    refine ⟨31 * (31 * dgR n (mr (fun k => n (12 + k)) (mr (fun k => n (0 + k)) h 12) 6) + u) + v, ?_, ?_⟩
    · rw [m_X11_digest_L6, if_pos (show (9 : Int32) ≤ nI k from nI_le (a := 9) (by omega) (by omega))]
      unfold m_X4_mixedInto m_X11_mixed
      rw [q_call (show m_X4_mixedInto_L5 (V 13) (F 0) (F 1) (V 1) (F 3) (V 5) (F 5) (V 7) (F 6) (V 9) (F 7) mFU h (0 : Int32) = _ from dgL5 hr 12 0 mFU h (by omega) (by unfold mFU; omega)), q_some, q_some]
    · rw [m_X12_digest_L9, if_pos (show (9 : Int32) ≤ nI k from nI_le (a := 9) (by omega) (by omega)), q_call (show m_X12_mixRow h n (0 : Int32) (12 : Int32) = _ from mixRow_ok n 0 12 (by omega) _), q_call (show m_X12_mixRow _ n (12 : Int32) (6 : Int32) = _ from mixRow_ok n 12 6 (by omega) _)]
      exact dgR48 hr u v T (nv (n 50)) 0 mFU _ (by omega) (by unfold mFU; omega)
  | d + 1, k, fu + 1, fu2 + 1, h, e, hfu, hfu2 => by
    obtain ⟨x, x1, x2⟩ := counted_c (T := T) hr (k := k) (by omega)
    rw [m_X11_digest_L6, m_X12_digest_L9, if_neg (show ¬ (9 : Int32) ≤ nI k from nI_ge (b := 9) (by omega) (by omega)), if_neg (show ¬ (9 : Int32) ≤ nI k from nI_ge (b := 9) (by omega) (by omega)), q_call x1, q_call x2]
    unfold m_X11_mixed m_X12_mix
    rw [q_some, q_let, q_let, q_some, q_let, nI_1]
    exact digest_aux hr u v T d (k + 1) fu fu2 _ (by omega) (by omega) (by omega)
end DG
theorem o_digest : opSpec_digest Rel := by
  intro FI FL VI VL h
  have hT : VI 56 = VI 65 := h.2.2.2.1.1
  have hA : VL 0 = VL 2 := h.2.2.2.2.2.1
  have hB : VL 1 = VL 3 := h.2.2.2.2.2.2
  obtain ⟨y, y1, y2⟩ := digest_aux h.1 (VL 2) (VL 3) (VI 65) 9 0 mFU mFU 1091 (by omega) (by unfold mFU; omega) (by unfold mFU; omega)
  refine ⟨y, (y, y), ?_, ?_, rfl, h⟩
  · unfold m_X11_digest
    rw [hA, hB, hT]
    exact y1
  · unfold m_X12_digest
    exact y2
