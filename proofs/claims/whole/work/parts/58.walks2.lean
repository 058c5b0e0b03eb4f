-- walks: how many ways, as numbers
def rN (g : Nat → Nat) (c : Nat) : Nat → Nat
  | 0 => 0
  | a + 1 => rN g c a + (if bs a c = true then g a else 0)
def fwN (n : Nat → Int32) (N : Nat) : Nat → Nat → Nat
  | 0, c => if cb n 0 c N = true then 1 else 0
  | d + 1, c => if cb n (d + 1) c N = true then rN (fwN n N d) c 9 else 0
def bwN (n : Nat → Int32) (N : Nat) : Nat → Nat → Nat
  | 0, c => if cb n 11 c N = true then 1 else 0
  | e + 1, c => if cb n (10 - e) c N = true then rN (bwN n N e) c 9 else 0
def tN (g : Nat → Nat) : Nat → Nat
  | 0 => 0
  | k + 1 => tN g k + g k
theorem rs_lN {g : Nat → Int64} {h : Nat → Nat} {c : Nat} : ∀ k, (∀ a, a < k → g a = lN (h a)) → rs g c k = lN (rN h c k)
  | 0, _ => rfl
  | k + 1, e => by
    show rs g c k + tb g c k = lN (rN h c k + (if bs k c = true then h k else 0))
    rw [rs_lN k (fun a ha => e a (by omega)), ← lN_add]
    unfold tb
    by_cases hb : bs k c = true
    · rw [if_pos hb, if_pos hb, e k (by omega)]
    · rw [if_neg hb, if_neg hb]
      rfl
theorem rN_le {g : Nat → Nat} {c B : Nat} (h : ∀ a, g a ≤ B) : ∀ k, rN g c k ≤ k * B
  | 0 => Nat.zero_le _
  | k + 1 => by
    show rN g c k + (if bs k c = true then g k else 0) ≤ (k + 1) * B
    have h1 := rN_le (c := c) h k
    have h2 := h k
    rw [Nat.succ_mul]
    by_cases hb : bs k c = true
    · rw [if_pos hb]; omega
    · rw [if_neg hb]; omega
theorem fw_le (n : Nat → Int32) (N : Nat) : ∀ d c, fwN n N d c ≤ 9 ^ d
  | 0, c => by
    show (if cb n 0 c N = true then 1 else 0) ≤ 1
    by_cases h : cb n 0 c N = true
    · rw [if_pos h]; omega
    · rw [if_neg h]; omega
  | d + 1, c => by
    show (if cb n (d + 1) c N = true then rN (fwN n N d) c 9 else 0) ≤ 9 ^ (d + 1)
    have h1 := rN_le (c := c) (fw_le n N d) 9
    have e : (9 : Nat) ^ (d + 1) = 9 * 9 ^ d := by rw [Nat.pow_succ, Nat.mul_comm]
    by_cases h : cb n (d + 1) c N = true
    · rw [if_pos h, e]; exact h1
    · rw [if_neg h]; exact Nat.zero_le _
theorem bw_le (n : Nat → Int32) (N : Nat) : ∀ d c, bwN n N d c ≤ 9 ^ d
  | 0, c => by
    show (if cb n 11 c N = true then 1 else 0) ≤ 1
    by_cases h : cb n 11 c N = true
    · rw [if_pos h]; omega
    · rw [if_neg h]; omega
  | d + 1, c => by
    show (if cb n (10 - d) c N = true then rN (bwN n N d) c 9 else 0) ≤ 9 ^ (d + 1)
    have h1 := rN_le (c := c) (bw_le n N d) 9
    have e : (9 : Nat) ^ (d + 1) = 9 * 9 ^ d := by rw [Nat.pow_succ, Nat.mul_comm]
    by_cases h : cb n (10 - d) c N = true
    · rw [if_pos h, e]; exact h1
    · rw [if_neg h]; exact Nat.zero_le _
theorem p9_le {d : Nat} (h : d ≤ 11) : 9 ^ d ≤ 31381059609 := Nat.le_trans (Nat.pow_le_pow_right (n := 9) (by omega) h) (by decide)
theorem fw_s {n : Nat → Int32} {N d c : Nat} (h : d ≤ 11) : fwN n N d c < 2 ^ 63 := by
  have h1 := fw_le n N d c
  have h2 := p9_le h
  omega
theorem bw_s {n : Nat → Int32} {N d c : Nat} (h : d ≤ 11) : bwN n N d c < 2 ^ 63 := by
  have h1 := bw_le n N d c
  have h2 := p9_le h
  omega
/-- the class's rows -/
theorem op_0 {op n : Nat → Int32} {N d c : Nat} (ho : okp op n N) (hd : d < 12) (hc : c < 9) {α : Type} (x y : α) : (if op (9 * d + c) = 0 then x else y) = if cb n d c N = true then y else x := by
  rw [ho d c hd hc]
  by_cases h : cb n d c N = true
  · rw [b2_t h, if_neg one_ne0, if_pos h]
  · rw [b2_f h, if_pos rfl, if_neg h]
section CW
variable {F : Nat → Nat → Int32} {V n : Nat → Int32} {N : Nat} {op : Nat → Int32}
def toOk (n : Nat → Int32) (N : Nat) (f : Nat → Int64) (L : Nat) : Prop := ∀ d c, d < L → c < 9 → f (9 * d + c) = lN (fwN n N d c)
def onOk (n : Nat → Int32) (N : Nat) (f : Nat → Int64) (L : Nat) : Prop := ∀ e c, e < L → c < 9 → f (9 * (11 - e) + c) = lN (bwN n N e c)
theorem updL_eq {f : Nat → Int64} {k : Nat} {x : Int64} : vp_updL f k x k = x := pk_uLs
theorem updL_ne {f : Nat → Int64} {k j : Nat} {x : Int64} (h : j ≠ k) : vp_updL f k x j = f j := pk_uLn h
theorem lN_if (p : Prop) [Decidable p] (a b : Nat) : lN (if p then a else b) = if p then lN a else lN b := by
  by_cases h : p
  · rw [if_pos h, if_pos h]
  · rw [if_neg h, if_neg h]
theorem cw116 (v : Int32) (g : Nat → Int32) {wo : Nat → Int64} {h : Nat → Nat} (hv : ∀ c, c < 9 → wo c = lN (h c)) (wt : Nat → Int64) : ∀ (m k fu : Nat), k + m = 9 → m < fu → m_X2_countWalks_L116 v g fu op wt wo (lN (tN h k)) (nI k) = some (lN (tN h 9), op, wt, wo)
  | m, k, 0, _, h0 => absurd h0 (Nat.not_lt_zero m)
  | 0, k, fu + 1, e, _ => by
    rw [m_X2_countWalks_L116, if_pos (show (9 : Int32) ≤ nI k from nI_le (a := 9) (by omega) (by omega)), show k = 9 by omega]
  | m + 1, k, fu + 1, e, hfu => by
    rw [m_X2_countWalks_L116, if_neg (show ¬ (9 : Int32) ≤ nI k from nI_ge (b := 9) (by omega) (by omega)), q_at (by omega) (by omega), hv k (by omega), lN_add, q_let, q_let, nI_1]
    exact cw116 v g hv wt m (k + 1) fu (by omega) (by omega)
theorem cw69 (v : Int32) (g : Nat → Int32) (ho : okp op n N) : ∀ (m p fu : Nat) (wt wo : Nat → Int64), p + m = 11 → m < fu → toOk n N wt (p + 1) → onOk n N wo (p + 1) → ∃ wt' wo', m_X2_countWalks_L69 v g fu op wt wo (nI (p + 1)) = some (lN (tN (bwN n N 11) 9), op, wt', wo') ∧ toOk n N wt' 12 ∧ onOk n N wo' 12
  | m, p, 0, wt, wo, _, h0, _, _ => absurd h0 (Nat.not_lt_zero m)
  | 0, p, fu + 1, wt, wo, e, _, ht, hn => by
    have ep : p = 11 := by omega
    subst ep
    refine ⟨wt, wo, ?_, ht, hn⟩
    rw [m_X2_countWalks_L69, if_pos (by decide)]
    exact cw116 v g (fun c hc => by
      have := hn 11 c (by omega) hc
      rw [show 9 * (11 - 11) + c = c by omega] at this
      exact this) wt 9 0 mFU (by omega) (by unfold mFU; omega)
  | m + 1, p, fu + 1, wt, wo, e, hfu, ht, hn => by
    rw [m_X2_countWalks_L69, if_neg (show ¬ (12 : Int32) ≤ nI (p + 1) from nI_ge (b := 12) (by omega) (by omega)), nI_pred, q_call (spread_ok op wt (by omega) (by omega) (by omega)), show (12 : Int32) - nI (p + 1) = nI (11 - p) from (pk_sub (a := 12) (by omega)).trans (congrArg nI (by omega)), show nI (11 - p) - (1 : Int32) = nI (10 - p) from (pk_sub (b := 1) (by omega)).trans (congrArg nI (by omega)), q_call (spread_ok op wo (by omega) (by omega) (by omega)), q_let, nI_1]
    refine cw69 v g ho m (p + 1) fu _ _ (by omega) (by omega) (fun d c hd hc => ?_) (fun d c hd hc => ?_)
    · by_cases hdp : d = p + 1
      · subst hdp
        rw [spF_in hc, op_0 ho (by omega) hc, rs_lN (h := fwN n N p) 9 (fun a ha => ht p a (by omega) ha)]
        exact (lN_if _ _ _).symm
      · rw [spF_out hc hdp]
        exact ht d c (by omega) hc
    · by_cases hdp : d = p + 1
      · subst hdp
        rw [show 11 - (p + 1) = 10 - p by omega, spF_in hc, op_0 ho (by omega) hc, rs_lN (h := bwN n N p) 9 (fun a ha => hn p a (by omega) ha)]
        exact (lN_if _ _ _).symm
      · rw [spF_out hc (by omega)]
        exact hn d c (by omega) hc
theorem cw35 (v : Int32) (g : Nat → Int32) (k10 : (Nat → Int32) → (Nat → Int64) → (Nat → Int64) → Int32 → Option (Int64 × (Nat → Int32) × (Nat → Int64) × (Nat → Int64))) (ho : okp op n N) (wt wo : Nat → Int64) {c : Nat} (hc : c < 9) (s0 : Int64) : m_X2_countWalks_B35 v g k10 op wt wo (nI c) s0 (nI c) = k10 op (vp_updL wt c s0) (vp_updL wo (99 + c) (lN (bwN n N 0 c))) (nI (c + 1)) := by
  unfold m_X2_countWalks_B35
  rw [q_wrL (by omega) (by omega), show (99 : Int32) + nI c = nI (99 + c) from nI_add 99 c, q_let, q_at (by omega) (by omega), nI_1, show 99 + c = 9 * 11 + c by omega, op_0 ho (by omega) hc]
  show _ = k10 op (vp_updL wt c s0) (vp_updL wo (9 * 11 + c) (lN (if cb n 11 c N = true then 1 else 0))) (nI (c + 1))
  by_cases h : cb n 11 c N = true
  · rw [if_pos h, if_pos h, q_wrL (by omega) (by omega), q_let]
    rfl
  · rw [if_neg h, if_neg h, q_wrL (by omega) (by omega), q_let]
    rfl
theorem cw10 (v : Int32) (g : Nat → Int32) (ho : okp op n N) : ∀ (m k fu : Nat) (wt wo : Nat → Int64), k + m = 9 → m < fu → (∀ c, c < k → wt c = lN (fwN n N 0 c) ∧ wo (99 + c) = lN (bwN n N 0 c)) → ∃ wt' wo', m_X2_countWalks_L10 v g fu op wt wo (nI k) = some (lN (tN (bwN n N 11) 9), op, wt', wo') ∧ toOk n N wt' 12 ∧ onOk n N wo' 12
  | m, k, 0, wt, wo, _, h0, _ => absurd h0 (Nat.not_lt_zero m)
  | 0, k, fu + 1, wt, wo, e, _, hi => by
    have ek : k = 9 := by omega
    subst ek
    rw [m_X2_countWalks_L10, if_pos (by decide)]
    refine cw69 v g ho 11 0 mFU wt wo (by omega) (by unfold mFU; omega) (fun d c hd hc => ?_) (fun d c hd hc => ?_)
    · have ed : d = 0 := by omega
      subst ed
      rw [show 9 * 0 + c = c by omega]
      exact (hi c hc).1
    · have ed : d = 0 := by omega
      subst ed
      rw [show 9 * (11 - 0) + c = 99 + c by omega]
      exact (hi c hc).2
  | m + 1, k, fu + 1, wt, wo, e, hfu, hi => by
    have go : ∀ s0 : Int64, s0 = lN (fwN n N 0 k) → ∃ wt' wo', m_X2_countWalks_B35 v g (m_X2_countWalks_L10 v g fu) op wt wo (nI k) s0 (nI k) = some (lN (tN (bwN n N 11) 9), op, wt', wo') ∧ toOk n N wt' 12 ∧ onOk n N wo' 12 := by
      intro s0 hs
      rw [cw35 v g _ ho wt wo (by omega)]
      refine cw10 v g ho m (k + 1) fu _ _ (by omega) (by omega) (fun c hc => ?_)
      by_cases hck : c = k
      · subst hck
        rw [updL_eq, updL_eq]
        exact ⟨hs, rfl⟩
      · rw [updL_ne hck, updL_ne (by omega)]
        exact hi c (by omega)
    have h0 := ho 0 k (by omega) (by omega)
    rw [show 9 * 0 + k = k by omega] at h0
    rw [m_X2_countWalks_L10, if_neg (show ¬ (9 : Int32) ≤ nI k from nI_ge (b := 9) (by omega) (by omega)), q_at (by omega) (by omega), h0]
    by_cases h : cb n 0 k N = true
    · rw [b2_t h, if_neg one_ne0]
      exact go 1 (by show (1 : Int64) = lN (if cb n 0 k N = true then 1 else 0); rw [if_pos h]; rfl)
    · rw [b2_f h, if_pos rfl]
      exact go 0 (by show (0 : Int64) = lN (if cb n 0 k N = true then 1 else 0); rw [if_neg h]; rfl)
theorem countWalks_ok (hG : relG F V n) (f : Nat → Int32) (wt wo : Nat → Int64) : ∃ op' wt' wo', m_X2_countWalks f (V 9) (F 7) wt wo = some (lN (tN (bwN n (nv (n 107)) 11) 9), op', wt', wo') ∧ toOk n (nv (n 107)) wt' 12 ∧ onOk n (nv (n 107)) wo' 12 := by
  obtain ⟨op', o1, o2⟩ := closeCells_ok hG f
  obtain ⟨wt', wo', c1, c2, c3⟩ := cw10 (V 9) (F 7) o2 9 0 mFU wt wo (by omega) (by unfold mFU; omega) (fun c hc => absurd hc (Nat.not_lt_zero c))
  refine ⟨op', wt', wo', ?_, c2, c3⟩
  unfold m_X2_countWalks
  rw [q_call o1]
  exact c1
-- the reference's
theorem lw29 (k2 : (Nat → Int64) → (Nat → Int64) → Int32 → Option ((Nat → Int64) × (Nat → Int64))) (k10 : (Nat → Int64) → (Nat → Int64) → Int32 → Int32 → Option ((Nat → Int64) × (Nat → Int64))) (fo ba : Nat → Int64) {p c : Nat} (hp : p < 11) (hc : c < 9) : ∀ (m a fu : Nat), a + m = 9 → m < fu → m_X12_layWalks_L29 n k2 k10 fu fo ba (nI (p + 1)) (nI c) (rs (fun a => fo (9 * p + a)) c a) (nI a) = m_X12_layWalks_B76 n k2 k10 fo ba (nI (p + 1)) (nI c) (rs (fun a => fo (9 * p + a)) c 9)
  | m, a, 0, _, h0 => absurd h0 (Nat.not_lt_zero m)
  | 0, a, fu + 1, e, _ => by
    rw [m_X12_layWalks_L29, if_pos (show (9 : Int32) ≤ nI a from nI_le (a := 9) (by omega) (by omega)), show a = 9 by omega]
  | m + 1, a, fu + 1, e, hfu => by
    have hx := lw29 k2 k10 fo ba hp hc m (a + 1) fu (by omega) (by omega)
    rw [show rs (fun a => fo (9 * p + a)) c (a + 1) = rs (fun a => fo (9 * p + a)) c a + (if bs a c = true then fo (9 * p + a) else 0) from rfl] at hx
    rw [m_X12_layWalks_L29, if_neg (show ¬ (9 : Int32) ≤ nI a from nI_ge (b := 9) (by omega) (by omega)), if_neg (nI_nle (by omega) (by omega)), q_call (bs_tab a (by omega) c hc).1]
    by_cases h : bs a c = true
    · rw [if_pos h] at hx
      rw [b2_t h, if_neg one_ne0, nI_pred, show (9 : Int32) * nI p = nI (9 * p) from pk_mul 9 p, nI_add, q_at (by omega) (by omega), q_let, q_let, nI_1]
      exact hx
    · rw [if_neg h] at hx
      rw [b2_f h, if_pos rfl, q_let, q_let, nI_1]
      exact hx
theorem lw76 (hG : relG F V n) (k2 : (Nat → Int64) → (Nat → Int64) → Int32 → Option ((Nat → Int64) × (Nat → Int64))) (k10 : (Nat → Int64) → (Nat → Int64) → Int32 → Int32 → Option ((Nat → Int64) × (Nat → Int64))) (fo ba : Nat → Int64) {d c : Nat} (hd : d < 12) (hc : c < 9) (s : Int64) : m_X12_layWalks_B76 n k2 k10 fo ba (nI d) (nI c) s = k10 (vp_updL fo (9 * d + c) (if cb n d c (nv (n 107)) = true then s else 0)) ba (nI d) (nI (c + 1)) := by
  unfold m_X12_layWalks_B76
  rw [q_call (canBe_ok hG d c), show (9 : Int32) * nI d = nI (9 * d) from pk_mul 9 d, nI_add, nI_1]
  by_cases h : cb n d c (nv (n 107)) = true
  · rw [b2_t h, if_neg one_ne0, if_pos h, q_wrL (by omega) (by omega), q_let]
  · rw [b2_f h, if_pos rfl, if_neg h, q_wrL (by omega) (by omega), q_let]
theorem lw10 (hG : relG F V n) (k2 : (Nat → Int64) → (Nat → Int64) → Int32 → Option ((Nat → Int64) × (Nat → Int64))) (ba : Nat → Int64) {d : Nat} (hd : d < 12) : ∀ (m c fu : Nat) (fo : Nat → Int64), c + m = 9 → m < fu → toOk n (nv (n 107)) fo d → (∀ q, q < c → fo (9 * d + q) = lN (fwN n (nv (n 107)) d q)) → ∃ fo', m_X12_layWalks_L10 n k2 fu fo ba (nI d) (nI c) = k2 fo' ba (nI (d + 1)) ∧ toOk n (nv (n 107)) fo' (d + 1)
  | m, c, 0, fo, _, h0, _, _ => absurd h0 (Nat.not_lt_zero m)
  | 0, c, fu + 1, fo, e, _, ht, hq => by
    refine ⟨fo, ?_, fun d' q hd' hq' => ?_⟩
    · rw [m_X12_layWalks_L10, if_pos (show (9 : Int32) ≤ nI c from nI_le (a := 9) (by omega) (by omega)), q_let, nI_1]
    · by_cases hdd : d' = d
      · rw [hdd]; exact hq q (by omega)
      · exact ht d' q (by omega) hq'
  | m + 1, c, fu + 1, fo, e, hfu, ht, hq => by
    have go : ∀ s : Int64, (if cb n d c (nv (n 107)) = true then s else 0) = lN (fwN n (nv (n 107)) d c) → ∃ fo', m_X12_layWalks_B76 n k2 (m_X12_layWalks_L10 n k2 fu) fo ba (nI d) (nI c) s = k2 fo' ba (nI (d + 1)) ∧ toOk n (nv (n 107)) fo' (d + 1) := by
      intro s hs
      rw [lw76 hG k2 _ fo ba hd (by omega), hs]
      refine lw10 hG k2 ba hd m (c + 1) fu _ (by omega) (by omega) (fun d' q hd' hq' => ?_) (fun q hq' => ?_)
      · rw [updL_ne (by omega)]
        exact ht d' q hd' hq'
      · by_cases hqc : q = c
        · rw [hqc, updL_eq]
        · rw [updL_ne (by omega)]
          exact hq q (by omega)
    rw [m_X12_layWalks_L10, if_neg (show ¬ (9 : Int32) ≤ nI c from nI_ge (b := 9) (by omega) (by omega))]
    cases d with
    | zero =>
      rw [if_pos (show nI 0 = (0 : Int32) from rfl)]
      have e1 : m_X12_layWalks_L29 n k2 (m_X12_layWalks_L10 n k2 fu) mFU fo ba (nI 0) (nI c) (1 : Int64) (0 : Int32) = m_X12_layWalks_B76 n k2 (m_X12_layWalks_L10 n k2 fu) fo ba (nI 0) (nI c) (1 : Int64) := by
        show m_X12_layWalks_L29 n k2 (m_X12_layWalks_L10 n k2 fu) (999 + 1) fo ba (nI 0) (nI c) (1 : Int64) (0 : Int32) = _
        rw [m_X12_layWalks_L29, if_neg (by decide), if_pos (by decide)]
      rw [e1]
      exact go 1 (lN_if _ 1 0).symm
    | succ p =>
      rw [if_neg (nI_ne0 (by omega) (by omega))]
      have e1 := lw29 (n := n) k2 (m_X12_layWalks_L10 n k2 fu) fo ba (p := p) (c := c) (by omega) (by omega) 9 0 mFU (by omega) (by unfold mFU; omega)
      rw [show m_X12_layWalks_L29 n k2 (m_X12_layWalks_L10 n k2 fu) mFU fo ba (nI (p + 1)) (nI c) (0 : Int64) (0 : Int32) = _ from e1]
      refine go _ ?_
      rw [rs_lN (h := fwN n (nv (n 107)) p) 9 (fun a ha => ht p a (by omega) ha)]
      exact (lN_if _ _ 0).symm
theorem lw143 (k116 : (Nat → Int64) → (Nat → Int64) → Int32 → Option ((Nat → Int64) × (Nat → Int64))) (k122 : (Nat → Int64) → (Nat → Int64) → Int32 → Int32 → Option ((Nat → Int64) × (Nat → Int64))) (fo ba : Nat → Int64) {d c : Nat} (hd : d < 11) (hc : c < 9) : ∀ (m a fu : Nat), a + m = 9 → m < fu → m_X12_layWalks_L143 n k116 k122 fu fo ba (nI d) (nI c) (rs (fun a => ba (9 * (d + 1) + a)) c a) (nI a) = m_X12_layWalks_B192 n k116 k122 fo ba (nI d) (nI c) (rs (fun a => ba (9 * (d + 1) + a)) c 9)
  | m, a, 0, _, h0 => absurd h0 (Nat.not_lt_zero m)
  | 0, a, fu + 1, e, _ => by
    rw [m_X12_layWalks_L143, if_pos (show (9 : Int32) ≤ nI a from nI_le (a := 9) (by omega) (by omega)), show a = 9 by omega]
  | m + 1, a, fu + 1, e, hfu => by
    have hx := lw143 k116 k122 fo ba hd hc m (a + 1) fu (by omega) (by omega)
    rw [show rs (fun a => ba (9 * (d + 1) + a)) c (a + 1) = rs (fun a => ba (9 * (d + 1) + a)) c a + (if bs a c = true then ba (9 * (d + 1) + a) else 0) from rfl] at hx
    rw [m_X12_layWalks_L143, if_neg (show ¬ (9 : Int32) ≤ nI a from nI_ge (b := 9) (by omega) (by omega)), if_neg (show ¬ (11 : Int32) ≤ nI d from nI_ge (b := 11) (by omega) (by omega)), q_call (bs_tab a (by omega) c hc).2.1]
    by_cases h : bs a c = true
    · rw [if_pos h] at hx
      rw [b2_t h, if_neg one_ne0, nI_1 d, show (9 : Int32) * nI (d + 1) = nI (9 * (d + 1)) from pk_mul 9 _, nI_add, q_at (by omega) (by omega), q_let, q_let, nI_1]
      exact hx
    · rw [if_neg h] at hx
      rw [b2_f h, if_pos rfl, q_let, q_let, nI_1]
      exact hx
theorem lw192 (hG : relG F V n) (k116 : (Nat → Int64) → (Nat → Int64) → Int32 → Option ((Nat → Int64) × (Nat → Int64))) (k122 : (Nat → Int64) → (Nat → Int64) → Int32 → Int32 → Option ((Nat → Int64) × (Nat → Int64))) (fo ba : Nat → Int64) {d c : Nat} (hd : d < 12) (hc : c < 9) (s : Int64) : m_X12_layWalks_B192 n k116 k122 fo ba (nI d) (nI c) s = k122 fo (vp_updL ba (9 * d + c) (if cb n d c (nv (n 107)) = true then s else 0)) (nI d) (nI (c + 1)) := by
  unfold m_X12_layWalks_B192
  rw [q_call (canBe_ok hG d c), show (9 : Int32) * nI d = nI (9 * d) from pk_mul 9 d, nI_add, nI_1]
  by_cases h : cb n d c (nv (n 107)) = true
  · rw [b2_t h, if_neg one_ne0, if_pos h, q_wrL (by omega) (by omega), q_let]
  · rw [b2_f h, if_pos rfl, if_neg h, q_wrL (by omega) (by omega), q_let]
theorem lw122 (hG : relG F V n) (k116 : (Nat → Int64) → (Nat → Int64) → Int32 → Option ((Nat → Int64) × (Nat → Int64))) (fo : Nat → Int64) {u : Nat} (hu : u < 12) : ∀ (m c fu : Nat) (ba : Nat → Int64), c + m = 9 → m < fu → onOk n (nv (n 107)) ba u → (∀ q, q < c → ba (9 * (11 - u) + q) = lN (bwN n (nv (n 107)) u q)) → ∃ ba', m_X12_layWalks_L122 n k116 fu fo ba (nI (11 - u)) (nI c) = k116 fo ba' (nI (11 - u) + (-1)) ∧ onOk n (nv (n 107)) ba' (u + 1)
  | m, c, 0, ba, _, h0, _, _ => absurd h0 (Nat.not_lt_zero m)
  | 0, c, fu + 1, ba, e, _, ht, hq => by
    refine ⟨ba, ?_, fun d' q hd' hq' => ?_⟩
    · rw [m_X12_layWalks_L122, if_pos (show (9 : Int32) ≤ nI c from nI_le (a := 9) (by omega) (by omega)), q_let]
    · by_cases hdd : d' = u
      · rw [hdd]; exact hq q (by omega)
      · exact ht d' q (by omega) hq'
  | m + 1, c, fu + 1, ba, e, hfu, ht, hq => by
    have go : ∀ s : Int64, (if cb n (11 - u) c (nv (n 107)) = true then s else 0) = lN (bwN n (nv (n 107)) u c) → ∃ ba', m_X12_layWalks_B192 n k116 (m_X12_layWalks_L122 n k116 fu) fo ba (nI (11 - u)) (nI c) s = k116 fo ba' (nI (11 - u) + (-1)) ∧ onOk n (nv (n 107)) ba' (u + 1) := by
      intro s hs
      rw [lw192 hG k116 _ fo ba (by omega) (by omega), hs]
      refine lw122 hG k116 fo hu m (c + 1) fu _ (by omega) (by omega) (fun d' q hd' hq' => ?_) (fun q hq' => ?_)
      · rw [updL_ne (by omega)]
        exact ht d' q hd' hq'
      · by_cases hqc : q = c
        · rw [hqc, updL_eq]
        · rw [updL_ne (by omega)]
          exact hq q (by omega)
    rw [m_X12_layWalks_L122, if_neg (show ¬ (9 : Int32) ≤ nI c from nI_ge (b := 9) (by omega) (by omega))]
    cases u with
    | zero =>
      rw [if_pos (show nI (11 - 0) = (11 : Int32) from rfl)]
      have e1 : m_X12_layWalks_L143 n k116 (m_X12_layWalks_L122 n k116 fu) mFU fo ba (nI (11 - 0)) (nI c) (1 : Int64) (0 : Int32) = m_X12_layWalks_B192 n k116 (m_X12_layWalks_L122 n k116 fu) fo ba (nI (11 - 0)) (nI c) (1 : Int64) := by
        show m_X12_layWalks_L143 n k116 (m_X12_layWalks_L122 n k116 fu) (999 + 1) fo ba (nI (11 - 0)) (nI c) (1 : Int64) (0 : Int32) = _
        rw [m_X12_layWalks_L143, if_neg (by decide), if_pos (by decide)]
      rw [e1]
      exact go 1 (lN_if _ 1 0).symm
    | succ p =>
      rw [if_neg (show ¬ nI (11 - (p + 1)) = (11 : Int32) from fun q => by have := (nI_eq (b := 11) (by omega) (by omega)).mp q; omega)]
      have e1 := lw143 (n := n) k116 (m_X12_layWalks_L122 n k116 fu) fo ba (d := 11 - (p + 1)) (c := c) (by omega) (by omega) 9 0 mFU (by omega) (by unfold mFU; omega)
      rw [show m_X12_layWalks_L143 n k116 (m_X12_layWalks_L122 n k116 fu) mFU fo ba (nI (11 - (p + 1))) (nI c) (0 : Int64) (0 : Int32) = _ from e1]
      refine go _ ?_
      rw [rs_lN (h := bwN n (nv (n 107)) p) 9 (fun a ha => by
        rw [show 11 - (p + 1) + 1 = 11 - p by omega]
        exact ht p a (by omega) ha), show 11 - (p + 1) = 10 - p by omega]
      exact (lN_if _ _ 0).symm
theorem lw116 (hG : relG F V n) (fo : Nat → Int64) : ∀ (m u fu : Nat) (ba : Nat → Int64), u + m = 11 → m + 1 < fu → onOk n (nv (n 107)) ba u → ∃ ba', m_X12_layWalks_L116 n fu fo ba (nI (11 - u)) = some (fo, ba') ∧ onOk n (nv (n 107)) ba' 12
  | m, u, 0, ba, _, h0, _ => absurd h0 (Nat.not_lt_zero _)
  | m, u, fu + 1, ba, e, hfu, ht => by
    obtain ⟨ba1, b1, b2⟩ := lw122 hG (m_X12_layWalks_L116 n fu) fo (u := u) (by omega) 9 0 mFU ba (by omega) (by unfold mFU; omega) ht (fun q hq => absurd hq (Nat.not_lt_zero q))
    rw [m_X12_layWalks_L116, if_neg (nI_pos (by omega)), show m_X12_layWalks_L122 n (m_X12_layWalks_L116 n fu) mFU fo ba (nI (11 - u)) (0 : Int32) = _ from b1]
    cases m with
    | zero =>
      have eu : u = 11 := by omega
      subst eu
      obtain ⟨z, rfl⟩ : ∃ z, fu = z + 1 := ⟨fu - 1, by omega⟩
      refine ⟨ba1, ?_, b2⟩
      rw [m_X12_layWalks_L116, if_pos (by decide)]
    | succ m' =>
      rw [show nI (11 - u) + (-1) = nI (11 - (u + 1)) by rw [show 11 - u = 11 - (u + 1) + 1 by omega, pk_m1]]
      exact lw116 hG fo m' (u + 1) fu ba1 (by omega) (by omega) b2
theorem lw2 (hG : relG F V n) (ba : Nat → Int64) : ∀ (m d fu : Nat) (fo : Nat → Int64), d + m = 12 → m < fu → toOk n (nv (n 107)) fo d → ∃ fo' ba', m_X12_layWalks_L2 n fu fo ba (nI d) = some (fo', ba') ∧ toOk n (nv (n 107)) fo' 12 ∧ onOk n (nv (n 107)) ba' 12
  | m, d, 0, fo, _, h0, _ => absurd h0 (Nat.not_lt_zero m)
  | 0, d, fu + 1, fo, e, _, ht => by
    have ed : d = 12 := by omega
    subst ed
    obtain ⟨ba', b1, b2⟩ := lw116 hG fo 11 0 mFU ba (by omega) (by unfold mFU; omega) (fun e c he hc => absurd he (Nat.not_lt_zero e))
    refine ⟨fo, ba', ?_, ht, b2⟩
    rw [m_X12_layWalks_L2, if_pos (by decide)]
    exact b1
  | m + 1, d, fu + 1, fo, e, hfu, ht => by
    obtain ⟨fo1, f1, f2⟩ := lw10 hG (m_X12_layWalks_L2 n fu) ba (d := d) (by omega) 9 0 mFU fo (by omega) (by unfold mFU; omega) ht (fun q hq => absurd hq (Nat.not_lt_zero q))
    rw [m_X12_layWalks_L2, if_neg (show ¬ (12 : Int32) ≤ nI d from nI_ge (b := 12) (by omega) (by omega)), show m_X12_layWalks_L10 n (m_X12_layWalks_L2 n fu) mFU fo ba (nI d) (0 : Int32) = _ from f1]
    exact lw2 hG ba m (d + 1) fu fo1 (by omega) (by omega) f2
theorem layWalks_ok (hG : relG F V n) (fo ba : Nat → Int64) : ∃ fo' ba', m_X12_layWalks fo n ba = some (fo', ba') ∧ toOk n (nv (n 107)) fo' 12 ∧ onOk n (nv (n 107)) ba' 12 := by
  unfold m_X12_layWalks
  exact lw2 hG ba 12 0 mFU fo (by omega) (by unfold mFU; omega) (fun d c hd hc => absurd hd (Nat.not_lt_zero d))
theorem walksR_aux (m : Nat → Int32) {ba : Nat → Int64} {h : Nat → Nat} (hv : ∀ c, c < 9 → ba c = lN (h c)) (fo : Nat → Int64) : ∀ (q k fu : Nat), k + q = 9 → q < fu → m_X12_walks_L8 m fu fo ba (lN (tN h k)) (nI k) = some (lN (tN h 9), fo, ba)
  | q, k, 0, _, h0 => absurd h0 (Nat.not_lt_zero q)
  | 0, k, fu + 1, e, _ => by
    rw [m_X12_walks_L8, if_pos (show (9 : Int32) ≤ nI k from nI_le (a := 9) (by omega) (by omega)), show k = 9 by omega]
  | q + 1, k, fu + 1, e, hfu => by
    rw [m_X12_walks_L8, if_neg (show ¬ (9 : Int32) ≤ nI k from nI_ge (b := 9) (by omega) (by omega)), q_at (by omega) (by omega), hv k (by omega), lN_add, q_let, q_let, nI_1]
    exact walksR_aux m hv fo q (k + 1) fu (by omega) (by omega)
end CW
theorem o_walks : opSpec_walks Rel := by
  intro FI FL VI VL h
  have hG := h.1.2.2.2.2.2.2.2.2
  obtain ⟨op', wt', wo', c1, c2, c3⟩ := countWalks_ok hG (FI 46) (FL 0) (FL 1)
  obtain ⟨fo', ba', d1, d2, d3⟩ := layWalks_ok hG (FL 2) (FL 3)
  refine ⟨(lN (tN (bwN (FI 49) (nv (FI 49 107)) 11) 9), op', wt', wo'), (lN (tN (bwN (FI 49) (nv (FI 49 107)) 11) 9), fo', ba'), ?_, ?_, rfl, ?_⟩
  · unfold m_X11_walks
    rw [q_call c1]
  · unfold m_X12_walks
    rw [q_call d1]
    exact walksR_aux (FI 49) (fun c hc => by
      have := d3 11 c (by omega) hc
      rw [show 9 * (11 - 11) + c = c by omega] at this
      exact this) fo' 9 0 mFU (by omega) (by unfold mFU; omega)
  · refine rel_wk h (fun j j2 j3 j4 j5 => ?_) (fun j j1 j2 => rfl) (fun j _ => rfl)
    show va_up FI 46 op' j = FI j
    exact up_ne (by omega)
