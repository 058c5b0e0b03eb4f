-- places, leftTo
def gm (n : Nat → Int32) (N d c : Nat) : Bool := !(fwN n N d c == 0) && !(bwN n N (11 - d) c == 0)
theorem gm_t {n : Nat → Int32} {N d c : Nat} (h1 : ¬ fwN n N d c = 0) (h2 : ¬ bwN n N (11 - d) c = 0) : gm n N d c = true := by
  unfold gm
  simp [h1, h2]
theorem gm_1 {n : Nat → Int32} {N d c : Nat} (h1 : fwN n N d c = 0) : ¬ gm n N d c = true := by
  unfold gm
  simp [h1]
theorem gm_2 {n : Nat → Int32} {N d c : Nat} (h1 : bwN n N (11 - d) c = 0) : ¬ gm n N d c = true := by
  unfold gm
  simp [h1]
def pm (P : Nat → Bool) : Nat → Nat
  | 0 => 0
  | c + 1 => if P c = true then pm P c + 2 ^ c else pm P c
theorem pm_lt (P : Nat → Bool) : ∀ c, pm P c < 2 ^ c
  | 0 => Nat.zero_lt_one
  | c + 1 => by
    show (if P c = true then pm P c + 2 ^ c else pm P c) < 2 ^ (c + 1)
    have h1 := pm_lt P c
    have e : 2 ^ (c + 1) = 2 ^ c + 2 ^ c := by rw [Nat.pow_succ]; omega
    by_cases h : P c = true
    · rw [if_pos h, e]; omega
    · rw [if_neg h, e]; omega
theorem pm_512 (P : Nat → Bool) {c : Nat} (hc : c ≤ 9) : pm P c < 512 := Nat.lt_of_lt_of_le (pm_lt P c) (Nat.le_trans (Nat.pow_le_pow_right (n := 2) (by omega) hc) (by decide))
theorem pm_ge {P : Nat → Bool} {c : Nat} (h : P c = true) : ∀ k, c < k → 1 ≤ pm P k
  | 0, h0 => absurd h0 (Nat.not_lt_zero c)
  | k + 1, h0 => by
    show 1 ≤ (if P k = true then pm P k + 2 ^ k else pm P k)
    by_cases hk : P k = true
    · rw [if_pos hk]
      have := Nat.two_pow_pos k
      omega
    · rw [if_neg hk]
      have : c ≠ k := fun q => hk (by rw [← q]; exact h)
      exact pm_ge h k (by omega)
theorem pm_0 {P : Nat → Bool} : ∀ k, (∀ c, c < k → ¬ P c = true) → pm P k = 0
  | 0, _ => rfl
  | k + 1, h => by
    show (if P k = true then pm P k + 2 ^ k else pm P k) = 0
    rw [if_neg (h k (by omega))]
    exact pm_0 k (fun c hc => h c (by omega))
theorem or_tab : ∀ c, c < 9 → ∀ m, m < 512 → m < 2 ^ c → nI m ||| ((1 : Int32) <<< (nI c &&& 31)) = nI (m + 2 ^ c) := by decide +kernel
theorem lg0 {k : Nat} (hk : k < 2 ^ 63) : ((lg_cmp (lN k) (0 : Int64)) ≤ 0) ↔ k = 0 := by
  rw [lg_cmp_le, show (0 : Int64) = lN 0 from rfl, pk_lLE hk (by omega)]
  omega
section PL
variable {n : Nat → Int32} {N d : Nat} {wt wo : Nat → Int64}
theorem cells_aux (ht : toOk n N wt 12) (hn : onOk n N wo 12) (hd : d < 12) : ∀ (m c fu : Nat), c + m = 9 → m < fu → m_X2_cellsIn_L4 wt wo fu (nI d) (nI (pm (gm n N d) c)) (nI c) = some (nI (pm (gm n N d) 9))
  | m, c, 0, _, h0 => absurd h0 (Nat.not_lt_zero m)
  | 0, c, fu + 1, e, _ => by
    rw [m_X2_cellsIn_L4, if_pos (show (9 : Int32) ≤ nI c from nI_le (a := 9) (by omega) (by omega)), show c = 9 by omega]
  | m + 1, c, fu + 1, e, hfu => by
    have step := cells_aux ht hn hd m (c + 1) fu (by omega) (by omega)
    rw [show pm (gm n N d) (c + 1) = if gm n N d c = true then pm (gm n N d) c + 2 ^ c else pm (gm n N d) c from rfl] at step
    have h1 := ht d c hd (by omega)
    have h2 := hn (11 - d) c (by omega) (by omega)
    rw [show 11 - (11 - d) = d by omega] at h2
    rw [m_X2_cellsIn_L4, if_neg (show ¬ (9 : Int32) ≤ nI c from nI_ge (b := 9) (by omega) (by omega)), q_call (isLayer_ok _), show qIn (nI d) 0 11 = 1 from qIn_1 (lo := 0) (hi := 11) (by omega) (by omega) (by omega), if_neg one_ne0, nI_9, nI_add, q_let, q_at (by omega) (by omega), q_at (by omega) (by omega), h1, h2, nI_1]
    by_cases z1 : fwN n N d c = 0
    · rw [if_neg (gm_1 z1)] at step
      rw [if_pos ((lg0 (fw_s (by omega))).mpr z1), q_let]
      exact step
    · rw [if_neg (fun q => z1 ((lg0 (fw_s (by omega))).mp q))]
      by_cases z2 : bwN n N (11 - d) c = 0
      · rw [if_neg (gm_2 z2)] at step
        rw [if_pos ((lg0 (bw_s (by omega))).mpr z2), q_let]
        exact step
      · rw [if_pos (gm_t z1 z2)] at step
        rw [if_neg (fun q => z2 ((lg0 (bw_s (by omega))).mp q)), or_tab c (by omega) _ (pm_512 _ (by omega)) (pm_lt _ _), q_let, q_let]
        exact step
theorem cells_ok (ht : toOk n N wt 12) (hn : onOk n N wo 12) (hd : d < 12) : m_X2_cellsIn wt wo (nI d) = some (nI (pm (gm n N d) 9)) := by
  unfold m_X2_cellsIn
  exact cells_aux ht hn hd 9 0 mFU (by omega) (by unfold mFU; omega)
theorem places_aux (ht : toOk n N wt 12) (hn : onOk n N wo 12) (hd : d < 12) : ∀ (m c fu : Nat), c + m = 9 → m < fu → m_X12_placesOf_L4 wt wo fu (nI d) (nI (pm (gm n N d) c)) (nI c) = some (nI (pm (gm n N d) 9))
  | m, c, 0, _, h0 => absurd h0 (Nat.not_lt_zero m)
  | 0, c, fu + 1, e, _ => by
    rw [m_X12_placesOf_L4, if_pos (show (9 : Int32) ≤ nI c from nI_le (a := 9) (by omega) (by omega)), show c = 9 by omega]
  | m + 1, c, fu + 1, e, hfu => by
    have step := places_aux ht hn hd m (c + 1) fu (by omega) (by omega)
    rw [show pm (gm n N d) (c + 1) = if gm n N d c = true then pm (gm n N d) c + 2 ^ c else pm (gm n N d) c from rfl] at step
    have h1 := ht d c hd (by omega)
    have h2 := hn (11 - d) c (by omega) (by omega)
    rw [show 11 - (11 - d) = d by omega] at h2
    rw [m_X12_placesOf_L4, if_neg (show ¬ (9 : Int32) ≤ nI c from nI_ge (b := 9) (by omega) (by omega)), show (9 : Int32) * nI d = nI (9 * d) from pk_mul 9 d, nI_add, q_at (by omega) (by omega), q_at (by omega) (by omega), h1, h2, nI_1]
    by_cases z1 : fwN n N d c = 0
    · rw [if_neg (gm_1 z1)] at step
      rw [if_pos ((lg0 (fw_s (by omega))).mpr z1), q_let, q_let, Int32.or_zero]
      exact step
    · rw [if_neg (fun q => z1 ((lg0 (fw_s (by omega))).mp q))]
      by_cases z2 : bwN n N (11 - d) c = 0
      · rw [if_neg (gm_2 z2)] at step
        rw [if_pos ((lg0 (bw_s (by omega))).mpr z2), q_let, q_let, Int32.or_zero]
        exact step
      · rw [if_pos (gm_t z1 z2)] at step
        rw [if_neg (fun q => z2 ((lg0 (bw_s (by omega))).mp q)), or_tab c (by omega) _ (pm_512 _ (by omega)) (pm_lt _ _), q_let, q_let]
        exact step
theorem places_ok (ht : toOk n N wt 12) (hn : onOk n N wo 12) (hd : d < 12) : m_X12_placesOf wt wo (nI d) = some (nI (pm (gm n N d) 9)) := by
  unfold m_X12_placesOf
  exact places_aux ht hn hd 9 0 mFU (by omega) (by unfold mFU; omega)
end PL
theorem o_places : opSpec_places Rel := by
  intro FI FL VI VL a1 h
  have hG := h.1.2.2.2.2.2.2.2.2
  rcases qIn_c a1 0 11 (by omega) (by omega) with e | ⟨e, d, _, hd, rfl⟩
  · have e' : qIn a1 0 11 = 0 := e
    refine ⟨(-2, VI 62 + 1, VI 63, VI 64, FI 46, FL 0, FL 1), (-2, upd (FI 48) 0 (FI 48 0 + 1), FL 2, FL 3), ?_, ?_, rfl, ?_⟩
    · unfold m_X11_places; rw [q_call (isLayer_ok _), e', if_pos rfl, q_call (counted_bad _ _ _)]
    · unfold m_X12_places; rw [q_call (in_ok _ _ _), e', if_pos rfl, q_call (bad_ok _)]
    · refine rel_eq (rel_bad h) (fun j => ?_) (fun j => ?_) (fun j => rfl)
      · repeat (refine up_or rfl (fun _ => ?_))
        exact (up_ne ‹j ≠ 48›).symm
      · repeat (refine up_or rfl (fun _ => ?_))
        exact (up_ne ‹j ≠ 62›).symm
  · have e' : qIn (nI d) 0 11 = 1 := e
    obtain ⟨op', wt', wo', c1, c2, c3⟩ := countWalks_ok hG (FI 46) (FL 0) (FL 1)
    obtain ⟨fo', ba', d1, d2, d3⟩ := layWalks_ok hG (FL 2) (FL 3)
    refine ⟨(nI (pm (gm (FI 49) (nv (FI 49 107)) d) 9), VI 62, VI 63, VI 64, op', wt', wo'), (nI (pm (gm (FI 49) (nv (FI 49 107)) d) 9), FI 48, fo', ba'), ?_, ?_, rfl, ?_⟩
    · unfold m_X11_places
      rw [q_call (isLayer_ok _), e', if_neg one_ne0, q_call c1, q_call (cells_ok c2 c3 (by omega))]
    · unfold m_X12_places
      rw [q_call (in_ok _ _ _), e', if_neg one_ne0, q_call d1, q_call (places_ok d2 d3 (by omega))]
    · refine rel_wk h (fun j j2 j3 j4 j5 => ?_) (fun j j1 j2 => ?_) (fun j _ => rfl)
      · show va_up (va_up FI 46 op') 48 (FI 48) j = FI j
        exact up_or rfl (fun _ => up_ne (by omega))
      · show va_up (va_up (va_up VI 62 (VI 62)) 63 (VI 63)) 64 (VI 64) j = VI j
        rw [up_id, up_id, up_id]
-- leftTo
def bcn (m : Nat) : Nat := nv ((m_X12_bits (nI m)).getD 0)
theorem bc_tab : ∀ m, m < 512 → m_J6_bitCount_0f7a4 (nI m) = some (nI (bcn m)) ∧ m_X12_bits (nI m) = some (nI (bcn m)) ∧ bcn m ≤ 9 ∧ (m = 0 → bcn m = 0) ∧ (bcn m = 0 → m = 0) := by decide +kernel
def cnt (n : Nat → Int32) (N d : Nat) : Nat := bcn (pm (gm n N d) 9)
theorem rN_pos {g : Nat → Nat} {c : Nat} : ∀ k, 0 < rN g c k → ∃ a, a < k ∧ bs a c = true ∧ 0 < g a
  | 0, h => absurd h (Nat.lt_irrefl 0)
  | k + 1, h => by
    have h' : 0 < rN g c k + (if bs k c = true then g k else 0) := h
    by_cases hb : bs k c = true ∧ 0 < g k
    · exact ⟨k, by omega, hb.1, hb.2⟩
    · have hk : 0 < rN g c k := by
        by_cases hb2 : bs k c = true
        · rw [if_pos hb2] at h'
          have : ¬ 0 < g k := fun q => hb ⟨hb2, q⟩
          omega
        · rw [if_neg hb2] at h'
          omega
      obtain ⟨a, a1, a2⟩ := rN_pos k hk
      exact ⟨a, by omega, a2⟩
theorem rN_ge {g : Nat → Nat} {c a : Nat} (h : bs a c = true) : ∀ k, a < k → g a ≤ rN g c k
  | 0, h0 => absurd h0 (Nat.not_lt_zero a)
  | k + 1, h0 => by
    show g a ≤ rN g c k + (if bs k c = true then g k else 0)
    by_cases ha : a = k
    · rw [← ha, if_pos h]; omega
    · have := rN_ge (g := g) h k (by omega)
      omega
theorem tN_pos {g : Nat → Nat} : ∀ k, 0 < tN g k → ∃ a, a < k ∧ 0 < g a
  | 0, h => absurd h (Nat.lt_irrefl 0)
  | k + 1, h => by
    have h' : 0 < tN g k + g k := h
    by_cases hk : 0 < g k
    · exact ⟨k, by omega, hk⟩
    · obtain ⟨a, a1, a2⟩ := tN_pos (g := g) k (by omega)
      exact ⟨a, by omega, a2⟩
theorem tN_ge {g : Nat → Nat} {a : Nat} : ∀ k, a < k → g a ≤ tN g k
  | 0, h0 => absurd h0 (Nat.not_lt_zero a)
  | k + 1, h0 => by
    show g a ≤ tN g k + g k
    by_cases ha : a = k
    · rw [ha]; omega
    · have := tN_ge (g := g) k (show a < k by omega)
      omega
theorem tN_le {g : Nat → Nat} {B : Nat} (h : ∀ a, g a ≤ B) : ∀ k, tN g k ≤ k * B
  | 0 => Nat.zero_le _
  | k + 1 => by
    show tN g k + g k ≤ (k + 1) * B
    have h1 := tN_le h k
    have h2 := h k
    rw [Nat.succ_mul]
    omega
theorem fw_cb {n : Nat → Int32} {N d c : Nat} (h : 0 < fwN n N d c) : cb n d c N = true := by
  cases d with
  | zero =>
    have h' : 0 < (if cb n 0 c N = true then 1 else 0) := h
    by_cases hc : cb n 0 c N = true
    · exact hc
    · rw [if_neg hc] at h'; omega
  | succ d =>
    have h' : 0 < (if cb n (d + 1) c N = true then rN (fwN n N d) c 9 else 0) := h
    by_cases hc : cb n (d + 1) c N = true
    · exact hc
    · rw [if_neg hc] at h'; omega
theorem reach {n : Nat → Int32} {N : Nat} : ∀ d, d ≤ 11 → ∀ c, c < 9 → 0 < fwN n N d c → 0 < bwN n N (11 - d) c → ∃ a, a < 9 ∧ 0 < bwN n N 11 a
  | 0, _, c, hc, _, h2 => ⟨c, hc, h2⟩
  | d + 1, hd, c, hc, h1, h2 => by
    have hcb := fw_cb h1
    have h1' : 0 < (if cb n (d + 1) c N = true then rN (fwN n N d) c 9 else 0) := h1
    rw [if_pos hcb] at h1'
    obtain ⟨a, a1, a2, a3⟩ := rN_pos 9 h1'
    have hca := fw_cb a3
    have hsym : bs c a = true := by rw [← (bs_tab a a1 c hc).2.2]; exact a2
    refine reach d (by omega) a a1 a3 ?_
    have e : bwN n N (11 - d) a = if cb n (10 - (11 - (d + 1))) a N = true then rN (bwN n N (11 - (d + 1))) a 9 else 0 := by
      rw [show 11 - d = (11 - (d + 1)) + 1 by omega]
      rfl
    rw [e, show 10 - (11 - (d + 1)) = d by omega, if_pos hca]
    have := rN_ge (g := bwN n N (11 - (d + 1))) hsym 9 hc
    omega
theorem cnt_0 {n : Nat → Int32} {N : Nat} (h : tN (bwN n N 11) 9 = 0) {d : Nat} (hd : d < 12) : cnt n N d = 0 := by
  unfold cnt
  refine (bc_tab _ (pm_512 _ (by omega))).2.2.2.1 (pm_0 9 (fun c hc q => ?_))
  by_cases z1 : fwN n N d c = 0
  · exact gm_1 z1 q
  · by_cases z2 : bwN n N (11 - d) c = 0
    · exact gm_2 z2 q
    · obtain ⟨a, a1, a2⟩ := reach (n := n) (N := N) d (by omega) c hc (by omega) (by omega)
      have := tN_ge (g := bwN n N 11) 9 a1
      omega
theorem cnt_1 {n : Nat → Int32} {N : Nat} (h : ¬ tN (bwN n N 11) 9 = 0) : 0 < cnt n N 0 := by
  obtain ⟨a, a1, a2⟩ := tN_pos 9 (show 0 < tN (bwN n N 11) 9 by omega)
  have hb : cb n 0 a N = true := by
    have h' : 0 < (if cb n (10 - 10) a N = true then rN (bwN n N 10) a 9 else 0) := a2
    by_cases hc : cb n (10 - 10) a N = true
    · exact hc
    · rw [if_neg hc] at h'; omega
  have hf : ¬ fwN n N 0 a = 0 := by
    show ¬ (if cb n 0 a N = true then 1 else 0) = 0
    rw [if_pos hb]
    omega
  have hg : gm n N 0 a = true := gm_t hf (show ¬ bwN n N (11 - 0) a = 0 by
    show ¬ bwN n N 11 a = 0
    omega)
  have hp := pm_ge hg 9 a1
  unfold cnt
  have := (bc_tab _ (pm_512 (gm n N 0) (Nat.le_refl 9))).2.2.2.2
  rcases Nat.eq_zero_or_pos (bcn (pm (gm n N 0) 9)) with q | q
  · have := this q
    omega
  · exact q
section LT
variable {n : Nat → Int32} {N : Nat} {wt wo fo ba : Nat → Int64}
theorem cntX (ht : toOk n N wt 12) (hn : onOk n N wo 12) {d : Nat} (hd : d < 12) : m_X2_cellsIn wt wo (nI d) = some (nI (pm (gm n N d) 9)) ∧ m_J6_bitCount_0f7a4 (nI (pm (gm n N d) 9)) = some (nI (cnt n N d)) ∧ cnt n N d ≤ 9 := ⟨cells_ok ht hn hd, (bc_tab _ (pm_512 _ (by omega))).1, (bc_tab _ (pm_512 _ (by omega))).2.2.1⟩
theorem cntR (ht : toOk n N fo 12) (hn : onOk n N ba 12) {d : Nat} (hd : d < 12) : m_X12_placesOf fo ba (nI d) = some (nI (pm (gm n N d) 9)) ∧ m_X12_bits (nI (pm (gm n N d) 9)) = some (nI (cnt n N d)) := ⟨places_ok ht hn hd, (bc_tab _ (pm_512 _ (by omega))).2.1⟩
theorem left37 (m : Nat → Int32) (k10 : (Nat → Int64) → (Nat → Int64) → Int32 → Int32 → Int32 → Option (Int32 × (Nat → Int64) × (Nat → Int64))) (x2 x3 x4 s0 : Int32) : m_X12_leftTo_B37 m k10 fo ba x2 x3 x4 s0 = if x4 ≤ x2 then k10 fo ba s0 x2 (x3 + 1) else k10 fo ba s0 x4 (x3 + 1) := by
  unfold m_X12_leftTo_B37
  rw [q_let]
  rfl
theorem left_sim (m : Nat → Int32) (ht : toOk n N wt 12) (hn : onOk n N wo 12) (ht2 : toOk n N fo 12) (hn2 : onOk n N ba 12) : ∀ (q l fu fu2 b : Nat), l + q = 12 → q < fu → q < fu2 → b < 12 → ∃ y, m_X2_widestLayer_L4 wt wo fu (nI b) (nI l) = some y ∧ m_X12_leftTo_L10 m fu2 fo ba (nI b) (nI (cnt n N b)) (nI l) = some (y, fo, ba)
  | q, l, 0, _, b, _, h0, _, _ => absurd h0 (Nat.not_lt_zero q)
  | q, l, _ + 1, 0, b, _, _, h0, _ => absurd h0 (Nat.not_lt_zero q)
  | 0, l, fu + 1, fu2 + 1, b, e, _, _, hb => by
    refine ⟨nI b, ?_, ?_⟩
    · rw [m_X2_widestLayer_L4, if_pos (show (12 : Int32) ≤ nI l from nI_le (a := 12) (by omega) (by omega))]
    · rw [m_X12_leftTo_L10, if_pos (show (12 : Int32) ≤ nI l from nI_le (a := 12) (by omega) (by omega))]
  | q + 1, l, fu + 1, fu2 + 1, b, e, hfu, hfu2, hb => by
    obtain ⟨x1, x2, x3⟩ := cntX ht hn (d := l) (by omega)
    obtain ⟨y1, y2, y3⟩ := cntX ht hn hb
    obtain ⟨r1, r2⟩ := cntR ht2 hn2 (d := l) (by omega)
    rw [m_X2_widestLayer_L4, m_X12_leftTo_L10, if_neg (show ¬ (12 : Int32) ≤ nI l from nI_ge (b := 12) (by omega) (by omega)), if_neg (show ¬ (12 : Int32) ≤ nI l from nI_ge (b := 12) (by omega) (by omega)), q_call x1, q_call x2, q_call y1, q_call y2, q_call r1, q_call r2, left37, left37, nI_1, q_let, q_let]
    by_cases hle : cnt n N l ≤ cnt n N b
    · have hi : nI (cnt n N l) ≤ nI (cnt n N b) := nI_le hle (by omega)
      rw [if_pos hi, if_pos hi, if_pos hi]
      exact left_sim m ht hn ht2 hn2 q (l + 1) fu fu2 b (by omega) (by omega) (by omega) hb
    · have hi : ¬ nI (cnt n N l) ≤ nI (cnt n N b) := nI_ge (by omega) (by omega)
      rw [if_neg hi, if_neg hi, if_neg hi]
      exact left_sim m ht hn ht2 hn2 q (l + 1) fu fu2 l (by omega) (by omega) (by omega) (by omega)
theorem left_none (m : Nat → Int32) (ht2 : toOk n N fo 12) (hn2 : onOk n N ba 12) (h0 : tN (bwN n N 11) 9 = 0) : ∀ (q l fu2 : Nat), l + q = 12 → q < fu2 → m_X12_leftTo_L10 m fu2 fo ba (-1) (nI 0) (nI l) = some (-1, fo, ba)
  | q, l, 0, _, h0 => absurd h0 (Nat.not_lt_zero q)
  | 0, l, fu2 + 1, e, _ => by
    rw [m_X12_leftTo_L10, if_pos (show (12 : Int32) ≤ nI l from nI_le (a := 12) (by omega) (by omega))]
  | q + 1, l, fu2 + 1, e, hfu2 => by
    obtain ⟨r1, r2⟩ := cntR ht2 hn2 (d := l) (by omega)
    rw [m_X12_leftTo_L10, if_neg (show ¬ (12 : Int32) ≤ nI l from nI_ge (b := 12) (by omega) (by omega)), q_call r1, q_call r2, cnt_0 h0 (by omega), if_pos (by decide), left37, if_pos (by decide), nI_1]
    exact left_none m ht2 hn2 h0 q (l + 1) fu2 (by omega) (by omega)
end LT
theorem o_leftTo : opSpec_leftTo Rel := by
  intro FI FL VI VL h
  have hG := h.1.2.2.2.2.2.2.2.2
  obtain ⟨op', wt', wo', c1, c2, c3⟩ := countWalks_ok hG (FI 46) (FL 0) (FL 1)
  obtain ⟨fo', ba', d1, d2, d3⟩ := layWalks_ok hG (FL 2) (FL 3)
  have fin : ∀ y : Int32, m_X11_leftTo (FI 46) (VI 9) (FI 7) (FL 0) (FL 1) = some (y, op', wt', wo') → m_X12_leftTo (FL 2) (FI 49) (FL 3) = some (y, fo', ba') → ∃ (rx : Int32 × (Nat → Int32) × (Nat → Int64) × (Nat → Int64)) (rm : Int32 × (Nat → Int64) × (Nat → Int64)), m_X11_leftTo (FI 46) (VI 9) (FI 7) (FL 0) (FL 1) = some rx ∧ m_X12_leftTo (FL 2) (FI 49) (FL 3) = some rm ∧ rx.1 = rm.1 ∧ Rel (va_up FI 46 rx.2.1) (va_up (va_up (va_up (va_up FL 0 rx.2.2.1) 1 rx.2.2.2) 2 rm.2.1) 3 rm.2.2) VI VL := fun y q1 q2 => ⟨_, _, q1, q2, rfl, rel_wk h (fun j j2 j3 j4 j5 => up_ne (by omega)) (fun j j1 j2 => rfl) (fun j _ => rfl)⟩
  have hlt : tN (bwN (FI 49) (nv (FI 49 107)) 11) 9 < 2 ^ 63 := by
    have h1 := tN_le (fun a => Nat.le_trans (bw_le (FI 49) (nv (FI 49 107)) 11 a) (p9_le (Nat.le_refl 11))) 9
    omega
  by_cases hz : tN (bwN (FI 49) (nv (FI 49 107)) 11) 9 = 0
  · refine fin (-1) ?_ ?_
    · unfold m_X11_leftTo
      rw [q_call c1, if_pos ((lg_cmp_eq _ _).mpr (show lN (tN (bwN (FI 49) (nv (FI 49 107)) 11) 9) = 0 by rw [hz]; rfl))]
    · unfold m_X12_leftTo
      rw [q_call d1]
      exact left_none (FI 49) d2 d3 hz 12 0 mFU (by omega) (by unfold mFU; omega)
  · have hne : ¬ lg_cmp (lN (tN (bwN (FI 49) (nv (FI 49 107)) 11) 9)) (0 : Int64) = 0 := fun q => hz ((pk_lEQ hlt (by omega)).mp ((lg_cmp_eq _ _).mp q))
    have hp := cnt_1 hz
    obtain ⟨r1, r2⟩ := cntR d2 d3 (d := 0) (by omega)
    obtain ⟨_, _, x3⟩ := cntX c2 c3 (d := 0) (by omega)
    obtain ⟨y, y1, y2⟩ := left_sim (FI 49) c2 c3 d2 d3 11 1 mFU 999 0 (by omega) (by unfold mFU; omega) (by omega) (by omega)
    refine fin y ?_ ?_
    · unfold m_X11_leftTo m_X2_widestLayer
      rw [q_call c1, if_neg hne, q_call (show m_X2_widestLayer_L4 wt' wo' mFU (0 : Int32) (1 : Int32) = some y from y1)]
    · unfold m_X12_leftTo
      rw [q_call d1]
      show m_X12_leftTo_L10 (FI 49) (999 + 1) fo' ba' (-1) (nI 0) (nI 0) = some (y, fo', ba')
      have hi : ¬ nI (cnt (FI 49) (nv (FI 49 107)) 0) ≤ nI 0 := nI_ge (by omega) (by omega)
      rw [m_X12_leftTo_L10, if_neg (by decide), q_call r1, q_call r2, if_neg hi, left37, if_neg hi, nI_1]
      exact y2
