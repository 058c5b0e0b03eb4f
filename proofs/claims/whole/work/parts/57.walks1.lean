-- walks: which cells can be
def bs (a c : Nat) : Bool := a == c || a + 3 == c || c + 3 == a || (a + 1 == c && !(c % 3 == 0)) || (c + 1 == a && !(a % 3 == 0))
theorem bs_tab : ∀ a, a < 9 → ∀ c, c < 9 → m_X12_isBeside (nI a) (nI c) = some (b2 (bs a c)) ∧ m_X12_isBeside (nI c) (nI a) = some (b2 (bs a c)) ∧ bs a c = bs c a := by decide +kernel
theorem b2_z (b : Bool) : b2 b &&& 1 = b2 b := by cases b <;> decide
theorem b2_inj : ∀ a b : Bool, b2 a = b2 b → a = b := by decide
theorem nar0 : vp_nar .boolean 0 = 0 := by decide
def cb (n : Nat → Int32) (d c : Nat) : Nat → Bool
  | 0 => true
  | k + 1 => cb n d c k && (!(n (108 + 3 * k) == nI d) || ((n (108 + 3 * k + 1) == nI c) == (n (108 + 3 * k + 2) == 1)))
theorem cb_s {n : Nat → Int32} {d c k : Nat} {x y z w : Bool} (h0 : cb n d c k = x) (h1 : (n (108 + 3 * k) == nI d) = y) (h2 : (n (108 + 3 * k + 1) == nI c) = z) (h3 : (n (108 + 3 * k + 2) == 1) = w) : cb n d c (k + 1) = (x && (!y || (z == w))) := by
  show (cb n d c k && (!(n (108 + 3 * k) == nI d) || ((n (108 + 3 * k + 1) == nI c) == (n (108 + 3 * k + 2) == 1)))) = _
  rw [h0, h1, h2, h3]
theorem beq_t {a b : Int32} (h : a = b) : (a == b) = true := by rw [h]; exact beq_self_eq_true b
theorem beq_f {a b : Int32} (h : ¬ a = b) : (a == b) = false := beq_false_of_ne h
theorem cb_o {n : Nat → Int32} {d c k : Nat} (h : ¬ n (108 + 3 * k) = nI d) : cb n d c (k + 1) = cb n d c k := by
  rw [cb_s (x := cb n d c k) rfl (beq_f h) rfl rfl]
  cases cb n d c k <;> rfl
section WK
variable {F : Nat → Nat → Int32} {V n : Nat → Int32}
theorem canBe_aux (hG : relG F V n) (d c : Nat) : ∀ (m k fu : Nat), k + m = nv (n 107) → m < fu → m_X12_canBe_L5 n fu (nI d) (nI c) (b2 (cb n d c k)) (nI k) = some (b2 (cb n d c (nv (n 107))))
  | m, k, 0, _, h => absurd h (Nat.not_lt_zero m)
  | 0, k, fu + 1, e, _ => by
    have h7 := hG.2.1.1
    have g : n 107 ≤ nI k := by rw [hG.2.1.2]; exact nI_le (by omega) (by omega)
    rw [m_X12_canBe_L5, show (107 : Int32) = nI 107 from rfl, q_at (by omega) (by omega), if_pos g, q_z (b2_z _), show k = nv (n 107) by omega]
  | m + 1, k, fu + 1, e, hfu => by
    have h7 := hG.2.1.1
    have g : ¬ n 107 ≤ nI k := by rw [hG.2.1.2]; exact nI_ge (by omega) (by omega)
    have key : ∀ v : Bool, cb n d c (k + 1) = v → m_X12_canBe_L5 n fu (nI d) (nI c) (b2 v) (nI (k + 1)) = some (b2 (cb n d c (nv (n 107)))) := fun v hv => by
      rw [← hv]
      exact canBe_aux hG d c m (k + 1) fu (by omega) (by omega)
    rw [m_X12_canBe_L5, show (107 : Int32) = nI 107 from rfl, q_at (by omega) (by omega), if_neg g, show (3 : Int32) * nI k = nI (3 * k) from pk_mul 3 k, show (108 : Int32) + nI (3 * k) = nI (108 + 3 * k) from nI_add 108 _, q_let]
    by_cases hb : cb n d c k = true
    · rw [b2_t hb, if_neg one_ne0, q_at (by omega) (by omega)]
      by_cases h1 : n (108 + 3 * k) = nI d
      · rw [if_pos h1, nI_1 (108 + 3 * k), q_at (by omega) (by omega)]
        unfold m_X12_canBe_B59 m_X12_canBe_B77
        rw [show nI (108 + 3 * k) + (2 : Int32) = nI (108 + 3 * k + 2) from nI_add _ 2, q_at (by omega) (by omega), q_at (by omega) (by omega), nI_1 k, q_let, q_let]
        by_cases h2 : n (108 + 3 * k + 1) = nI c
        · rw [if_pos h2]
          by_cases h3 : n (108 + 3 * k + 2) = 1
          · rw [if_pos h3, if_pos rfl]
            exact key true (cb_s hb (beq_t h1) (beq_t h2) (beq_t h3))
          · rw [if_neg h3, if_neg (by decide)]
            exact key false (cb_s hb (beq_t h1) (beq_t h2) (beq_f h3))
        · rw [if_neg h2]
          by_cases h3 : n (108 + 3 * k + 2) = 1
          · rw [if_pos h3, if_neg (by decide)]
            exact key false (cb_s hb (beq_t h1) (beq_f h2) (beq_t h3))
          · rw [if_neg h3, if_pos rfl]
            exact key true (cb_s hb (beq_t h1) (beq_f h2) (beq_f h3))
      · rw [if_neg h1, q_let, nI_1]
        exact key true (by rw [cb_o h1]; exact hb)
    · have hb' : cb n d c k = false := by
        cases hq : cb n d c k with
        | true => exact absurd hq hb
        | false => rfl
      rw [b2_f hb, if_pos rfl, q_let, nI_1]
      exact key false (by rw [cb_s hb' rfl rfl rfl]; rfl)
theorem canBe_ok (hG : relG F V n) (d c : Nat) : m_X12_canBe n (nI d) (nI c) = some (b2 (cb n d c (nv (n 107)))) := by
  have h7 := hG.2.1.1
  unfold m_X12_canBe
  exact canBe_aux hG d c (nv (n 107)) 0 mFU (by omega) (by unfold mFU; omega)
def okp (op n : Nat → Int32) (k : Nat) : Prop := ∀ d c, d < 12 → c < 9 → op (9 * d + c) = b2 (cb n d c k)
theorem close91 (v : Int32) (f : Nat → Int32) (k10 : (Nat → Int32) → Int32 → Option ((Nat → Int32))) (k45 : (Nat → Int32) → Int32 → Int32 → Int32 → Int32 → Option ((Nat → Int32))) (op : Nat → Int32) {k L x : Nat} (w z : Bool) (hL : L < 12) (hx : x < 9) : m_X2_closeCells_B91 v f k10 k45 op (nI k) (nI L) (b2 w) (nI x) (b2 z) = if z = w then k45 op (nI k) (nI L) (b2 w) (nI (x + 1)) else k45 (upd op (9 * L + x) 0) (nI k) (nI L) (b2 w) (nI (x + 1)) := by
  unfold m_X2_closeCells_B91
  by_cases h : z = w
  · rw [if_pos (show b2 z = b2 w by rw [h]), if_pos h, q_let, nI_1]
  · rw [if_neg (fun q => h (b2_inj _ _ q)), if_neg h, show nI L * (9 : Int32) = nI (9 * L) from (pk_mul L 9).trans (congrArg nI (Nat.mul_comm L 9)), nI_add, q_wrZ (by omega) (by omega), nar0, q_let, nI_1]
theorem atG (hG : relG F V n) {k c : Nat} (hk : k < nv (n 107)) (hc : c < 3) : m_X9_at (V 9) (F 7) (nI k) (nI c) = some (n (108 + 3 * k + c)) := by
  obtain ⟨h1, h2, h3⟩ := hG
  obtain ⟨⟨a1, _⟩, ⟨a2, _⟩, ⟨a3, _⟩⟩ := h3 k hk
  rw [h1, h2.2, at_ok hk (by have := h2.1; omega) hc]
  have : c = 0 ∨ c = 1 ∨ c = 2 := by omega
  rcases this with rfl | rfl | rfl
  · exact congrArg some a1
  · exact congrArg some a2
  · exact congrArg some a3
theorem close61 (hG : relG F V n) {k L : Nat} (hk : k < nv (n 107)) (hL : n (108 + 3 * k) = nI L) (hL12 : L < 12) (k10 : (Nat → Int32) → Int32 → Option ((Nat → Int32))) (w : Bool) (hwb : (n (108 + 3 * k + 2) == 1) = w) : ∀ (m x fu : Nat) (op : Nat → Int32), x + m = 9 → m < fu → (∀ d c, d < 12 → c < 9 → op (9 * d + c) = b2 (if d = L ∧ c < x then cb n d c (k + 1) else cb n d c k)) → ∃ op', m_X2_closeCells_L61 (V 9) (F 7) k10 fu op (nI k) (nI L) (b2 w) (nI x) = k10 op' (nI (k + 1)) ∧ okp op' n (k + 1)
  | m, x, 0, op, _, h, _ => absurd h (Nat.not_lt_zero m)
  | 0, x, fu + 1, op, e, _, ho => by
    refine ⟨op, ?_, fun d c hd hc => ?_⟩
    · rw [m_X2_closeCells_L61, if_pos (show (9 : Int32) ≤ nI x from nI_le (a := 9) (by omega) (by omega)), q_let, nI_1]
    · rw [ho d c hd hc]
      by_cases hdL : d = L
      · rw [if_pos ⟨hdL, by omega⟩]
      · rw [if_neg (fun q => hdL q.1), cb_o (fun q => hdL ((nI_eq (by omega) (by omega)).mp (hL.symm.trans q)).symm)]
  | m + 1, x, fu + 1, op, e, hfu, ho => by
    have hz : ∀ z : Bool, (n (108 + 3 * k + 1) == nI x) = z → ∃ op', m_X2_closeCells_B91 (V 9) (F 7) k10 (m_X2_closeCells_L61 (V 9) (F 7) k10 fu) op (nI k) (nI L) (b2 w) (nI x) (b2 z) = k10 op' (nI (k + 1)) ∧ okp op' n (k + 1) := by
      intro z hz
      have hcb : cb n L x (k + 1) = (cb n L x k && (z == w)) := by
        rw [cb_s (x := cb n L x k) rfl (beq_t hL) hz hwb]
        rfl
      rw [close91 (V 9) (F 7) k10 _ op w z hL12 (by omega)]
      by_cases hzw : z = w
      · rw [if_pos hzw]
        refine close61 hG hk hL hL12 k10 w hwb m (x + 1) fu op (by omega) (by omega) (fun d c hd hc => ?_)
        rw [ho d c hd hc]
        by_cases hdL : d = L ∧ c < x
        · rw [if_pos hdL, if_pos ⟨hdL.1, by omega⟩]
        · rw [if_neg hdL]
          by_cases hdx : d = L ∧ c < x + 1
          · have hcx : c = x := by
              rcases Nat.lt_or_ge c x with q | q
              · exact absurd ⟨hdx.1, q⟩ hdL
              · omega
            rw [if_pos hdx, hdx.1, hcx, hcb, hzw]
            cases cb n L x k <;> cases w <;> rfl
          · rw [if_neg hdx]
      · rw [if_neg hzw]
        refine close61 hG hk hL hL12 k10 w hwb m (x + 1) fu _ (by omega) (by omega) (fun d c hd hc => ?_)
        by_cases hdx : d = L ∧ c = x
        · rw [if_pos ⟨hdx.1, by omega⟩, hdx.1, hdx.2, upd_eq, hcb, show (z == w) = false by cases z <;> cases w <;> first | rfl | exact absurd rfl hzw]
          cases cb n L x k <;> rfl
        · rw [upd_ne (by omega), ho d c hd hc]
          by_cases hdL : d = L ∧ c < x
          · rw [if_pos hdL, if_pos ⟨hdL.1, by omega⟩]
          · rw [if_neg hdL, if_neg (by omega)]
    rw [m_X2_closeCells_L61, if_neg (show ¬ (9 : Int32) ≤ nI x from nI_ge (b := 9) (by omega) (by omega)), q_call (isLayer_ok _), show qIn (nI L) 0 11 = 1 from qIn_1 (lo := 0) (hi := 11) (by omega) (by omega) (by omega), if_neg one_ne0, q_call (show m_X9_at (V 9) (F 7) (nI k) (1 : Int32) = some (n (108 + 3 * k + 1)) from atG (c := 1) hG hk (by omega))]
    by_cases hc : nI x = n (108 + 3 * k + 1)
    · rw [if_pos hc]
      exact hz true (beq_t hc.symm)
    · rw [if_neg hc]
      exact hz false (beq_f (fun q => hc q.symm))
theorem close26 (hG : relG F V n) : ∀ (m k fu : Nat) (op : Nat → Int32), k + m = nv (n 107) → m < fu → okp op n k → ∃ op', m_X2_closeCells_L26 (V 9) (F 7) fu op (nI k) = some op' ∧ okp op' n (nv (n 107))
  | m, k, 0, op, _, h, _ => absurd h (Nat.not_lt_zero m)
  | 0, k, fu + 1, op, e, _, ho => by
    have h7 := hG.2.1.1
    have g : V 9 ≤ nI k := by rw [hG.1, hG.2.1.2]; exact nI_le (by omega) (by omega)
    refine ⟨op, ?_, by rw [show nv (n 107) = k by omega]; exact ho⟩
    rw [m_X2_closeCells_L26, if_pos g]
  | m + 1, k, fu + 1, op, e, hfu, ho => by
    have h7 := hG.2.1.1
    have hk : k < nv (n 107) := by omega
    have g : ¬ V 9 ≤ nI k := by rw [hG.1, hG.2.1.2]; exact nI_ge (by omega) (by omega)
    obtain ⟨⟨_, a2⟩, _, _⟩ := hG.2.2 k hk
    obtain ⟨L, hL12, hL⟩ := sm_of a2
    rw [m_X2_closeCells_L26, if_neg g, q_call (show m_X9_at (V 9) (F 7) (nI k) (0 : Int32) = some (n (108 + 3 * k)) from atG (c := 0) hG hk (by omega)), q_call (show m_X9_at (V 9) (F 7) (nI k) (2 : Int32) = some (n (108 + 3 * k + 2)) from atG (c := 2) hG hk (by omega))]
    have go : ∀ w : Bool, (n (108 + 3 * k + 2) == 1) = w → ∃ op', m_X2_closeCells_L61 (V 9) (F 7) (m_X2_closeCells_L26 (V 9) (F 7) fu) mFU op (nI k) (n (108 + 3 * k)) (b2 w) (0 : Int32) = some op' ∧ okp op' n (nv (n 107)) := by
      intro w hwb
      obtain ⟨op1, p1, p2⟩ := close61 hG hk hL hL12 (m_X2_closeCells_L26 (V 9) (F 7) fu) w hwb 9 0 mFU op (by omega) (by unfold mFU; omega) (fun d c hd hc => by rw [if_neg (fun q => absurd q.2 (Nat.not_lt_zero c))]; exact ho d c hd hc)
      obtain ⟨op2, r1, r2⟩ := close26 hG m (k + 1) fu op1 (by omega) (by omega) p2
      refine ⟨op2, ?_, r2⟩
      rw [hL]
      exact p1.trans r1
    by_cases h2 : n (108 + 3 * k + 2) = 1
    · rw [if_pos h2]
      exact go true (beq_t h2)
    · rw [if_neg h2]
      exact go false (beq_f h2)
theorem close2 (v : Int32) (c f : Nat → Int32) : ∀ (m i fu : Nat), i + m = 108 → m < fu → m_X2_closeCells_L2 v c fu (fun j => if j < i then vp_nar .boolean 1 else f j) (nI i) = m_X2_closeCells_L26 v c mFU (fun j => if j < 108 then vp_nar .boolean 1 else f j) (0 : Int32)
  | m, i, 0, _, h => absurd h (Nat.not_lt_zero m)
  | 0, i, fu + 1, e, _ => by
    rw [m_X2_closeCells_L2, if_pos (show (108 : Int32) ≤ nI i from nI_le (a := 108) (by omega) (by omega)), show i = 108 by omega]
  | m + 1, i, fu + 1, e, h => by
    rw [m_X2_closeCells_L2, if_neg (show ¬ (108 : Int32) ≤ nI i from nI_ge (b := 108) (by omega) (by omega)), q_wrZ (by omega) (by omega), q_let, nI_1, q_fill_succ]
    exact close2 v c f m (i + 1) fu (by omega) (by omega)
theorem closeCells_ok (hG : relG F V n) (f : Nat → Int32) : ∃ op', m_X2_closeCells f (V 9) (F 7) = some op' ∧ okp op' n (nv (n 107)) := by
  have h7 := hG.2.1.1
  unfold m_X2_closeCells
  have e := close2 (V 9) (F 7) f 108 0 mFU (by omega) (by unfold mFU; omega)
  rw [show (fun j => if j < 0 then vp_nar .boolean 1 else f j) = f by funext j; simp] at e
  rw [show m_X2_closeCells_L2 (V 9) (F 7) mFU f (0 : Int32) = _ from e]
  exact close26 hG (nv (n 107)) 0 mFU _ (by omega) (by unfold mFU; omega) (fun d c hd hc => by
    show (if 9 * d + c < 108 then vp_nar .boolean 1 else f (9 * d + c)) = _
    rw [if_pos (by omega), nar1]
    rfl)
end WK
-- one layer's ways go on to the next
def tb (g : Nat → Int64) (c a : Nat) : Int64 := if bs a c = true then g a else 0
def rs (g : Nat → Int64) (c : Nat) : Nat → Int64
  | 0 => 0
  | a + 1 => rs g c a + tb g c a
theorem rs_c {g g' : Nat → Int64} {c : Nat} : ∀ k, (∀ a, a < k → g a = g' a) → rs g c k = rs g' c k
  | 0, _ => rfl
  | k + 1, h => by
    show rs g c k + tb g c k = rs g' c k + tb g' c k
    rw [rs_c k (fun a ha => h a (by omega))]
    unfold tb
    rw [h k (by omega)]
def xs (g : Nat → Int64) (c : Nat) : Int64 := g c + (if c < 3 then 0 else g (c - 3)) + (if 6 ≤ c then 0 else g (c + 3)) + (if c % 3 ≤ 0 then 0 else g (c - 1)) + (if 2 ≤ c % 3 then 0 else g (c + 1))
theorem xs_rs (g : Nat → Int64) {c : Nat} (hc : c < 9) : xs g c = rs g c 9 := by
  have h : c = 0 ∨ c = 1 ∨ c = 2 ∨ c = 3 ∨ c = 4 ∨ c = 5 ∨ c = 6 ∨ c = 7 ∨ c = 8 := by omega
  rcases h with rfl | rfl | rfl | rfl | rfl | rfl | rfl | rfl | rfl
  · show g 0 + 0 + g 3 + 0 + g 1 = 0 + g 0 + g 1 + 0 + g 3 + 0 + 0 + 0 + 0 + 0
    simp only [Int64.add_zero, Int64.zero_add]
    ac_rfl
  · show g 1 + 0 + g 4 + g 0 + g 2 = 0 + g 0 + g 1 + g 2 + 0 + g 4 + 0 + 0 + 0 + 0
    simp only [Int64.add_zero, Int64.zero_add]
    ac_rfl
  · show g 2 + 0 + g 5 + g 1 + 0 = 0 + 0 + g 1 + g 2 + 0 + 0 + g 5 + 0 + 0 + 0
    simp only [Int64.add_zero, Int64.zero_add]
    ac_rfl
  · show g 3 + g 0 + g 6 + 0 + g 4 = 0 + g 0 + 0 + 0 + g 3 + g 4 + 0 + g 6 + 0 + 0
    simp only [Int64.add_zero, Int64.zero_add]
    ac_rfl
  · show g 4 + g 1 + g 7 + g 3 + g 5 = 0 + 0 + g 1 + 0 + g 3 + g 4 + g 5 + 0 + g 7 + 0
    simp only [Int64.add_zero, Int64.zero_add]
    ac_rfl
  · show g 5 + g 2 + g 8 + g 4 + 0 = 0 + 0 + 0 + g 2 + 0 + g 4 + g 5 + 0 + 0 + g 8
    simp only [Int64.add_zero, Int64.zero_add]
    ac_rfl
  · show g 6 + g 3 + 0 + 0 + g 7 = 0 + 0 + 0 + 0 + g 3 + 0 + 0 + g 6 + g 7 + 0
    simp only [Int64.add_zero, Int64.zero_add]
    ac_rfl
  · show g 7 + g 4 + 0 + g 6 + g 8 = 0 + 0 + 0 + 0 + 0 + g 4 + 0 + g 6 + g 7 + g 8
    simp only [Int64.add_zero, Int64.zero_add]
    ac_rfl
  · show g 8 + g 5 + 0 + g 7 + 0 = 0 + 0 + 0 + 0 + 0 + 0 + g 5 + 0 + g 7 + g 8
    simp only [Int64.add_zero, Int64.zero_add]
    ac_rfl
theorem nI_9 (y : Nat) : nI y * (9 : Int32) = nI (9 * y) := (pk_mul y 9).trans (congrArg nI (Nat.mul_comm y 9))
section SP
variable {op : Nat → Int32} {k24 : (Nat → Int64) → Int32 → Int32 → Int32 → Option ((Nat → Int64))} {f : Nat → Int64} {x y c : Nat}
theorem sp137 (hy : y < 12) (hc : c < 9) (s0 s1 : Int64) : m_X2_spread_B137 op k24 f (nI y) (nI (9 * x)) (nI c) s0 s1 = k24 (vp_updL f (9 * y + c) (if op (9 * y + c) = 0 then 0 else s1 + s0)) (nI y) (nI (9 * x)) (nI (c + 1)) := by
  unfold m_X2_spread_B137
  rw [q_let, q_let, nI_9, nI_add, q_at (by omega) (by omega), nI_1]
  by_cases h : op (9 * y + c) = 0
  · rw [if_pos h, if_pos h, q_wrL (by omega) (by omega), q_let]
  · rw [if_neg h, if_neg h, q_wrL (by omega) (by omega), q_let]
theorem sp111 (hx : x < 12) (hy : y < 12) (hc : c < 9) (s0 s1 : Int64) : m_X2_spread_B111 op k24 f (nI y) (nI (9 * x)) (nI c) s0 s1 = k24 (vp_updL f (9 * y + c) (if op (9 * y + c) = 0 then 0 else s1 + s0 + (if 2 ≤ c % 3 then 0 else f (9 * x + c + 1)))) (nI y) (nI (9 * x)) (nI (c + 1)) := by
  unfold m_X2_spread_B111
  rw [q_let, show (3 : Int32) = nI 3 from rfl, pk_rem (a := c) (d := 3) (by omega) (by omega) (by omega), nI_add, nI_1]
  by_cases h : 2 ≤ c % 3
  · rw [if_pos (show (2 : Int32) ≤ nI (c % 3) from nI_le (a := 2) h (by omega)), sp137 hy hc, if_pos h]
  · rw [if_neg (show ¬ (2 : Int32) ≤ nI (c % 3) from nI_ge (b := 2) (by omega) (by omega)), q_at (by omega) (by omega), sp137 hy hc, if_neg h]
theorem sp86 (hx : x < 12) (hy : y < 12) (hc : c < 9) (s0 s1 : Int64) : m_X2_spread_B86 op k24 f (nI y) (nI (9 * x)) (nI c) s0 s1 = k24 (vp_updL f (9 * y + c) (if op (9 * y + c) = 0 then 0 else s1 + s0 + (if c % 3 ≤ 0 then 0 else f (9 * x + c - 1)) + (if 2 ≤ c % 3 then 0 else f (9 * x + c + 1)))) (nI y) (nI (9 * x)) (nI (c + 1)) := by
  unfold m_X2_spread_B86
  rw [q_let, show (3 : Int32) = nI 3 from rfl, pk_rem (a := c) (d := 3) (by omega) (by omega) (by omega), nI_add]
  by_cases h : c % 3 ≤ 0
  · rw [if_pos (show nI (c % 3) ≤ (0 : Int32) from nI_le (b := 0) h (by omega)), sp111 hx hy hc, if_pos h]
  · rw [if_neg (show ¬ nI (c % 3) ≤ (0 : Int32) from nI_ge (a := 0) (by omega) (by omega)), show nI (9 * x + c) - (1 : Int32) = nI (9 * x + c - 1) from pk_sub (b := 1) (by omega), q_at (by omega) (by omega), sp111 hx hy hc, if_neg h]
theorem sp61 (hx : x < 12) (hy : y < 12) (hc : c < 9) (s0 s1 : Int64) : m_X2_spread_B61 op k24 f (nI y) (nI (9 * x)) (nI c) s0 s1 = k24 (vp_updL f (9 * y + c) (if op (9 * y + c) = 0 then 0 else s1 + s0 + (if 6 ≤ c then 0 else f (9 * x + c + 3)) + (if c % 3 ≤ 0 then 0 else f (9 * x + c - 1)) + (if 2 ≤ c % 3 then 0 else f (9 * x + c + 1)))) (nI y) (nI (9 * x)) (nI (c + 1)) := by
  unfold m_X2_spread_B61
  rw [q_let, nI_add, show nI (9 * x + c) + (3 : Int32) = nI (9 * x + c + 3) from nI_add _ 3]
  by_cases h : 6 ≤ c
  · rw [if_pos (show (6 : Int32) ≤ nI c from nI_le (a := 6) h (by omega)), sp86 hx hy hc, if_pos h]
  · rw [if_neg (show ¬ (6 : Int32) ≤ nI c from nI_ge (b := 6) (by omega) (by omega)), q_at (by omega) (by omega), sp86 hx hy hc, if_neg h]
theorem spread_s (hx : x < 12) (hy : y < 12) (hc : c < 9) (fu : Nat) : m_X2_spread_L24 op (fu + 1) f (nI y) (nI (9 * x)) (nI c) = m_X2_spread_L24 op fu (vp_updL f (9 * y + c) (if op (9 * y + c) = 0 then 0 else rs (fun a => f (9 * x + a)) c 9)) (nI y) (nI (9 * x)) (nI (c + 1)) := by
  rw [← xs_rs _ hc]
  unfold xs
  show _ = m_X2_spread_L24 op fu (vp_updL f (9 * y + c) (if op (9 * y + c) = 0 then 0 else f (9 * x + c) + (if c < 3 then 0 else f (9 * x + (c - 3))) + (if 6 ≤ c then 0 else f (9 * x + c + 3)) + (if c % 3 ≤ 0 then 0 else f (9 * x + (c - 1))) + (if 2 ≤ c % 3 then 0 else f (9 * x + c + 1)))) (nI y) (nI (9 * x)) (nI (c + 1))
  have e1 : (if c % 3 ≤ 0 then 0 else f (9 * x + (c - 1))) = (if c % 3 ≤ 0 then 0 else f (9 * x + c - 1)) := by
    by_cases h : c % 3 ≤ 0
    · rw [if_pos h, if_pos h]
    · rw [if_neg h, if_neg h, show 9 * x + (c - 1) = 9 * x + c - 1 by omega]
  rw [e1, m_X2_spread_L24, if_neg (show ¬ (9 : Int32) ≤ nI c from nI_ge (b := 9) hc (by omega)), nI_add, q_at (by omega) (by omega)]
  by_cases h : c < 3
  · rw [if_pos (show nI c < (3 : Int32) from nI_lt (b := 3) h (by omega)), sp61 hx hy hc, if_pos h]
  · rw [if_neg (show ¬ nI c < (3 : Int32) from nI_nlt (b := 3) (by omega) (by omega)), show nI (9 * x + c) - (3 : Int32) = nI (9 * x + c - 3) from pk_sub (b := 3) (by omega), q_at (by omega) (by omega), sp61 hx hy hc, if_neg h, show 9 * x + (c - 3) = 9 * x + c - 3 by omega]
end SP
def spF (f : Nat → Int64) (op : Nat → Int32) (x y i : Nat) : Nat → Int64 := fun k => if 9 * y ≤ k ∧ k < 9 * y + i then (if op k = 0 then 0 else rs (fun a => f (9 * x + a)) (k - 9 * y) 9) else f k
theorem spF_succ {f : Nat → Int64} {op : Nat → Int32} {x y i : Nat} : vp_updL (spF f op x y i) (9 * y + i) (if op (9 * y + i) = 0 then 0 else rs (fun a => f (9 * x + a)) i 9) = spF f op x y (i + 1) := by
  funext q
  show (if q = 9 * y + i then (if op (9 * y + i) = 0 then 0 else rs (fun a => f (9 * x + a)) i 9) else (if 9 * y ≤ q ∧ q < 9 * y + i then (if op q = 0 then 0 else rs (fun a => f (9 * x + a)) (q - 9 * y) 9) else f q)) = (if 9 * y ≤ q ∧ q < 9 * y + (i + 1) then (if op q = 0 then 0 else rs (fun a => f (9 * x + a)) (q - 9 * y) 9) else f q)
  by_cases h : q = 9 * y + i
  · subst h
    rw [if_pos rfl, if_pos (show 9 * y ≤ 9 * y + i ∧ 9 * y + i < 9 * y + (i + 1) by omega), show 9 * y + i - 9 * y = i by omega]
  · rw [if_neg h]
    by_cases h2 : 9 * y ≤ q ∧ q < 9 * y + i
    · rw [if_pos h2, if_pos (show 9 * y ≤ q ∧ q < 9 * y + (i + 1) by omega)]
    · rw [if_neg h2, if_neg (show ¬ (9 * y ≤ q ∧ q < 9 * y + (i + 1)) by omega)]
theorem spread_aux (op : Nat → Int32) (f : Nat → Int64) {x y : Nat} (hx : x < 12) (hy : y < 12) (hxy : x ≠ y) : ∀ (m i fu : Nat), i + m = 9 → m < fu → m_X2_spread_L24 op fu (spF f op x y i) (nI y) (nI (9 * x)) (nI i) = some (spF f op x y 9)
  | m, i, 0, _, h => absurd h (Nat.not_lt_zero m)
  | 0, i, fu + 1, e, _ => by
    rw [m_X2_spread_L24, if_pos (show (9 : Int32) ≤ nI i from nI_le (a := 9) (by omega) (by omega)), show i = 9 by omega]
  | m + 1, i, fu + 1, e, hfu => by
    have er : rs (fun a => spF f op x y i (9 * x + a)) i 9 = rs (fun a => f (9 * x + a)) i 9 := rs_c 9 (fun a ha => by
      show (if 9 * y ≤ 9 * x + a ∧ 9 * x + a < 9 * y + i then _ else f (9 * x + a)) = f (9 * x + a)
      rw [if_neg (by omega)])
    rw [spread_s hx hy (by omega), er, spF_succ]
    exact spread_aux op f hx hy hxy m (i + 1) fu (by omega) (by omega)
theorem spread_ok (op : Nat → Int32) (f : Nat → Int64) {x y : Nat} (hx : x < 12) (hy : y < 12) (hxy : x ≠ y) : m_X2_spread f op (nI x) (nI y) = some (spF f op x y 9) := by
  unfold m_X2_spread
  rw [q_call (isLayer_ok _), show qIn (nI x) 0 11 = 1 from qIn_1 (lo := 0) (hi := 11) (by omega) (by omega) (by omega), if_neg one_ne0, q_call (isLayer_ok _), show qIn (nI y) 0 11 = 1 from qIn_1 (lo := 0) (hi := 11) (by omega) (by omega) (by omega), if_neg one_ne0, nI_9, q_let]
  have h := spread_aux op f hx hy hxy 9 0 mFU (by omega) (by unfold mFU; omega)
  rw [show spF f op x y 0 = f by
    funext q
    show (if 9 * y ≤ q ∧ q < 9 * y + 0 then _ else f q) = f q
    rw [if_neg (by omega)]] at h
  exact h
theorem spF_in {f : Nat → Int64} {op : Nat → Int32} {x y c : Nat} (hc : c < 9) : spF f op x y 9 (9 * y + c) = if op (9 * y + c) = 0 then 0 else rs (fun a => f (9 * x + a)) c 9 := by
  show (if 9 * y ≤ 9 * y + c ∧ 9 * y + c < 9 * y + 9 then (if op (9 * y + c) = 0 then 0 else rs (fun a => f (9 * x + a)) (9 * y + c - 9 * y) 9) else f (9 * y + c)) = _
  rw [if_pos (by omega), show 9 * y + c - 9 * y = c by omega]
theorem spF_out {f : Nat → Int64} {op : Nat → Int32} {x y d c : Nat} (hc : c < 9) (hd : d ≠ y) : spF f op x y 9 (9 * d + c) = f (9 * d + c) := by
  show (if 9 * y ≤ 9 * d + c ∧ 9 * d + c < 9 * y + 9 then _ else f (9 * d + c)) = _
  rw [if_neg (by omega)]
