-- fits, look: which pairs fit
def fs (n : Nat → Int32) (k a : Nat) : Nat → Nat → Bool
  | 0, _ => true
  | m + 1, q => if wc n k a (nv (n 90)) (nv (n (91 + 2 * q))) = n (91 + 2 * q + 1) then fs n k a m (q + 1) else false
def ft (n : Nat → Int32) (p : Nat) : Bool := if p % 12 + nv (n 90) ≤ 12 then fs n (p / 12) (p % 12) (nv (n 89)) 0 else false
def cF (n : Nat → Int32) : Nat → Nat
  | 0 => 0
  | p + 1 => if ft n p = true then cF n p + 1 else cF n p
def fF (n : Nat → Int32) : Nat → Int32
  | 0 => -1
  | p + 1 => if ft n p = true then (if cF n p = 0 then nI p else fF n p) else fF n p
theorem cF_le (n : Nat → Int32) : ∀ p, cF n p ≤ p
  | 0 => Nat.le_refl 0
  | p + 1 => by
    have := cF_le n p
    show (if ft n p = true then cF n p + 1 else cF n p) ≤ p + 1
    by_cases h : ft n p = true
    · rw [if_pos h]; omega
    · rw [if_neg h]; omega
theorem cF_t {n : Nat → Int32} {p : Nat} (h : ft n p = true) : cF n (p + 1) = cF n p + 1 := if_pos h
theorem cF_f {n : Nat → Int32} {p : Nat} (h : ¬ ft n p = true) : cF n (p + 1) = cF n p := if_neg h
theorem fF_t {n : Nat → Int32} {p : Nat} (h : ft n p = true) : fF n (p + 1) = if cF n p = 0 then nI p else fF n p := if_pos h
theorem fF_f {n : Nat → Int32} {p : Nat} (h : ¬ ft n p = true) : fF n (p + 1) = fF n p := if_neg h
theorem fF_c (n : Nat → Int32) : ∀ p, p ≤ 72 → (fF n p = -1 ↔ cF n p = 0)
  | 0, _ => ⟨fun _ => rfl, fun _ => rfl⟩
  | p + 1, hp => by
    have ih := fF_c n p (by omega)
    by_cases h : ft n p = true
    · rw [cF_t h, fF_t h]
      constructor
      · intro q
        by_cases h0 : cF n p = 0
        · rw [if_pos h0] at q
          exact absurd q (nI_nn (by omega) (by decide))
        · rw [if_neg h0] at q
          exact absurd (ih.mp q) h0
      · intro q; omega
    · rw [cF_f h, fF_f h]
      exact ih
section FT
variable {F : Nat → Nat → Int32} {V n : Nat → Int32}
theorem atS (hS : relS F V n) {k c : Nat} (hk : k < nv (n 89)) (hc : c < 2) : m_X9_at (V 7) (F 6) (nI k) (nI c) = some (n (91 + 2 * k + c)) := by
  obtain ⟨h1, h2, _, _, _, h3⟩ := hS
  obtain ⟨a1, _, a2, _⟩ := h3 k hk
  rw [h1, h2.2, at_ok hk (by have := h2.1; omega) (by omega)]
  have : c = 0 ∨ c = 1 := by omega
  rcases this with rfl | rfl
  · exact congrArg some a1
  · exact congrArg some a2
theorem fitX_aux (hw : relW F n) (hS : relS F V n) {k a : Nat} (hk : k < 6) (ha : a + nv (n 90) ≤ 12) : ∀ (m q fu : Nat), q + m = nv (n 89) → m < fu → m_X2_fitsAll_L2 (V 13) (V 7) (F 6) (F 0) fu (nI k) (nI a) (nI q) = some (b2 (fs n k a m q))
  | m, q, 0, _, h0 => absurd h0 (Nat.not_lt_zero m)
  | 0, q, fu + 1, e, _ => by
    have h9 := hS.2.1.1
    have g : V 7 ≤ nI q := by rw [hS.1, hS.2.1.2]; exact nI_le (by omega) (by omega)
    rw [m_X2_fitsAll_L2, if_pos g]
    rfl
  | m + 1, q, fu + 1, e, hfu => by
    have h9 := hS.2.1.1
    have h7 := hS.2.2.2.1.1
    have g : ¬ V 7 ≤ nI q := by rw [hS.1, hS.2.1.2]; exact nI_ge (by omega) (by omega)
    have hq : q < nv (n 89) := by omega
    have ht := (hS.2.2.2.2.2 q hq).2.1
    have hb := ht.1
    have hc : m_X4_weatherOfCut (F 0) (nI k) (nI a) (V 13) (n (91 + 2 * q)) = some (wc n k a (nv (n 90)) (nv (n (91 + 2 * q)))) := by
      have := cut_ok (t := nv (n (91 + 2 * q))) hw hk h7 ha (by omega)
      rw [← ht.2, ← hS.2.2.2.1.2] at this
      rw [hS.2.2.1]
      exact this
    rw [m_X2_fitsAll_L2, if_neg g, q_call (show m_X9_at (V 7) (F 6) (nI q) (0 : Int32) = some (n (91 + 2 * q)) from atS (c := 0) hS hq (by omega)), q_call hc, q_call (show m_X9_at (V 7) (F 6) (nI q) (1 : Int32) = some (n (91 + 2 * q + 1)) from atS (c := 1) hS hq (by omega))]
    show _ = some (b2 (if wc n k a (nv (n 90)) (nv (n (91 + 2 * q))) = n (91 + 2 * q + 1) then fs n k a m (q + 1) else false))
    by_cases hz : wc n k a (nv (n 90)) (nv (n (91 + 2 * q))) = n (91 + 2 * q + 1)
    · rw [if_pos hz, if_pos hz, q_let, nI_1]
      exact fitX_aux hw hS hk ha m (q + 1) fu (by omega) (by omega)
    · rw [if_neg hz, if_neg hz]
      rfl
theorem fitR_0 (x1 x2 x4 : Int32) (fu : Nat) : m_X12_isFit_L23 n (fu + 1) x1 x2 0 x4 = some 0 := by
  rw [m_X12_isFit_L23, show (89 : Int32) = nI 89 from rfl, q_at (by omega) (by omega), q_z (by decide), if_pos rfl]
  by_cases h : n 89 ≤ x4
  · rw [if_pos h]
  · rw [if_neg h]
theorem fitR_aux (hw : relW F n) (hS : relS F V n) {k a : Nat} (hk : k < 6) (ha : a + nv (n 90) ≤ 12) : ∀ (m q fu : Nat), q + m = nv (n 89) → m < fu → m_X12_isFit_L23 n fu (nI k) (nI a) 1 (nI q) = some (b2 (fs n k a m q))
  | m, q, 0, _, h0 => absurd h0 (Nat.not_lt_zero m)
  | 0, q, fu + 1, e, _ => by
    have h9 := hS.2.1.1
    have g : n 89 ≤ nI q := by rw [hS.2.1.2]; exact nI_le (by omega) (by omega)
    rw [m_X12_isFit_L23, show (89 : Int32) = nI 89 from rfl, q_at (by omega) (by omega), if_pos g, q_z (by decide)]
    rfl
  | m + 1, q, fu + 1, e, hfu => by
    have h9 := hS.2.1.1
    have h7 := hS.2.2.2.1.1
    have g : ¬ n 89 ≤ nI q := by rw [hS.2.1.2]; exact nI_ge (by omega) (by omega)
    have hq : q < nv (n 89) := by omega
    have ht := (hS.2.2.2.2.2 q hq).2.1
    have hb := ht.1
    have hc : m_X12_weatherBy n (nI k) (nI a) (n 90) (n (91 + 2 * q)) = some (wc n k a (nv (n 90)) (nv (n (91 + 2 * q)))) := by
      have := weatherBy_ok (n := n) (t := nv (n (91 + 2 * q))) hk h7 ha (by omega)
      rw [← ht.2, ← hS.2.2.2.1.2] at this
      exact this
    rw [m_X12_isFit_L23, show (89 : Int32) = nI 89 from rfl, show (90 : Int32) = nI 90 from rfl, q_at (by omega) (by omega), if_neg g, if_neg one_ne0, q_at (by omega) (by omega), show (2 : Int32) * nI q = nI (2 * q) from pk_mul 2 q, show (91 : Int32) + nI (2 * q) = nI (91 + 2 * q) from nI_add 91 _, q_at (by omega) (by omega), q_call hc, nI_1 (91 + 2 * q), q_at (by omega) (by omega), nI_1 q, q_let, q_let]
    show _ = some (b2 (if wc n k a (nv (n 90)) (nv (n (91 + 2 * q))) = n (91 + 2 * q + 1) then fs n k a m (q + 1) else false))
    by_cases hz : wc n k a (nv (n 90)) (nv (n (91 + 2 * q))) = n (91 + 2 * q + 1)
    · rw [if_pos hz, if_pos hz]
      exact fitR_aux hw hS hk ha m (q + 1) fu (by omega) (by omega)
    · obtain ⟨z, rfl⟩ : ∃ z, fu = z + 1 := ⟨fu - 1, by omega⟩
      rw [if_neg hz, if_neg hz, fitR_0]
      rfl
theorem isFit_ok (hw : relW F n) (hS : relS F V n) {p : Nat} (hp : p < 72) : m_X12_isFit n (nI (p / 12)) (nI (p % 12)) = some (b2 (ft n p)) := by
  have h9 := hS.2.1.1
  have h7 := hS.2.2.2.1.1
  unfold m_X12_isFit ft
  rw [show (90 : Int32) = nI 90 from rfl, q_at (by omega) (by omega)]
  by_cases h : p % 12 + nv (n 90) ≤ 12
  · have g : ¬ (12 : Int32) < nI (p % 12) + n 90 := by
      rw [hS.2.2.2.1.2, nI_add]
      exact nI_nlt (b := p % 12 + nv (n 90)) (a := 12) (by omega) (by omega)
    rw [if_neg g, if_pos h]
    exact fitR_aux hw hS (by omega) h (nv (n 89)) 0 mFU (by omega) (by unfold mFU; omega)
  · have g : (12 : Int32) < nI (p % 12) + n 90 := by
      rw [hS.2.2.2.1.2, nI_add]
      exact nI_lt (a := 12) (by omega) (by omega)
    rw [if_pos g, if_neg h]
    exact fitR_0 _ _ _ 999
theorem fitsAll_ok (hw : relW F n) (hS : relS F V n) {p : Nat} (hp : p < 72) (h : p % 12 + nv (n 90) ≤ 12) : m_X2_fitsAll (V 13) (V 7) (F 6) (F 0) (nI (p / 12)) (nI (p % 12)) = some (b2 (ft n p)) := by
  have h9 := hS.2.1.1
  unfold m_X2_fitsAll ft
  rw [if_pos h]
  exact fitX_aux hw hS (by omega) h (nv (n 89)) 0 mFU (by omega) (by unfold mFU; omega)
theorem nar_b2 (b : Bool) : vp_nar .boolean (b2 b) = b2 b := by cases b <;> decide
theorem mark59 (a1 a2 : Int32) (a3 a4 : Nat → Int32) (k9 : (Int32) → (Nat → Int32) → Int32 → Int32 → Option (Int32 × (Int32) × (Nat → Int32))) (v : Int32) (f : Nat → Int32) (c p : Nat) (z : Bool) (hp : p < 72) : m_X2_markFits_B59 a1 a2 a3 a4 k9 v f (nI c) (nI p) (b2 z) (nI p) = if z = true then k9 (if v = -1 then nI p else v) (upd f p (b2 z)) (nI (c + 1)) (nI (p + 1)) else k9 v (upd f p (b2 z)) (nI c) (nI (p + 1)) := by
  unfold m_X2_markFits_B59
  rw [q_wrZ (by omega) (by omega), nar_b2, q_at (by omega) (by omega), upd_eq, nI_1, nI_1, q_let, q_let, q_let, q_let]
  cases z with
  | false => rw [if_pos (show b2 false = 0 from rfl), if_neg (by decide)]
  | true =>
    rw [if_neg (show ¬ b2 true = 0 from one_ne0), if_pos rfl]
    by_cases h : v = -1
    · rw [if_pos h, if_pos h]
    · rw [if_neg h, if_neg h]
theorem mark_aux (hw : relW F n) (hS : relS F V n) : ∀ (m p fu : Nat) (f : Nat → Int32), p + m = 72 → m < fu → (∀ q, q < p → f q = b2 (ft n q)) → ∃ f', m_X2_markFits_L9 (V 13) (V 7) (F 6) (F 0) fu (fF n p) f (nI (cF n p)) (nI p) = some (nI (cF n 72), fF n 72, f') ∧ ∀ q, q < 72 → f' q = b2 (ft n q)
  | m, p, 0, f, _, h0, _ => absurd h0 (Nat.not_lt_zero m)
  | 0, p, fu + 1, f, e, _, hf => by
    have ep : p = 72 := by omega
    subst ep
    refine ⟨f, ?_, hf⟩
    rw [m_X2_markFits_L9, if_pos (by decide)]
  | m + 1, p, fu + 1, f, e, hfu, hf => by
    have h7 := hS.2.2.2.1.1
    have fc := fF_c n p (by omega)
    have next : ∃ f', m_X2_markFits_B59 (V 13) (V 7) (F 6) (F 0) (m_X2_markFits_L9 (V 13) (V 7) (F 6) (F 0) fu) (fF n p) f (nI (cF n p)) (nI p) (b2 (ft n p)) (nI p) = some (nI (cF n 72), fF n 72, f') ∧ ∀ q, q < 72 → f' q = b2 (ft n q) := by
      obtain ⟨f', g1, g2⟩ := mark_aux hw hS m (p + 1) fu (upd f p (b2 (ft n p))) (by omega) (by omega) (fun q hq => by
        by_cases hqp : q = p
        · rw [hqp, upd_eq]
        · rw [upd_ne hqp]; exact hf q (by omega))
      refine ⟨f', ?_, g2⟩
      rw [mark59 _ _ _ _ _ _ _ _ _ _ (by omega)]
      by_cases h : ft n p = true
      · rw [cF_t h, fF_t h] at g1
        rw [if_pos h]
        by_cases hz : cF n p = 0
        · rw [if_pos hz] at g1
          rw [if_pos (fc.mpr hz)]
          exact g1
        · rw [if_neg hz] at g1
          rw [if_neg (fun q => hz (fc.mp q))]
          exact g1
      · rw [cF_f h, fF_f h] at g1
        rw [if_neg h]
        exact g1
    rw [m_X2_markFits_L9, if_neg (show ¬ (72 : Int32) ≤ nI p from nI_ge (b := 72) (by omega) (by omega)), show nI p - nI p / (12 : Int32) * (12 : Int32) = nI (p % 12) from pk_rem (d := 12) (by omega) (by omega) (by omega), show nI p / (12 : Int32) = nI (p / 12) from pk_div (d := 12) (by omega) (by omega) (by omega), q_let]
    by_cases h : p % 12 + nv (n 90) ≤ 12
    · have g : ¬ (12 : Int32) < nI (p % 12) + V 13 := by
        rw [hS.2.2.1, hS.2.2.2.1.2, nI_add]
        exact nI_nlt (b := p % 12 + nv (n 90)) (a := 12) (by omega) (by omega)
      rw [if_neg g, q_call (fitsAll_ok hw hS (by omega) h)]
      by_cases hz : ft n p = true
      · rw [hz] at next ⊢
        rw [if_neg (show ¬ b2 true = 0 from one_ne0)]
        exact next
      · have hz' : ft n p = false := by
          cases hq : ft n p with
          | true => exact absurd hq hz
          | false => rfl
        rw [hz'] at next ⊢
        rw [if_pos (show b2 false = 0 from rfl)]
        exact next
    · have g : (12 : Int32) < nI (p % 12) + V 13 := by
        rw [hS.2.2.1, hS.2.2.2.1.2, nI_add]
        exact nI_lt (a := 12) (by omega) (by omega)
      have hz' : ft n p = false := by unfold ft; rw [if_neg h]
      rw [hz'] at next
      rw [if_pos g]
      exact next
theorem mark_ok (hw : relW F n) (hS : relS F V n) (v : Int32) (f : Nat → Int32) : ∃ f', m_X2_markFits v f (V 13) (V 7) (F 6) (F 0) = some (nI (cF n 72), fF n 72, f') ∧ ∀ q, q < 72 → f' q = b2 (ft n q) := by
  unfold m_X2_markFits
  exact mark_aux hw hS 72 0 mFU f (by omega) (by unfold mFU; omega) (fun q hq => absurd hq (Nat.not_lt_zero q))
theorem fitsR_aux (hw : relW F n) (hS : relS F V n) (r : Nat → Int32) (x1 : Int32) : ∀ (m p fu : Nat), p + m = 72 → m < fu → m_X12_fits_L21 n fu r x1 (nI (cF n p)) (fF n p) (nI p) = some (if x1 = 0 then nI (cF n 72) else fF n 72, r)
  | m, p, 0, _, h0 => absurd h0 (Nat.not_lt_zero m)
  | 0, p, fu + 1, e, _ => by
    have ep : p = 72 := by omega
    subst ep
    rw [m_X12_fits_L21, if_pos (by decide)]
    by_cases h : x1 = 0
    · rw [if_pos h, if_pos h]
    · rw [if_neg h, if_neg h]
  | m + 1, p, fu + 1, e, hfu => by
    have g1 := fitsR_aux hw hS r x1 m (p + 1) fu (by omega) (by omega)
    have hc := cF_le n p
    rw [m_X12_fits_L21, if_neg (show ¬ (72 : Int32) ≤ nI p from nI_ge (b := 72) (by omega) (by omega)), show nI p - nI p / (12 : Int32) * (12 : Int32) = nI (p % 12) from pk_rem (d := 12) (by omega) (by omega) (by omega), show nI p / (12 : Int32) = nI (p / 12) from pk_div (d := 12) (by omega) (by omega) (by omega), q_call (isFit_ok hw hS (by omega))]
    by_cases h : ft n p = true
    · rw [cF_t h, fF_t h] at g1
      rw [b2_t h, if_neg one_ne0]
      by_cases hz : cF n p = 0
      · rw [if_pos hz] at g1
        rw [if_pos (show nI (cF n p) = 0 by rw [hz]; rfl), q_let, q_let, nI_1, nI_1]
        exact g1
      · rw [if_neg hz] at g1
        rw [if_neg (nI_ne0 (by omega) (by omega)), q_let, q_let, nI_1, nI_1]
        exact g1
    · rw [cF_f h, fF_f h] at g1
      rw [b2_f h, if_pos rfl, q_let, nI_1]
      exact g1
end FT
theorem o_fits : opSpec_fits Rel := by
  intro FI FL VI VL a1 h
  have hw := h.1.2.1
  have hS := h.1.2.2.2.2.2.2.2.1
  rcases qIn_c a1 0 1 (by omega) (by omega) with e | ⟨e, i, _, hi, rfl⟩
  · have e' : qIn a1 0 1 = 0 := e
    refine ⟨(-10, VI 62 + 1, VI 61, FI 44), (-10, upd (FI 48) 0 (FI 48 0 + 1)), ?_, ?_, rfl, ?_⟩
    · unfold m_X11_fits; rw [q_call (within_ok _ _ _), e', if_pos rfl, q_call (badIndex_ok _)]
    · unfold m_X12_fits; rw [q_call (in_ok _ _ _), e', if_pos rfl, q_call (wrong_ok _)]
    · refine rel_eq (rel_bad h) (fun j => ?_) (fun j => ?_) (fun j => rfl)
      · repeat (refine up_or rfl (fun _ => ?_))
        exact (up_ne ‹j ≠ 48›).symm
      · repeat (refine up_or rfl (fun _ => ?_))
        exact (up_ne ‹j ≠ 62›).symm
  · have e' : qIn (nI i) 0 1 = 1 := e
    obtain ⟨f', m1, m2⟩ := mark_ok hw hS (VI 61) (FI 44)
    refine ⟨(if nI i = 0 then nI (cF (FI 49) 72) else fF (FI 49) 72, VI 62, fF (FI 49) 72, f'), (if nI i = 0 then nI (cF (FI 49) 72) else fF (FI 49) 72, FI 48), ?_, ?_, rfl, ?_⟩
    · unfold m_X11_fits
      rw [q_call (within_ok _ _ _), e', if_neg one_ne0, q_call m1]
      by_cases hz : nI i = 0
      · rw [if_pos hz, if_pos hz]
      · rw [if_neg hz, if_neg hz]
    · unfold m_X12_fits
      rw [q_call (in_ok _ _ _), e', if_neg one_ne0]
      exact fitsR_aux hw hS (FI 48) (nI i) 72 0 mFU (by omega) (by unfold mFU; omega)
    · refine rel_wk h (fun j j2 j3 j4 j5 => ?_) (fun j j1 j2 => ?_) (fun j _ => rfl)
      · show va_up (va_up FI 44 f') 48 (FI 48) j = FI j
        exact up_or rfl (fun _ => up_ne (by omega))
      · show va_up (va_up VI 61 (fF (FI 49) 72)) 62 (VI 62) j = VI j
        exact up_or rfl (fun _ => up_ne (by omega))
-- look
def alk (fx fr : Nat → Int32) (p : Nat) : Prop := fr 0 = fx 6 ∧ (∀ w, w < 6 → fr (1 + w) = fx w) ∧ ∀ g, g < 7 → ∃ c, c ≤ p ∧ fx g = nI c
section LK
variable {F : Nat → Nat → Int32} {V n : Nat → Int32}
theorem alk_up {fx fr : Nat → Int32} {p a b c : Nat} (h : alk fx fr p) (ha : a < 7) (hab : (a = 6 ∧ b = 0) ∨ (a < 6 ∧ b = 1 + a)) (hc : fx a = nI c) (hcp : c ≤ p) : alk (upd fx a (nI (c + 1))) (upd fr b (nI (c + 1))) (p + 1) := by
  obtain ⟨h1, h2, h3⟩ := h
  refine ⟨?_, fun w hw => ?_, fun g hg => ?_⟩
  · by_cases e : b = 0
    · have ea : a = 6 := by omega
      rw [e, ea, upd_eq, upd_eq]
    · rw [upd_ne (by omega), upd_ne (by omega)]
      exact h1
  · by_cases e : b = 1 + w
    · have ea : a = w := by omega
      rw [e, ea, upd_eq, upd_eq]
    · rw [upd_ne (by omega), upd_ne (by omega)]
      exact h2 w hw
  · by_cases e : g = a
    · rw [e, upd_eq]
      exact ⟨c + 1, by omega, rfl⟩
    · rw [upd_ne e]
      obtain ⟨c', h4, h5⟩ := h3 g hg
      exact ⟨c', by omega, h5⟩
theorem most_sim (hw : relW F n) (hS : relS F V n) {fit : Nat → Int32} (hfit : ∀ q, q < 72 → fit q = b2 (ft n q)) (k7 : (Nat → Int32) → Int32 → Int32 → Int32 → Option (Int32 × (Nat → Int32))) {t : Nat} (ht : t < 13) (x1 x2 : Int32) : ∀ (m p fu fu2 c : Nat) (fx fr : Nat → Int32), p + m = 72 → m < fu → m < fu2 → alk fx fr p → c ≤ p → (c = 0 ↔ cF n p = 0) → ∃ c' fx' fr', c' ≤ 72 ∧ (c' = 0 ↔ cF n 72 = 0) ∧ m_X2_mostAlike_L13 fit (V 13) (F 0) fu fx (nI t) (nI c) (nI p) = some (nI c', fx') ∧ m_X12_look_L43 n k7 fu2 fr x1 x2 (nI t) (nI c) (nI p) = (if nI c' ≤ 0 then k7 fr' x1 x2 (nI (t + 1)) else if x2 ≤ nI c' then k7 fr' x1 x2 (nI (t + 1)) else k7 fr' (nI t) (nI c') (nI (t + 1)))
  | m, p, 0, _, c, fx, fr, _, h0, _, _, _, _ => absurd h0 (Nat.not_lt_zero m)
  | m, p, _ + 1, 0, c, fx, fr, _, _, h0, _, _, _ => absurd h0 (Nat.not_lt_zero m)
  | 0, p, fu + 1, fu2 + 1, c, fx, fr, e, _, _, ha, hc, hz => by
    have ep : p = 72 := by omega
    subst ep
    refine ⟨c, fx, fr, hc, hz, ?_, ?_⟩
    · rw [m_X2_mostAlike_L13, if_pos (by decide)]
    · rw [m_X12_look_L43, if_pos (by decide), nI_1, q_let, q_let]
  | m + 1, p, fu + 1, fu2 + 1, c, fx, fr, e, hfu, hfu2, ha, hc, hz => by
    have h7 := hS.2.2.2.1.1
    rw [m_X2_mostAlike_L13, m_X12_look_L43, if_neg (show ¬ (72 : Int32) ≤ nI p from nI_ge (b := 72) (by omega) (by omega)), if_neg (show ¬ (72 : Int32) ≤ nI p from nI_ge (b := 72) (by omega) (by omega)), q_at (by omega) (by omega), hfit p (by omega), show nI p - nI p / (12 : Int32) * (12 : Int32) = nI (p % 12) from pk_rem (d := 12) (by omega) (by omega) (by omega), show nI p / (12 : Int32) = nI (p / 12) from pk_div (d := 12) (by omega) (by omega) (by omega), q_call (isFit_ok hw hS (by omega))]
    by_cases h : ft n p = true
    · have hle : p % 12 + nv (n 90) ≤ 12 := by
        by_cases q : p % 12 + nv (n 90) ≤ 12
        · exact q
        · unfold ft at h
          rw [if_neg q] at h
          exact absurd h (by decide)
      have hX : m_X4_weatherOfCut (F 0) (nI (p / 12)) (nI (p % 12)) (V 13) (nI t) = some (wc n (p / 12) (p % 12) (nv (n 90)) t) := by
        have := cut_ok (k := p / 12) (a := p % 12) (t := t) hw (by omega) h7 hle (by omega)
        rw [← hS.2.2.2.1.2] at this
        rw [hS.2.2.1]
        exact this
      have hR : m_X12_weatherBy n (nI (p / 12)) (nI (p % 12)) (n 90) (nI t) = some (wc n (p / 12) (p % 12) (nv (n 90)) t) := by
        have := weatherBy_ok (n := n) (k := p / 12) (a := p % 12) (t := t) (by omega) h7 hle (by omega)
        rw [← hS.2.2.2.1.2] at this
        exact this
      have hv := wc_val (t := t) hw (show p / 12 < 6 by omega) h7 hle (by omega)
      rw [b2_t h, if_neg one_ne0, if_neg one_ne0, q_call hX, q_call (isWeather_ok _), show (90 : Int32) = nI 90 from rfl, q_at (by omega) (by omega), q_call hR, q_let]
      have go : ∀ a b : Nat, a < 7 → b < 7 → ((a = 6 ∧ b = 0) ∨ (a < 6 ∧ b = 1 + a)) → fr b = fx a → ∃ c' fx' fr', c' ≤ 72 ∧ (c' = 0 ↔ cF n 72 = 0) ∧ m_X2_mostAlike_B69 fit (V 13) (F 0) (m_X2_mostAlike_L13 fit (V 13) (F 0) fu) fx (nI t) (nI c) (nI p) (nI a) = some (nI c', fx') ∧ mRd fr 7 (nI b) (fun (t9 : Int32) => mWr fr 7 (nI b) (t9 + (1 : Int32)) (fun (f10 : Nat → Int32) => mRd f10 7 (nI b) (fun (t11 : Int32) => if t11 ≤ nI c then mLet (nI p + (1 : Int32)) (fun (t12 : Int32) => m_X12_look_L43 n k7 fu2 f10 x1 x2 (nI t) (nI c) t12) else mRd f10 7 (nI b) (fun (t13 : Int32) => mLet (nI p + (1 : Int32)) (fun (t14 : Int32) => m_X12_look_L43 n k7 fu2 f10 x1 x2 (nI t) t13 t14))))) = (if nI c' ≤ 0 then k7 fr' x1 x2 (nI (t + 1)) else if x2 ≤ nI c' then k7 fr' x1 x2 (nI (t + 1)) else k7 fr' (nI t) (nI c') (nI (t + 1))) := by
        intro a b ha7 hb7 hab hba
        obtain ⟨d, hd, ed⟩ := ha.2.2 a ha7
        have hup := alk_up ha ha7 hab ed hd
        unfold m_X2_mostAlike_B69
        rw [q_at ha7 (by omega), q_wr ha7 (by omega), q_at ha7 (by omega), upd_eq, q_at hb7 (by omega), q_wr hb7 (by omega), q_at hb7 (by omega), upd_eq, q_at hb7 (by omega), upd_eq, hba, ed, nI_1 d, nI_1 p, q_let, q_let, q_let, q_let]
        by_cases hlt : c < d + 1
        · rw [if_pos (nI_lt hlt (by omega)), if_neg (nI_ge hlt (by omega))]
          exact most_sim hw hS hfit k7 ht x1 x2 m (p + 1) fu fu2 (d + 1) _ _ (by omega) (by omega) (by omega) hup (by omega) (by rw [cF_t h]; omega)
        · rw [if_neg (nI_nlt (by omega) (by omega)), if_pos (nI_le (by omega) (by omega))]
          exact most_sim hw hS hfit k7 ht x1 x2 m (p + 1) fu fu2 c _ _ (by omega) (by omega) (by omega) hup (by omega) (by rw [cF_t h]; omega)
      rcases hv with hv | hv
      · rw [hv, show qIn (-1) 0 5 = 0 from by decide, if_pos rfl, show (1 : Int32) + (-1) = nI 0 from by decide]
        exact go 6 0 (by omega) (by omega) (Or.inl ⟨rfl, rfl⟩) ha.1
      · obtain ⟨w, hwl, ew⟩ := sm_of hv
        rw [ew, show qIn (nI w) 0 5 = 1 from qIn_1 (lo := 0) (hi := 5) (by omega) (by omega) (by omega), if_neg one_ne0, show (1 : Int32) + nI w = nI (1 + w) from nI_add 1 w]
        exact go w (1 + w) (by omega) (by omega) (Or.inr ⟨hwl, rfl⟩) (ha.2.1 w hwl)
    · rw [b2_f h, if_pos rfl, if_pos rfl, q_let, q_let, nI_1]
      obtain ⟨h1, h2, h3⟩ := ha
      exact most_sim hw hS hfit k7 ht x1 x2 m (p + 1) fu fu2 c fx fr (by omega) (by omega) (by omega) ⟨h1, h2, fun g hg => by
        obtain ⟨c', h4, h5⟩ := h3 g hg
        exact ⟨c', by omega, h5⟩⟩ (by omega) (by rw [cF_f h]; exact hz)
theorem look16 (m : Nat → Int32) (k7 : (Nat → Int32) → Int32 → Int32 → Int32 → Option (Int32 × (Nat → Int32))) (x1 x2 x3 : Int32) (fr : Nat → Int32) : ∀ (q i fu : Nat), i + q = 7 → q < fu → m_X12_look_L16 m k7 fu (fun j => if j < i then 0 else fr j) x1 x2 x3 (nI i) = m_X12_look_L43 m k7 mFU (fun j => if j < 7 then 0 else fr j) x1 x2 x3 (0 : Int32) (0 : Int32)
  | q, i, 0, _, h0 => absurd h0 (Nat.not_lt_zero q)
  | 0, i, fu + 1, e, _ => by
    have ei : i = 7 := by omega
    subst ei
    rw [m_X12_look_L16, if_pos (by decide)]
  | q + 1, i, fu + 1, e, hfu => by
    rw [m_X12_look_L16, if_neg (show ¬ (7 : Int32) ≤ nI i from nI_ge (b := 7) (by omega) (by omega)), q_wr (by omega) (by omega), q_let, nI_1, q_fill_succ]
    exact look16 m k7 x1 x2 x3 fr q (i + 1) fu (by omega) (by omega)
theorem alk_0 (fx fr : Nat → Int32) : alk (fun j => if j < 7 then 0 else fx j) (fun j => if j < 7 then 0 else fr j) 0 := by
  refine ⟨rfl, fun w hw => ?_, fun g hg => ⟨0, Nat.le_refl 0, ?_⟩⟩
  · show (if 1 + w < 7 then 0 else fr (1 + w)) = (if w < 7 then 0 else fx w)
    rw [if_pos (by omega), if_pos (by omega)]
  · show (if g < 7 then 0 else fx g) = nI 0
    rw [if_pos hg]
    rfl
/-- a step of both: how many show alike -/
theorem step_sim (hw : relW F n) (hS : relS F V n) {fit : Nat → Int32} (hfit : ∀ q, q < 72 → fit q = b2 (ft n q)) (k7 : (Nat → Int32) → Int32 → Int32 → Int32 → Option (Int32 × (Nat → Int32))) {t : Nat} (ht : t < 13) (x1 x2 : Int32) (fx fr : Nat → Int32) : ∃ c fx' fr', c ≤ 72 ∧ (c = 0 ↔ cF n 72 = 0) ∧ m_X2_mostAlike fx fit (V 13) (F 0) (nI t) = some (nI c, fx') ∧ m_X12_look_L16 n k7 mFU fr x1 x2 (nI t) (0 : Int32) = (if nI c ≤ 0 then k7 fr' x1 x2 (nI (t + 1)) else if x2 ≤ nI c then k7 fr' x1 x2 (nI (t + 1)) else k7 fr' (nI t) (nI c) (nI (t + 1))) := by
  obtain ⟨c, fx', fr', h1, h2, h3, h4⟩ := most_sim hw hS hfit k7 ht x1 x2 72 0 mFU mFU 0 _ _ (by omega) (by unfold mFU; omega) (by unfold mFU; omega) (alk_0 fx fr) (by omega) ⟨fun _ => rfl, fun _ => rfl⟩
  refine ⟨c, fx', fr', h1, h2, ?_, ?_⟩
  · unfold m_X2_mostAlike
    rw [q_call (fill_I 7 (by omega) fx 0)]
    exact h3
  · have := look16 n k7 x1 x2 (nI t) fr 7 0 mFU (by omega) (by unfold mFU; omega)
    rw [show (fun j => if j < 0 then 0 else fr j) = fr by funext j; simp] at this
    exact Eq.trans this h4
theorem look_sim (hw : relW F n) (hS : relS F V n) {fit : Nat → Int32} (hfit : ∀ q, q < 72 → fit q = b2 (ft n q)) (hc : ¬ cF n 72 = 0) : ∀ (m t fu fu2 s : Nat) (l : Int32) (fx fr : Nat → Int32), t + m = 13 → m < fu → m < fu2 → s < 13 → ∃ z fx' fr', m_X2_nextStep_L7 fit (V 13) (F 0) fu fx (nI s) l (nI t) = some (z, fx') ∧ m_X12_look_L7 n fu2 fr (nI s) l (nI t) = some (z, fr')
  | m, t, 0, _, s, l, fx, fr, _, h0, _, _ => absurd h0 (Nat.not_lt_zero m)
  | m, t, _ + 1, 0, s, l, fx, fr, _, _, h0, _ => absurd h0 (Nat.not_lt_zero m)
  | 0, t, fu + 1, fu2 + 1, s, l, fx, fr, e, _, _, hs => by
    refine ⟨nI s, fx, fr, ?_, ?_⟩
    · rw [m_X2_nextStep_L7, if_pos (show (12 : Int32) < nI t from nI_lt (a := 12) (by omega) (by omega))]
    · rw [m_X12_look_L7, if_pos (show (13 : Int32) ≤ nI t from nI_le (a := 13) (by omega) (by omega))]
  | m + 1, t, fu + 1, fu2 + 1, s, l, fx, fr, e, hfu, hfu2, hs => by
    obtain ⟨c, fx', fr', h1, h2, h3, h4⟩ := step_sim hw hS hfit (m_X12_look_L7 n fu2) (t := t) (by omega) (nI s) l fx fr
    have hc0 : ¬ c = 0 := fun q => hc (h2.mp q)
    rw [m_X2_nextStep_L7, m_X12_look_L7, if_neg (show ¬ (12 : Int32) < nI t from nI_nlt (a := 12) (by omega) (by omega)), if_neg (show ¬ (13 : Int32) ≤ nI t from nI_ge (b := 13) (by omega) (by omega)), q_call h3, h4, if_neg (nI_nn (by omega) (by decide)), if_neg (nI_nle (by omega) (by omega))]
    unfold m_X2_nextStep_B34
    rw [nI_1, q_let, q_let]
    by_cases hle : l ≤ nI c
    · rw [if_pos hle, if_pos hle]
      exact look_sim hw hS hfit hc m (t + 1) fu fu2 s l fx' fr' (by omega) (by omega) (by omega) hs
    · rw [if_neg hle, if_neg hle]
      exact look_sim hw hS hfit hc m (t + 1) fu fu2 t (nI c) fx' fr' (by omega) (by omega) (by omega) (by omega)
theorem look_none (hw : relW F n) (hS : relS F V n) {fit : Nat → Int32} (hfit : ∀ q, q < 72 → fit q = b2 (ft n q)) (hc : cF n 72 = 0) (l : Int32) : ∀ (m t fu2 : Nat) (fr : Nat → Int32), t + m = 13 → m < fu2 → ∃ fr', m_X12_look_L7 n fu2 fr (-1) l (nI t) = some (-1, fr')
  | m, t, 0, fr, _, h0 => absurd h0 (Nat.not_lt_zero m)
  | 0, t, fu2 + 1, fr, e, _ => by
    refine ⟨fr, ?_⟩
    rw [m_X12_look_L7, if_pos (show (13 : Int32) ≤ nI t from nI_le (a := 13) (by omega) (by omega))]
  | m + 1, t, fu2 + 1, fr, e, hfu2 => by
    obtain ⟨c, fx', fr', h1, h2, h3, h4⟩ := step_sim hw hS hfit (m_X12_look_L7 n fu2) (t := t) (by omega) (-1) l fr fr
    have hc0 : c = 0 := h2.mpr hc
    rw [m_X12_look_L7, if_neg (show ¬ (13 : Int32) ≤ nI t from nI_ge (b := 13) (by omega) (by omega)), h4, hc0, if_pos (by decide)]
    exact look_none hw hS hfit hc l m (t + 1) fu2 fr' (by omega) (by omega)
end LK
theorem o_look : opSpec_look Rel := by
  intro FI FL VI VL h
  have hw := h.1.2.1
  have hS := h.1.2.2.2.2.2.2.2.1
  obtain ⟨f', m1, m2⟩ := mark_ok hw hS (VI 61) (FI 44)
  have hc72 := cF_le (FI 49) 72
  have fin : ∀ (z : Int32) (fx fr : Nat → Int32), m_X11_look (VI 61) (FI 44) (VI 13) (VI 7) (FI 6) (FI 0) (FI 45) = some (z, fF (FI 49) 72, f', fx) → m_X12_look (FI 59) (FI 49) = some (z, fr) → ∃ (rx : Int32 × (Int32) × (Nat → Int32) × (Nat → Int32)) (rm : Int32 × (Nat → Int32)), m_X11_look (VI 61) (FI 44) (VI 13) (VI 7) (FI 6) (FI 0) (FI 45) = some rx ∧ m_X12_look (FI 59) (FI 49) = some rm ∧ rx.1 = rm.1 ∧ Rel (va_up (va_up (va_up FI 44 rx.2.2.1) 45 rx.2.2.2) 59 rm.2) FL (va_up VI 61 rx.2.1) VL := fun z fx fr q1 q2 => ⟨_, _, q1, q2, rfl, rel_wk h (fun j j2 j3 j4 j5 => by rw [up_ne (by omega), up_ne (by omega), up_ne (by omega)]) (fun j j1 j2 => up_ne (by omega)) (fun j _ => rfl)⟩
  by_cases hc : cF (FI 49) 72 = 0
  · obtain ⟨fr, r1⟩ := look_none hw hS m2 hc (1000000 : Int32) 13 0 mFU (FI 59) (by omega) (by unfold mFU; omega)
    refine fin (-1) (FI 45) fr ?_ ?_
    · unfold m_X11_look
      rw [q_call m1, if_pos (show nI (cF (FI 49) 72) = 0 by rw [hc]; rfl)]
    · unfold m_X12_look
      exact r1
  · obtain ⟨c, fx1, fr1, h1, h2, h3, h4⟩ := step_sim hw hS m2 (m_X12_look_L7 (FI 49) 999) (t := 0) (by omega) (-1) (1000000 : Int32) (FI 45) (FI 59)
    have hc0 : ¬ c = 0 := fun q => hc (h2.mp q)
    obtain ⟨z, fx', fr', z1, z2⟩ := look_sim hw hS m2 hc 12 1 999 999 0 (nI c) fx1 fr1 (by omega) (by omega) (by omega) (by omega)
    refine fin z fx' fr' ?_ ?_
    · unfold m_X11_look
      rw [q_call m1, if_neg (nI_ne0 (by omega) (by omega))]
      have : m_X2_nextStep (FI 45) f' (VI 13) (FI 0) = some (z, fx') := by
        unfold m_X2_nextStep
        show m_X2_nextStep_L7 f' (VI 13) (FI 0) (999 + 1) (FI 45) (-1 : Int32) (0 : Int32) (nI 0) = _
        rw [m_X2_nextStep_L7, if_neg (by decide), q_call h3, if_pos rfl]
        unfold m_X2_nextStep_B34
        rw [nI_1, q_let]
        exact z1
      rw [q_call this]
    · unfold m_X12_look
      show m_X12_look_L7 (FI 49) (999 + 1) (FI 59) (-1 : Int32) (1000000 : Int32) (nI 0) = _
      rw [m_X12_look_L7, if_neg (by decide), h4, if_neg (nI_nle (by omega) (by omega)), if_neg (show ¬ (1000000 : Int32) ≤ nI c from nI_ge (b := 1000000) (by omega) (by omega))]
      exact z2
