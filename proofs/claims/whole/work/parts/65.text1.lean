-- read: bytes, words, tokens of both
def txR (S : Nat) (fb ft : Nat → Int32) : Prop := S ≤ 150 ∧ ∀ i, i < S → fb i = ft i ∧ sm (ft i) 128
def byN (ft : Nat → Int32) (S i : Nat) : Int32 := if i < S then ft i else -1
theorem by_lo {ft : Nat → Int32} {S i : Nat} (h : i < S) : byN ft S i = ft i := if_pos h
theorem by_hi {ft : Nat → Int32} {S i : Nat} (h : S ≤ i) : byN ft S i = -1 := if_neg (by omega)
section TX
variable {S : Nat} {fb ft : Nat → Int32}
theorem byX (h : txR S fb ft) {i : Nat} (hi : i ≤ 1000) : m_X10_byteAt (nI S) fb (nI i) = some (byN ft S i) := by
  have hS := h.1
  unfold m_X10_byteAt
  rw [if_neg (nI_pos (by omega))]
  by_cases hiS : i < S
  · rw [if_neg (nI_ge hiS (by omega)), if_neg (show ¬ (150 : Int32) ≤ nI i from nI_ge (b := 150) (by omega) (by omega)), q_at (by omega) (by omega), (h.2 i hiS).1, by_lo hiS]
  · rw [if_pos (nI_le (by omega) (by omega)), by_hi (by omega)]
theorem byR (h : txR S fb ft) {i : Nat} (hi : i ≤ 1000) : m_X12_byteAt (nI S) ft (nI i) = some (byN ft S i) := by
  have hS := h.1
  unfold m_X12_byteAt
  by_cases hiS : i < S
  · rw [if_neg (nI_ge hiS (by omega)), q_at (by omega) (by omega), by_lo hiS]
  · rw [if_pos (nI_le (by omega) (by omega)), by_hi (by omega)]
theorem letX (h : txR S fb ft) {i : Nat} (hi : i ≤ 1000) : m_X10_isLetter (nI S) fb (nI i) = some (qIn (byN ft S i) 97 122) := by
  unfold m_X10_isLetter
  rw [q_call (byX h hi), q_call (within_ok _ _ _), q_z (qIn_z _ _ _)]
theorem figX (h : txR S fb ft) {i : Nat} (hi : i ≤ 1000) : m_X10_isFigure (nI S) fb (nI i) = some (qIn (byN ft S i) 48 57) := by
  unfold m_X10_isFigure
  rw [q_call (byX h hi), q_call (within_ok _ _ _), q_z (qIn_z _ _ _)]
theorem q_ch {β : Type} {i k : Nat} {K : Int32 → Option β} (h : k < sLenL.getD i 0) (hk : k < 1000) : mCh i (nI k) K = K (sCh i k) := by
  unfold mCh
  have e1 : (nI k).toNatClampNeg = k := nI_clamp (by omega)
  rw [if_neg (by rw [e1]; intro q; rcases q with q | q
                 · exact nI_pos (n := k) (by omega) q
                 · omega), e1]
theorem here_aux (h : txR S fb ft) {a : Nat} (ha : a ≤ 200) (si : Nat) (hlen : sLenL.getD si 0 ≤ 5) (nx : Int32) : ∀ (m k fu : Nat), k + m = sLenL.getD si 0 → m < fu → (m_X10_isHere_L20 si (nI S) nx (nI a) fb fu (nI k) = some 1 ∧ ∀ j, k ≤ j → j < sLenL.getD si 0 → byN ft S (a + j) = sCh si j) ∨ (m_X10_isHere_L20 si (nI S) nx (nI a) fb fu (nI k) = some 0 ∧ ¬ ∀ j, k ≤ j → j < sLenL.getD si 0 → byN ft S (a + j) = sCh si j)
  | m, k, 0, _, h0 => absurd h0 (Nat.not_lt_zero m)
  | 0, k, fu + 1, e, _ => by
    refine Or.inl ⟨?_, fun j h1 h2 => by omega⟩
    rw [m_X10_isHere_L20, if_pos (show sLn si ≤ nI k from nI_le (a := sLenL.getD si 0) (by omega) (by omega))]
  | m + 1, k, fu + 1, e, hfu => by
    rw [m_X10_isHere_L20, if_neg (show ¬ sLn si ≤ nI k from nI_ge (b := sLenL.getD si 0) (by omega) (by omega)), nI_add, q_call (byX h (by omega)), q_ch (by omega) (by omega), nI_1, q_let]
    by_cases he : byN ft S (a + k) = sCh si k
    · rw [if_pos he]
      rcases here_aux h ha si hlen nx m (k + 1) fu (by omega) (by omega) with ⟨i1, i2⟩ | ⟨i1, i2⟩
      · refine Or.inl ⟨i1, fun j h1 h2 => ?_⟩
        by_cases hjk : j = k
        · rw [hjk]; exact he
        · exact i2 j (by omega) h2
      · exact Or.inr ⟨i1, fun q => i2 (fun j h1 h2 => q j (by omega) h2)⟩
    · rw [if_neg he]
      exact Or.inr ⟨rfl, fun q => he (q k (Nat.le_refl k) (by omega))⟩
theorem here_c (h : txR S fb ft) {a e : Nat} (ha : a ≤ 200) (hae : a ≤ e) (he : e ≤ 1000) (si : Nat) (hlen : sLenL.getD si 0 ≤ 5) : (m_X10_isHere si (nI S) (nI e) (nI a) fb = some 1 ∧ e - a = sLenL.getD si 0 ∧ ∀ j, j < sLenL.getD si 0 → byN ft S (a + j) = sCh si j) ∨ (m_X10_isHere si (nI S) (nI e) (nI a) fb = some 0 ∧ ¬ (e - a = sLenL.getD si 0 ∧ ∀ j, j < sLenL.getD si 0 → byN ft S (a + j) = sCh si j)) := by
  unfold m_X10_isHere
  rw [pk_sub hae]
  by_cases hq : e - a = sLenL.getD si 0
  · rw [if_pos (show nI (e - a) = sLn si by rw [hq]; rfl)]
    rcases here_aux h ha si hlen (nI e) (sLenL.getD si 0) 0 mFU (by omega) (by unfold mFU; omega) with ⟨i1, i2⟩ | ⟨i1, i2⟩
    · exact Or.inl ⟨i1, hq, fun j hj => i2 j (Nat.zero_le j) hj⟩
    · exact Or.inr ⟨i1, fun q => i2 (fun j _ hj => q.2 j hj)⟩
  · rw [if_neg (show ¬ nI (e - a) = sLn si from fun q => hq ((nI_eq (b := sLenL.getD si 0) (by omega) (by omega)).mp q))]
    exact Or.inr ⟨rfl, fun q => hq q.1⟩
theorem w60 (x1 x6 x7 : Int32) : m_X12_isWord_B60 (nI S) ft x1 x6 x7 = some 0 := by
  unfold m_X12_isWord_B60 m_X12_isWord_B61
  rw [if_pos rfl]
theorem isW3 (h : txR S fb ft) {a q : Nat} (ha : a ≤ 200) (hq : q < 1000) (c0 c1 c2 : Int32) : (m_X12_isWord (nI S) ft (nI a) (nI q) c0 c1 c2 (-1) (-1) = some 1 ∧ q = 3 ∧ byN ft S a = c0 ∧ byN ft S (a + 1) = c1 ∧ byN ft S (a + 2) = c2) ∨ (m_X12_isWord (nI S) ft (nI a) (nI q) c0 c1 c2 (-1) (-1) = some 0 ∧ ¬ (q = 3 ∧ byN ft S a = c0 ∧ byN ft S (a + 1) = c1 ∧ byN ft S (a + 2) = c2)) := by
  unfold m_X12_isWord m_X12_isWord_B20
  rw [if_neg (show ¬ (0 : Int32) ≤ -1 by decide), nI_1, show nI a + (2 : Int32) = nI (a + 2) from nI_add a 2, q_call (byR h (by omega)), q_call (byR h (by omega)), q_call (byR h (by omega)), w60]
  by_cases hq3 : q = 3
  · rw [if_pos (show nI q = (3 : Int32) by rw [hq3]; rfl)]
    by_cases h0 : byN ft S a = c0
    · rw [if_pos h0]
      by_cases h1 : byN ft S (a + 1) = c1
      · rw [if_pos h1]
        by_cases h2 : byN ft S (a + 2) = c2
        · rw [if_pos h2]
          unfold m_X12_isWord_B61 m_X12_isWord_B85
          rw [if_neg one_ne0, if_pos (show (-1 : Int32) < 0 by decide)]
          exact Or.inl ⟨by first | rfl | rw [if_pos (show (-1 : Int32) < 0 by decide)], hq3, h0, h1, h2⟩
        · rw [if_neg h2]; exact Or.inr ⟨rfl, fun z => h2 z.2.2.2⟩
      · rw [if_neg h1]; exact Or.inr ⟨rfl, fun z => h1 z.2.2.1⟩
    · rw [if_neg h0]; exact Or.inr ⟨rfl, fun z => h0 z.2.1⟩
  · rw [if_neg (show ¬ nI q = (3 : Int32) from fun z => hq3 ((nI_eq (b := 3) (by omega) (by omega)).mp z))]
    exact Or.inr ⟨rfl, fun z => hq3 z.1⟩
theorem isW4 (h : txR S fb ft) {a q : Nat} (ha : a ≤ 200) (hq : q < 1000) (c0 c1 c2 c3 : Int32) (p3 : (0 : Int32) ≤ c3) (m3 : ¬ c3 < 0) : (m_X12_isWord (nI S) ft (nI a) (nI q) c0 c1 c2 c3 (-1) = some 1 ∧ q = 4 ∧ byN ft S a = c0 ∧ byN ft S (a + 1) = c1 ∧ byN ft S (a + 2) = c2 ∧ byN ft S (a + 3) = c3) ∨ (m_X12_isWord (nI S) ft (nI a) (nI q) c0 c1 c2 c3 (-1) = some 0 ∧ ¬ (q = 4 ∧ byN ft S a = c0 ∧ byN ft S (a + 1) = c1 ∧ byN ft S (a + 2) = c2 ∧ byN ft S (a + 3) = c3)) := by
  unfold m_X12_isWord m_X12_isWord_B20
  rw [if_pos p3, if_neg (show ¬ (0 : Int32) ≤ -1 by decide), nI_1, show nI a + (2 : Int32) = nI (a + 2) from nI_add a 2, q_call (byR h (by omega)), q_call (byR h (by omega)), q_call (byR h (by omega)), w60]
  by_cases hq3 : q = 4
  · rw [if_pos (show nI q = (4 : Int32) by rw [hq3]; rfl)]
    by_cases h0 : byN ft S a = c0
    · rw [if_pos h0]
      by_cases h1 : byN ft S (a + 1) = c1
      · rw [if_pos h1]
        by_cases h2 : byN ft S (a + 2) = c2
        · rw [if_pos h2]
          unfold m_X12_isWord_B61 m_X12_isWord_B85
          rw [if_neg one_ne0, if_neg m3, show nI a + (3 : Int32) = nI (a + 3) from nI_add a 3, q_call (byR h (by omega)), if_pos (show (-1 : Int32) < 0 by decide)]
          by_cases h3 : byN ft S (a + 3) = c3
          · rw [if_pos h3]; exact Or.inl ⟨rfl, hq3, h0, h1, h2, h3⟩
          · rw [if_neg h3]; exact Or.inr ⟨rfl, fun z => h3 z.2.2.2.2⟩
        · rw [if_neg h2]; exact Or.inr ⟨rfl, fun z => h2 z.2.2.2.1⟩
      · rw [if_neg h1]; exact Or.inr ⟨rfl, fun z => h1 z.2.2.1⟩
    · rw [if_neg h0]; exact Or.inr ⟨rfl, fun z => h0 z.2.1⟩
  · rw [if_neg (show ¬ nI q = (4 : Int32) from fun z => hq3 ((nI_eq (b := 4) (by omega) (by omega)).mp z))]
    exact Or.inr ⟨rfl, fun z => hq3 z.1⟩
theorem isW5 (h : txR S fb ft) {a q : Nat} (ha : a ≤ 200) (hq : q < 1000) (c0 c1 c2 c3 c4 : Int32) (p3 : (0 : Int32) ≤ c3) (m3 : ¬ c3 < 0) (p4 : (0 : Int32) ≤ c4) (m4 : ¬ c4 < 0) : (m_X12_isWord (nI S) ft (nI a) (nI q) c0 c1 c2 c3 c4 = some 1 ∧ q = 5 ∧ byN ft S a = c0 ∧ byN ft S (a + 1) = c1 ∧ byN ft S (a + 2) = c2 ∧ byN ft S (a + 3) = c3 ∧ byN ft S (a + 4) = c4) ∨ (m_X12_isWord (nI S) ft (nI a) (nI q) c0 c1 c2 c3 c4 = some 0 ∧ ¬ (q = 5 ∧ byN ft S a = c0 ∧ byN ft S (a + 1) = c1 ∧ byN ft S (a + 2) = c2 ∧ byN ft S (a + 3) = c3 ∧ byN ft S (a + 4) = c4)) := by
  unfold m_X12_isWord m_X12_isWord_B20
  rw [if_pos p3, if_pos p4, nI_1, show nI a + (2 : Int32) = nI (a + 2) from nI_add a 2, q_call (byR h (by omega)), q_call (byR h (by omega)), q_call (byR h (by omega)), w60]
  by_cases hq3 : q = 5
  · rw [if_pos (show nI q = (5 : Int32) by rw [hq3]; rfl)]
    by_cases h0 : byN ft S a = c0
    · rw [if_pos h0]
      by_cases h1 : byN ft S (a + 1) = c1
      · rw [if_pos h1]
        by_cases h2 : byN ft S (a + 2) = c2
        · rw [if_pos h2]
          unfold m_X12_isWord_B61 m_X12_isWord_B85
          rw [if_neg one_ne0, if_neg m3, show nI a + (3 : Int32) = nI (a + 3) from nI_add a 3, show nI a + (4 : Int32) = nI (a + 4) from nI_add a 4, q_call (byR h (by omega)), q_call (byR h (by omega)), if_neg m4]
          by_cases h3 : byN ft S (a + 3) = c3
          · rw [if_pos h3]
            by_cases h4 : byN ft S (a + 4) = c4
            · rw [if_pos h4]; exact Or.inl ⟨rfl, hq3, h0, h1, h2, h3, h4⟩
            · rw [if_neg h4]; exact Or.inr ⟨rfl, fun z => h4 z.2.2.2.2.2⟩
          · rw [if_neg h3]; exact Or.inr ⟨rfl, fun z => h3 z.2.2.2.2.1⟩
        · rw [if_neg h2]; exact Or.inr ⟨rfl, fun z => h2 z.2.2.2.1⟩
      · rw [if_neg h1]; exact Or.inr ⟨rfl, fun z => h1 z.2.2.1⟩
    · rw [if_neg h0]; exact Or.inr ⟨rfl, fun z => h0 z.2.1⟩
  · rw [if_neg (show ¬ nI q = (5 : Int32) from fun z => hq3 ((nI_eq (b := 5) (by omega) (by omega)).mp z))]
    exact Or.inr ⟨rfl, fun z => hq3 z.1⟩
def wdR (wx w : Int32) : Prop := (wx = 0 ∧ w = 4) ∨ (wx = 1 ∧ w = 5) ∨ (wx = 2 ∧ w = 6) ∨ (wx = 3 ∧ w = 7) ∨ (wx = -1 ∧ w = 1)
theorem both0 (h : txR S fb ft) {a e : Nat} (ha : a ≤ 200) (hae : a ≤ e) (he : e < 1000) : (m_X10_isHere 0 (nI S) (nI e) (nI a) fb = some 1 ∧ m_X12_isWord (nI S) ft (nI a) (nI (e - a)) 112 105 116 (-1) (-1) = some 1) ∨ (m_X10_isHere 0 (nI S) (nI e) (nI a) fb = some 0 ∧ m_X12_isWord (nI S) ft (nI a) (nI (e - a)) 112 105 116 (-1) (-1) = some 0) := by
  rcases here_c h ha hae (by omega) 0 (by decide) with ⟨x, p1, p2⟩ | ⟨x, p⟩
  · rcases isW3 h ha (show e - a < 1000 by omega) 112 105 116 with ⟨r, q⟩ | ⟨r, q⟩
    · exact Or.inl ⟨x, r⟩
    · exact absurd ⟨p1, p2 0 (by decide), p2 1 (by decide), p2 2 (by decide)⟩ q
  · rcases isW3 h ha (show e - a < 1000 by omega) 112 105 116 with ⟨r, q0, q1, q2, q3⟩ | ⟨r, q⟩
    · refine absurd ⟨q0, fun j hj => ?_⟩ p
      have hj' : j < 3 := hj
      have hc : j = 0 ∨ j = 1 ∨ j = 2 := by omega
      rcases hc with rfl | rfl | rfl
      · exact q1
      · exact q2
      · exact q3
    · exact Or.inr ⟨x, r⟩
theorem both1 (h : txR S fb ft) {a e : Nat} (ha : a ≤ 200) (hae : a ≤ e) (he : e < 1000) : (m_X10_isHere 1 (nI S) (nI e) (nI a) fb = some 1 ∧ m_X12_isWord (nI S) ft (nI a) (nI (e - a)) 108 97 121 101 114 = some 1) ∨ (m_X10_isHere 1 (nI S) (nI e) (nI a) fb = some 0 ∧ m_X12_isWord (nI S) ft (nI a) (nI (e - a)) 108 97 121 101 114 = some 0) := by
  rcases here_c h ha hae (by omega) 1 (by decide) with ⟨x, p1, p2⟩ | ⟨x, p⟩
  · rcases isW5 h ha (show e - a < 1000 by omega) 108 97 121 101 114 (by decide) (by decide) (by decide) (by decide) with ⟨r, q⟩ | ⟨r, q⟩
    · exact Or.inl ⟨x, r⟩
    · exact absurd ⟨p1, p2 0 (by decide), p2 1 (by decide), p2 2 (by decide), p2 3 (by decide), p2 4 (by decide)⟩ q
  · rcases isW5 h ha (show e - a < 1000 by omega) 108 97 121 101 114 (by decide) (by decide) (by decide) (by decide) with ⟨r, q0, q1, q2, q3, q4, q5⟩ | ⟨r, q⟩
    · refine absurd ⟨q0, fun j hj => ?_⟩ p
      have hj' : j < 5 := hj
      have hc : j = 0 ∨ j = 1 ∨ j = 2 ∨ j = 3 ∨ j = 4 := by omega
      rcases hc with rfl | rfl | rfl | rfl | rfl
      · exact q1
      · exact q2
      · exact q3
      · exact q4
      · exact q5
    · exact Or.inr ⟨x, r⟩
theorem both2 (h : txR S fb ft) {a e : Nat} (ha : a ≤ 200) (hae : a ≤ e) (he : e < 1000) : (m_X10_isHere 2 (nI S) (nI e) (nI a) fb = some 1 ∧ m_X12_isWord (nI S) ft (nI a) (nI (e - a)) 112 114 105 99 101 = some 1) ∨ (m_X10_isHere 2 (nI S) (nI e) (nI a) fb = some 0 ∧ m_X12_isWord (nI S) ft (nI a) (nI (e - a)) 112 114 105 99 101 = some 0) := by
  rcases here_c h ha hae (by omega) 2 (by decide) with ⟨x, p1, p2⟩ | ⟨x, p⟩
  · rcases isW5 h ha (show e - a < 1000 by omega) 112 114 105 99 101 (by decide) (by decide) (by decide) (by decide) with ⟨r, q⟩ | ⟨r, q⟩
    · exact Or.inl ⟨x, r⟩
    · exact absurd ⟨p1, p2 0 (by decide), p2 1 (by decide), p2 2 (by decide), p2 3 (by decide), p2 4 (by decide)⟩ q
  · rcases isW5 h ha (show e - a < 1000 by omega) 112 114 105 99 101 (by decide) (by decide) (by decide) (by decide) with ⟨r, q0, q1, q2, q3, q4, q5⟩ | ⟨r, q⟩
    · refine absurd ⟨q0, fun j hj => ?_⟩ p
      have hj' : j < 5 := hj
      have hc : j = 0 ∨ j = 1 ∨ j = 2 ∨ j = 3 ∨ j = 4 := by omega
      rcases hc with rfl | rfl | rfl | rfl | rfl
      · exact q1
      · exact q2
      · exact q3
      · exact q4
      · exact q5
    · exact Or.inr ⟨x, r⟩
theorem both3 (h : txR S fb ft) {a e : Nat} (ha : a ≤ 200) (hae : a ≤ e) (he : e < 1000) : (m_X10_isHere 3 (nI S) (nI e) (nI a) fb = some 1 ∧ m_X12_isWord (nI S) ft (nI a) (nI (e - a)) 108 117 109 112 (-1) = some 1) ∨ (m_X10_isHere 3 (nI S) (nI e) (nI a) fb = some 0 ∧ m_X12_isWord (nI S) ft (nI a) (nI (e - a)) 108 117 109 112 (-1) = some 0) := by
  rcases here_c h ha hae (by omega) 3 (by decide) with ⟨x, p1, p2⟩ | ⟨x, p⟩
  · rcases isW4 h ha (show e - a < 1000 by omega) 108 117 109 112 (by decide) (by decide) with ⟨r, q⟩ | ⟨r, q⟩
    · exact Or.inl ⟨x, r⟩
    · exact absurd ⟨p1, p2 0 (by decide), p2 1 (by decide), p2 2 (by decide), p2 3 (by decide)⟩ q
  · rcases isW4 h ha (show e - a < 1000 by omega) 108 117 109 112 (by decide) (by decide) with ⟨r, q0, q1, q2, q3, q4⟩ | ⟨r, q⟩
    · refine absurd ⟨q0, fun j hj => ?_⟩ p
      have hj' : j < 4 := hj
      have hc : j = 0 ∨ j = 1 ∨ j = 2 ∨ j = 3 := by omega
      rcases hc with rfl | rfl | rfl | rfl
      · exact q1
      · exact q2
      · exact q3
      · exact q4
    · exact Or.inr ⟨x, r⟩
theorem word_sim (h : txR S fb ft) {a e : Nat} (ha : a ≤ 200) (hae : a ≤ e) (he : e < 1000) : ∃ wx w, m_X10_wordHere (nI S) (nI e) (nI a) fb = some wx ∧ m_X12_wordOf (nI S) ft (nI a) (nI (e - a)) = some w ∧ wdR wx w := by
  unfold m_X10_wordHere m_X12_wordOf
  rcases both0 h ha hae he with ⟨x, r⟩ | ⟨x, r⟩
  · rw [q_call x, q_call r, if_neg one_ne0, if_neg one_ne0]
    exact ⟨_, _, rfl, rfl, Or.inl ⟨rfl, rfl⟩⟩
  · rw [q_call x, q_call r, if_pos rfl, if_pos rfl]
    rcases both1 h ha hae he with ⟨x, r⟩ | ⟨x, r⟩
    · rw [q_call x, q_call r, if_neg one_ne0, if_neg one_ne0]
      exact ⟨_, _, rfl, rfl, Or.inr (Or.inl ⟨rfl, rfl⟩)⟩
    · rw [q_call x, q_call r, if_pos rfl, if_pos rfl]
      rcases both2 h ha hae he with ⟨x, r⟩ | ⟨x, r⟩
      · rw [q_call x, q_call r, if_neg one_ne0, if_neg one_ne0]
        exact ⟨_, _, rfl, rfl, Or.inr (Or.inr (Or.inl ⟨rfl, rfl⟩))⟩
      · rw [q_call x, q_call r, if_pos rfl, if_pos rfl]
        rcases both3 h ha hae he with ⟨x, r⟩ | ⟨x, r⟩
        · rw [q_call x, q_call r, if_neg one_ne0, if_neg one_ne0]
          exact ⟨_, _, rfl, rfl, Or.inr (Or.inr (Or.inr (Or.inl ⟨rfl, rfl⟩)))⟩
        · rw [q_call x, q_call r, if_pos rfl, if_pos rfl]
          exact ⟨_, _, rfl, rfl, Or.inr (Or.inr (Or.inr (Or.inr ⟨rfl, rfl⟩)))⟩
theorem qIn_01 (x lo hi : Int32) : qIn x lo hi = 0 ∨ qIn x lo hi = 1 := by
  unfold qIn
  by_cases h : x < lo
  · rw [if_pos h]; exact Or.inl rfl
  · rw [if_neg h]
    by_cases h2 : hi < x
    · rw [if_pos h2]; exact Or.inl rfl
    · rw [if_neg h2]; exact Or.inr rfl
theorem let_sim (h : txR S fb ft) {a : Nat} (st v : Int32) : ∀ (m j fu fu2 : Nat), j + m = S → a ≤ j → m < fu → m < fu2 → ∃ e, j ≤ e ∧ e ≤ S ∧ (qIn (byN ft S j) 97 122 = 1 → j < e) ∧ m_X10_nextToken_L69 (nI S) fb fu (nI j) st v = some (0, nI e, st, v) ∧ ∀ ta te tk vr, m_X12_next_L78 (nI S) ft fu2 ta te tk vr (nI a) (nI j) = mCall (m_X12_wordOf (nI S) ft (nI a) (nI (e - a))) (fun (r3 : Int32) => some (ta, nI e, r3, vr))
  | m, j, 0, _, _, _, h0, _ => absurd h0 (Nat.not_lt_zero m)
  | m, j, _ + 1, 0, _, _, _, h0 => absurd h0 (Nat.not_lt_zero m)
  | 0, j, fu + 1, fu2 + 1, e, ha, _, _ => by
    have hS := h.1
    have hb : byN ft S j = -1 := by_hi (by omega)
    refine ⟨j, Nat.le_refl j, by omega, fun q => ?_, ?_, fun ta te tk vr => ?_⟩
    · rw [hb] at q; exact absurd q (by decide)
    · rw [m_X10_nextToken_L69, if_pos (nI_le (by omega) (by omega))]
    · rw [m_X12_next_L78, q_call (byR h (by omega)), q_call (in_ok _ _ _), hb, if_pos (by decide), pk_sub ha]
  | m + 1, j, fu + 1, fu2 + 1, e, ha, hfu, hfu2 => by
    have hS := h.1
    rcases qIn_01 (byN ft S j) 97 122 with hq | hq
    · refine ⟨j, Nat.le_refl j, by omega, fun q => ?_, ?_, fun ta te tk vr => ?_⟩
      · rw [hq] at q; exact absurd q.symm one_ne0
      · rw [m_X10_nextToken_L69, if_neg (nI_ge (by omega) (by omega)), q_call (letX h (by omega)), hq, if_pos rfl]
      · rw [m_X12_next_L78, q_call (byR h (by omega)), q_call (in_ok _ _ _), hq, if_pos rfl, pk_sub ha]
    · obtain ⟨e', e1, e2, _, e4, e5⟩ := let_sim h (a := a) st v m (j + 1) fu fu2 (by omega) (by omega) (by omega) (by omega)
      refine ⟨e', by omega, e2, fun _ => by omega, ?_, fun ta te tk vr => ?_⟩
      · rw [m_X10_nextToken_L69, if_neg (nI_ge (by omega) (by omega)), q_call (letX h (by omega)), hq, if_neg one_ne0, q_let, nI_1]
        exact e4
      · rw [m_X12_next_L78, q_call (byR h (by omega)), q_call (in_ok _ _ _), hq, if_neg one_ne0, q_let, nI_1]
        exact e5 ta te tk vr
theorem num_sim (h : txR S fb ft) {a : Nat} : ∀ (m j fu fu2 : Nat) (val : Int32), j + m = S → a ≤ j → m < fu → m < fu2 → ∃ e val', j ≤ e ∧ e ≤ S ∧ (qIn (byN ft S j) 48 57 = 1 → j < e) ∧ m_X10_takeNumber_L5 (nI S) (nI a) fb fu (nI j) val = some (if e - a ≤ 2 then 1 else 3, nI e, val') ∧ ∀ ta te tk, m_X12_next_L134 (nI S) ft fu2 ta te tk val (nI a) (nI j) = some (ta, nI e, if e - a ≤ 2 then 2 else 1, val')
  | m, j, 0, _, val, _, _, h0, _ => absurd h0 (Nat.not_lt_zero m)
  | m, j, _ + 1, 0, val, _, _, _, h0 => absurd h0 (Nat.not_lt_zero m)
  | 0, j, fu + 1, fu2 + 1, val, e, ha, _, _ => by
    have hS := h.1
    have hb : byN ft S j = -1 := by_hi (by omega)
    refine ⟨j, val, Nat.le_refl j, by omega, fun q => ?_, ?_, fun ta te tk => ?_⟩
    · rw [hb] at q; exact absurd q (by decide)
    · rw [m_X10_takeNumber_L5, if_pos (nI_le (by omega) (by omega))]
      unfold m_X10_takeNumber_B76
      rw [pk_sub ha]
      by_cases hd : j - a ≤ 2
      · rw [if_pos (show nI (j - a) ≤ (2 : Int32) from nI_le (b := 2) hd (by omega)), if_pos hd]
      · rw [if_neg (show ¬ nI (j - a) ≤ (2 : Int32) from nI_ge (a := 2) (by omega) (by omega)), if_neg hd]
    · rw [m_X12_next_L134, q_call (byR h (by omega)), q_call (in_ok _ _ _), hb, if_pos (by decide), pk_sub ha]
      by_cases hd : j - a ≤ 2
      · rw [if_pos (show nI (j - a) ≤ (2 : Int32) from nI_le (b := 2) hd (by omega)), if_pos hd]
      · rw [if_neg (show ¬ nI (j - a) ≤ (2 : Int32) from nI_ge (a := 2) (by omega) (by omega)), if_neg hd]
  | m + 1, j, fu + 1, fu2 + 1, val, e, ha, hfu, hfu2 => by
    have hS := h.1
    rcases qIn_01 (byN ft S j) 48 57 with hq | hq
    · refine ⟨j, val, Nat.le_refl j, by omega, fun q => ?_, ?_, fun ta te tk => ?_⟩
      · rw [hq] at q; exact absurd q.symm one_ne0
      · rw [m_X10_takeNumber_L5, if_neg (nI_ge (by omega) (by omega)), q_call (figX h (by omega)), hq, if_pos rfl]
        unfold m_X10_takeNumber_B76
        rw [pk_sub ha]
        by_cases hd : j - a ≤ 2
        · rw [if_pos (show nI (j - a) ≤ (2 : Int32) from nI_le (b := 2) hd (by omega)), if_pos hd]
        · rw [if_neg (show ¬ nI (j - a) ≤ (2 : Int32) from nI_ge (a := 2) (by omega) (by omega)), if_neg hd]
      · rw [m_X12_next_L134, q_call (byR h (by omega)), q_call (in_ok _ _ _), hq, if_pos rfl, pk_sub ha]
        by_cases hd : j - a ≤ 2
        · rw [if_pos (show nI (j - a) ≤ (2 : Int32) from nI_le (b := 2) hd (by omega)), if_pos hd]
        · rw [if_neg (show ¬ nI (j - a) ≤ (2 : Int32) from nI_ge (a := 2) (by omega) (by omega)), if_neg hd]
    · by_cases hd : 2 ≤ j - a
      · obtain ⟨e', val', e1, e2, _, e4, e5⟩ := num_sim h (a := a) m (j + 1) fu fu2 val (by omega) (by omega) (by omega) (by omega)
        refine ⟨e', val', by omega, e2, fun _ => by omega, ?_, fun ta te tk => ?_⟩
        · rw [m_X10_takeNumber_L5, if_neg (nI_ge (by omega) (by omega)), q_call (figX h (by omega)), hq, if_neg one_ne0, pk_sub ha, if_pos (show (2 : Int32) ≤ nI (j - a) from nI_le (a := 2) hd (by omega))]
          unfold m_X10_takeNumber_B63
          rw [q_let, nI_1]
          exact e4
        · rw [m_X12_next_L134, q_call (byR h (by omega)), q_call (in_ok _ _ _), hq, if_neg one_ne0, pk_sub ha, if_pos (show (2 : Int32) ≤ nI (j - a) from nI_le (a := 2) hd (by omega)), q_let, nI_1]
          exact e5 ta te tk
      · obtain ⟨e', val', e1, e2, _, e4, e5⟩ := num_sim h (a := a) m (j + 1) fu fu2 (10 * val + byN ft S j - 48) (by omega) (by omega) (by omega) (by omega)
        refine ⟨e', val', by omega, e2, fun _ => by omega, ?_, fun ta te tk => ?_⟩
        · rw [m_X10_takeNumber_L5, if_neg (nI_ge (by omega) (by omega)), q_call (figX h (by omega)), hq, if_neg one_ne0, pk_sub ha, if_neg (show ¬ (2 : Int32) ≤ nI (j - a) from nI_ge (b := 2) (by omega) (by omega)), q_call (byX h (by omega)), q_let]
          unfold m_X10_takeNumber_B63
          rw [q_let, nI_1]
          exact e4
        · rw [m_X12_next_L134, q_call (byR h (by omega)), q_call (in_ok _ _ _), hq, if_neg one_ne0, pk_sub ha, if_neg (show ¬ (2 : Int32) ≤ nI (j - a) from nI_ge (b := 2) (by omega) (by omega)), q_call (byR h (by omega)), q_let, q_let, nI_1]
          exact e5 ta te tk
/-- a token of the class beside one of the reference -/
def tkR (S : Nat) (fb : Nat → Int32) (i : Nat) (rx rm : Int32 × Int32 × Int32 × Int32) : Prop := ∃ a, i ≤ a ∧ a ≤ S ∧ rx.2.2.1 = nI a ∧ rm.1 = nI a ∧ ((rx.1 = 4 ∧ rm.2.2.1 = 0) ∨ (rx.1 = 3 ∧ rm.2.2.1 = 1) ∨ (∃ e, a < e ∧ e ≤ S ∧ rx.2.1 = nI e ∧ rm.2.1 = nI e ∧ ((rx.1 = 0 ∧ ∃ wx, m_X10_wordHere (nI S) (nI e) (nI a) fb = some wx ∧ wdR wx rm.2.2.1) ∨ (rx.1 = 1 ∧ rm.2.2.1 = 2 ∧ rx.2.2.2 = rm.2.2.2) ∨ (rx.1 = 2 ∧ rm.2.2.1 = 3))))
theorem tok_at (h : txR S fb ft) {a i : Nat} (hi : i ≤ a) (ha : a ≤ S) (h32 : ¬ byN ft S a = 32) (st v : Int32) : ∃ rx, m_X10_nextToken_B37 (nI S) fb (nI a) st v = some rx ∧ ∀ z ta te tk vr, ∃ rm, m_X12_next_L2 (nI S) ft (z + 1) ta te tk vr (nI a) = some rm ∧ tkR S fb i rx rm := by
  have hS := h.1
  by_cases haS : a = S
  · have hb : byN ft S a = -1 := by_hi (by omega)
    refine ⟨(4, nI a, nI a, v), ?_, fun z ta te tk vr => ⟨(nI a, nI a, 0, vr), ?_, a, hi, ha, rfl, rfl, Or.inl ⟨rfl, rfl⟩⟩⟩
    · unfold m_X10_nextToken_B37
      rw [if_neg (nI_nlt (by omega) (by omega))]
    · rw [m_X12_next_L2, q_call (byR h (by omega)), if_neg h32, q_call (byR h (by omega)), hb, if_neg (by decide)]
  · have hlt : a < S := by omega
    obtain ⟨c, hc, ec⟩ := sm_of (h.2 a hlt).2
    have hbc : byN ft S a = nI c := (by_lo hlt).trans ec
    have hpos : (0 : Int32) ≤ nI c := nI_pos' (by omega)
    by_cases h59 : nI c = 59
    · refine ⟨(2, nI (a + 1), nI a, v), ?_, fun z ta te tk vr => ⟨(nI a, nI (a + 1), 3, vr), ?_, a, hi, ha, rfl, rfl, Or.inr (Or.inr ⟨a + 1, by omega, by omega, rfl, rfl, Or.inr (Or.inr ⟨rfl, rfl⟩)⟩)⟩⟩
      · unfold m_X10_nextToken_B37
        rw [if_pos (nI_lt hlt (by omega)), q_call (letX h (by omega)), hbc, h59, if_pos (by decide), q_call (figX h (by omega)), hbc, h59, if_pos (by decide), q_let, q_call (byX h (by omega)), hbc, h59, if_pos rfl, nI_1]
      · rw [m_X12_next_L2, q_call (byR h (by omega)), if_neg h32, q_call (byR h (by omega)), hbc, if_pos hpos, q_call (byR h (by omega)), hbc, if_pos h59, q_let, nI_1]
    · rcases qIn_01 (byN ft S a) 97 122 with hq | hq
      · rcases qIn_01 (byN ft S a) 48 57 with hf | hf
        · refine ⟨(3, nI (a + 1), nI a, v), ?_, fun z ta te tk vr => ⟨(nI a, nI a, 1, vr), ?_, a, hi, ha, rfl, rfl, Or.inr (Or.inl ⟨rfl, rfl⟩)⟩⟩
          · unfold m_X10_nextToken_B37
            rw [if_pos (nI_lt hlt (by omega)), q_call (letX h (by omega)), hq, if_pos rfl, q_call (figX h (by omega)), hf, if_pos rfl, q_let, q_call (byX h (by omega)), hbc, if_neg h59, nI_1]
          · rw [hbc] at hq hf h32
            rw [m_X12_next_L2, q_call (byR h (by omega)), hbc, if_neg h32, q_call (byR h (by omega)), hbc, if_pos hpos, q_call (byR h (by omega)), hbc, if_neg h59, q_call (byR h (by omega)), hbc, q_call (in_ok _ _ _), hq, if_pos rfl, q_call (byR h (by omega)), hbc, q_call (in_ok _ _ _), hf, if_pos rfl]
        · obtain ⟨e, val', e1, e2, e3, e4, e5⟩ := num_sim h (a := a) (S - a) a mFU mFU 0 (by omega) (by omega) (by unfold mFU; omega) (by unfold mFU; omega)
          have hlt2 := e3 hf
          have hrel : tkR S fb i ((if e - a ≤ 2 then 1 else 3 : Int32), nI e, nI a, val') (nI a, nI e, (if e - a ≤ 2 then 2 else 1 : Int32), val') := by
            refine ⟨a, hi, ha, rfl, rfl, ?_⟩
            by_cases hd : e - a ≤ 2
            · rw [if_pos hd, if_pos hd]
              exact Or.inr (Or.inr ⟨e, hlt2, e2, rfl, rfl, Or.inr (Or.inl ⟨rfl, rfl, rfl⟩)⟩)
            · rw [if_neg hd, if_neg hd]
              exact Or.inr (Or.inl ⟨rfl, rfl⟩)
          refine ⟨_, ?_, fun z ta te tk vr => ⟨_, ?_, hrel⟩⟩
          · unfold m_X10_nextToken_B37 m_X10_takeNumber
            rw [if_pos (nI_lt hlt (by omega)), q_call (letX h (by omega)), hq, if_pos rfl, q_call (figX h (by omega)), hf, if_neg one_ne0, q_call e4]
          · rw [hbc] at hq hf h32
            rw [m_X12_next_L2, q_call (byR h (by omega)), hbc, if_neg h32, q_call (byR h (by omega)), hbc, if_pos hpos, q_call (byR h (by omega)), hbc, if_neg h59, q_call (byR h (by omega)), hbc, q_call (in_ok _ _ _), hq, if_pos rfl, q_call (byR h (by omega)), hbc, q_call (in_ok _ _ _), hf, if_neg one_ne0]
            exact e5 _ _ _
      · obtain ⟨e, e1, e2, e3, e4, e5⟩ := let_sim h (a := a) (nI a) v (S - a) a mFU mFU (by omega) (by omega) (by unfold mFU; omega) (by unfold mFU; omega)
        have hlt2 := e3 hq
        obtain ⟨wx, w, w1, w2, w3⟩ := word_sim h (a := a) (e := e) (by omega) (by omega) (by omega)
        refine ⟨(0, nI e, nI a, v), ?_, fun z ta te tk vr => ⟨(nI a, nI e, w, vr), ?_, a, hi, ha, rfl, rfl, Or.inr (Or.inr ⟨e, hlt2, e2, rfl, rfl, Or.inl ⟨rfl, wx, w1, w3⟩⟩)⟩⟩
        · unfold m_X10_nextToken_B37
          rw [if_pos (nI_lt hlt (by omega)), q_call (letX h (by omega)), hq, if_neg one_ne0]
          exact e4
        · rw [hbc] at hq h32
          rw [m_X12_next_L2, q_call (byR h (by omega)), hbc, if_neg h32, q_call (byR h (by omega)), hbc, if_pos hpos, q_call (byR h (by omega)), hbc, if_neg h59, q_call (byR h (by omega)), hbc, q_call (in_ok _ _ _), hq, if_neg one_ne0, e5, q_call w2]
theorem skip_sim (h : txR S fb ft) (st v : Int32) : ∀ (m i fu fu2 : Nat), i + m = S → m < fu → m < fu2 → ∃ a z, i ≤ a ∧ a ≤ S ∧ ¬ byN ft S a = 32 ∧ m_X10_nextToken_L0 (nI S) fb fu (nI i) st v = m_X10_nextToken_B37 (nI S) fb (nI a) st v ∧ ∀ ta te tk vr, m_X12_next_L2 (nI S) ft fu2 ta te tk vr (nI i) = m_X12_next_L2 (nI S) ft (z + 1) ta te tk vr (nI a)
  | m, i, 0, _, _, h0, _ => absurd h0 (Nat.not_lt_zero m)
  | m, i, _ + 1, 0, _, _, h0 => absurd h0 (Nat.not_lt_zero m)
  | 0, i, fu + 1, fu2 + 1, e, _, _ => by
    have hS := h.1
    refine ⟨i, fu2, Nat.le_refl i, by omega, ?_, ?_, fun _ _ _ _ => rfl⟩
    · rw [by_hi (by omega)]; decide
    · rw [m_X10_nextToken_L0, if_pos (nI_le (by omega) (by omega))]
  | m + 1, i, fu + 1, fu2 + 1, e, hfu, hfu2 => by
    have hS := h.1
    by_cases h32 : byN ft S i = 32
    · obtain ⟨a, z, a1, a2, a3, a4, a5⟩ := skip_sim h st v m (i + 1) fu fu2 (by omega) (by omega) (by omega)
      refine ⟨a, z, by omega, a2, a3, ?_, fun ta te tk vr => ?_⟩
      · rw [m_X10_nextToken_L0, if_neg (nI_ge (by omega) (by omega)), q_call (byX h (by omega)), if_pos h32, q_let, nI_1]
        exact a4
      · rw [m_X12_next_L2, q_call (byR h (by omega)), if_pos h32, q_let, nI_1]
        exact a5 ta te tk vr
    · refine ⟨i, fu2, Nat.le_refl i, by omega, h32, ?_, fun _ _ _ _ => rfl⟩
      rw [m_X10_nextToken_L0, if_neg (nI_ge (by omega) (by omega)), q_call (byX h (by omega)), if_neg h32]
theorem tok_sim (h : txR S fb ft) {i : Nat} (hi : i ≤ S) (st v : Int32) : ∃ rx, m_X10_nextToken (nI S) (nI i) st v fb = some rx ∧ ∀ ta te tk vr, ∃ rm, m_X12_next (nI S) ta te tk vr ft (nI i) = some rm ∧ tkR S fb i rx rm := by
  have hS := h.1
  obtain ⟨a, z, a1, a2, a3, a4, a5⟩ := skip_sim h st v (S - i) i mFU mFU (by omega) (by unfold mFU; omega) (by unfold mFU; omega)
  obtain ⟨rx, r1, r2⟩ := tok_at h a1 a2 a3 st v
  refine ⟨rx, ?_, fun ta te tk vr => ?_⟩
  · unfold m_X10_nextToken
    exact a4.trans r1
  · obtain ⟨rm, m1, m2⟩ := r2 z ta te tk vr
    refine ⟨rm, ?_, m2⟩
    unfold m_X12_next
    exact (a5 ta te tk vr).trans m1
end TX
