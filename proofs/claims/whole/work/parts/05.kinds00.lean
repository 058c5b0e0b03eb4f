-- X5_own
def m_X5_own (x1 : Int32) (x2 : Int32) : Option (Int32) := if x2 < 0 then some (-1 : Int32) else if x1 ≤ x2 then some (-1 : Int32) else some x2
def P_X5_own_0 (p : Program) (l : Launch) (e : Env) (s : State) (m : MethodId) (args : Array Value) (below : List Frame) (meth : Method) (c : Code) (D : va_G) (cA : Nat → ClassId) (r : Int32) (x1 : Int32) (x2 : Int32) : Prop := va_P D vwCl [] s.heap → ∀ ls : Array Slot, lv_has ls 3 [(1, .int x1), (2, .int x2)] → W p l e { frames := 0, cells := 0, slots := 0, locals := 0 } s m args below meth c s.heap [] 0 0 (MQ below (vp_Si (fun y => y = r)) args s 0 0 (fun _ => False)) (F0 m 0 ls [])
set_option maxHeartbeats 4000000 in
set_option maxRecDepth 100000 in
theorem w_X5_own_0 {p : Program} {l : Launch} {e : Env} {s : State} {m : MethodId} {args : Array Value} {below : List Frame} {meth : Method} {c : Code} {D : va_G} {cA : Nat → ClassId} {r : Int32} (S : CallFix p m c cX5_own 3 s args wsX5_own RX5) (hr : meth.sig.returnType = some .int) (hlk : meth.locks = false) (hK : gK D cA s) (x1 : Int32) (x2 : Int32) (h : m_X5_own x1 x2 = some r) : P_X5_own_0 p l e s m args below meth c D cA r x1 x2 := by
  intro hP ls hl
  unfold m_X5_own at h
  refine lv_iload_n S.1 S.2.1 dX5_own_0 rfl (lv_at hl 1 rfl) ?_
  refine mi_if_lt (tgt := 13) S h dX5_own_1 (by decide) (fun h => ?_) (fun h => ?_)
  · refine lv_iconst (v := (-1 : Int32)) S.1 S.2.1 dX5_own_13 (by decide) ?_
    cases h
    exact mi_iretP S hr hlk rfl dX5_own_14
  · refine lv_iload_n S.1 S.2.1 dX5_own_4 rfl (lv_at hl 1 rfl) ?_
    refine lv_iload_n S.1 S.2.1 dX5_own_5 rfl (lv_at hl 0 rfl) ?_
    refine mi_icmp_ge (tgt := 13) S h dX5_own_6 (by decide) (fun h => ?_) (fun h => ?_)
    · refine lv_iconst (v := (-1 : Int32)) S.1 S.2.1 dX5_own_13 (by decide) ?_
      cases h
      exact mi_iretP S hr hlk rfl dX5_own_14
    · refine lv_iload_n S.1 S.2.1 dX5_own_9 rfl (lv_at hl 1 rfl) ?_
      refine lv_goto (tgt := 14) S.1 S.2.1 dX5_own_10 (by decide) ?_
      cases h
      exact mi_iretP S hr hlk rfl dX5_own_14
set_option maxHeartbeats 4000000 in
set_option maxRecDepth 100000 in
theorem c_X5_own (l : Launch) (D : va_G) (cA : Nat → ClassId) (a_this : Nat) (x1 : Int32) (x2 : Int32) {r : Int32} (h : m_X5_own x1 x2 = some r) : MPi l yX5_own wsX5_own { frames := 0, cells := 0, slots := 0, locals := 0 } D cA [.ref a_this, .int x1, .int x2] [] r := by
  refine mP_of (cc := cX5_own) (maxL := 3) (ret := (some .int)) (by decide) rfl (Nat.le_of_ble_eq_true rfl) ?_
  intro p e s m below meth c S hr hlk hK hP ls hl
  exact w_X5_own_0 S hr hlk hK x1 x2 h hP ls (lv_sub hl [1, 2] rfl)

-- X5_burnsFor
def m_X5_burnsFor (x1 : Int32) : Option (Int32) := some x1
def P_X5_burnsFor_0 (p : Program) (l : Launch) (e : Env) (s : State) (m : MethodId) (args : Array Value) (below : List Frame) (meth : Method) (c : Code) (D : va_G) (cA : Nat → ClassId) (r : Int32) (x1 : Int32) : Prop := va_P D vwCl [] s.heap → ∀ ls : Array Slot, lv_has ls 2 [(1, .int x1)] → W p l e { frames := 0, cells := 0, slots := 0, locals := 0 } s m args below meth c s.heap [] 0 0 (MQ below (vp_Si (fun y => y = r)) args s 0 0 (fun _ => False)) (F0 m 0 ls [])
set_option maxHeartbeats 4000000 in
set_option maxRecDepth 100000 in
theorem w_X5_burnsFor_0 {p : Program} {l : Launch} {e : Env} {s : State} {m : MethodId} {args : Array Value} {below : List Frame} {meth : Method} {c : Code} {D : va_G} {cA : Nat → ClassId} {r : Int32} (S : CallFix p m c cX5_burnsFor 2 s args wsX5_burnsFor RX5) (hr : meth.sig.returnType = some .int) (hlk : meth.locks = false) (hK : gK D cA s) (x1 : Int32) (h : m_X5_burnsFor x1 = some r) : P_X5_burnsFor_0 p l e s m args below meth c D cA r x1 := by
  intro hP ls hl
  unfold m_X5_burnsFor at h
  refine lv_iload_n S.1 S.2.1 dX5_burnsFor_0 rfl (lv_at hl 0 rfl) ?_
  cases h
  exact mi_iretP S hr hlk rfl dX5_burnsFor_1
set_option maxHeartbeats 4000000 in
set_option maxRecDepth 100000 in
theorem c_X5_burnsFor (l : Launch) (D : va_G) (cA : Nat → ClassId) (a_this : Nat) (x1 : Int32) {r : Int32} (h : m_X5_burnsFor x1 = some r) : MPi l yX5_burnsFor wsX5_burnsFor { frames := 0, cells := 0, slots := 0, locals := 0 } D cA [.ref a_this, .int x1] [] r := by
  refine mP_of (cc := cX5_burnsFor) (maxL := 2) (ret := (some .int)) (by decide) rfl (Nat.le_of_ble_eq_true rfl) ?_
  intro p e s m below meth c S hr hlk hK hP ls hl
  exact w_X5_burnsFor_0 S hr hlk hK x1 h hP ls (lv_sub hl [1] rfl)

-- X0_own
def m_X0_own (x1 : Int32) (x2 : Int32) : Option (Int32) := mCall (m_X5_own x1 ((x1 - (1 : Int32)) - x2)) (fun (r1 : Int32) => some r1)
def P_X0_own_0 (p : Program) (l : Launch) (e : Env) (s : State) (m : MethodId) (args : Array Value) (below : List Frame) (meth : Method) (c : Code) (D : va_G) (cA : Nat → ClassId) (r : Int32) (ci a_this : Nat) (x1 : Int32) (x2 : Int32) : Prop := va_P D vwCl [(a_this, .inr (ci, []))] s.heap → ∀ ls : Array Slot, lv_has ls 3 [(0, .ref a_this), (1, .int x1), (2, .int x2)] → W p l e { frames := 1, cells := 0, slots := 0, locals := 22 } s m args below meth c s.heap [] 0 0 (MQ below (vp_Si (fun y => y = r)) args s 0 0 (fun _ => False)) (F0 m 0 ls [])
set_option maxHeartbeats 4000000 in
set_option maxRecDepth 100000 in
theorem w_X0_own_0 {p : Program} {l : Launch} {e : Env} {s : State} {m : MethodId} {args : Array Value} {below : List Frame} {meth : Method} {c : Code} {D : va_G} {cA : Nat → ClassId} {r : Int32} (S : CallFix p m c cX0_own 3 s args wsX0_own RX0) (hr : meth.sig.returnType = some .int) (hlk : meth.locks = false) (hK : gK D cA s) (ci a_this : Nat) {qq : vw_C} (hcq : vwCl[ci]? = some qq) (x1 : Int32) (x2 : Int32) (h : m_X0_own x1 x2 = some r) : P_X0_own_0 p l e s m args below meth c D cA r ci a_this x1 x2 := by
  intro hP ls hl
  unfold m_X0_own at h
  refine lv_aload_n S.1 S.2.1 dX0_own_0 rfl (lv_at hl 0 rfl) ?_
  refine lv_iload_n S.1 S.2.1 dX0_own_1 rfl (lv_at hl 1 rfl) ?_
  refine lv_iload_n S.1 S.2.1 dX0_own_2 rfl (lv_at hl 1 rfl) ?_
  refine lv_iconst (v := (1 : Int32)) S.1 S.2.1 dX0_own_3 (by decide) ?_
  refine lv_isub S.1 S.2.1 dX0_own_4 ?_
  refine lv_iload_n S.1 S.2.1 dX0_own_5 rfl (lv_at hl 2 rfl) ?_
  refine lv_isub S.1 S.2.1 dX0_own_6 ?_
  obtain ⟨r1, hr1, h⟩ := mCall_use h
  refine mc_Pi (va_runSU (As := [.int x1, .int ((x1 - (1 : Int32)) - x2)]) (rest := []) ((hK.1.1 ci _ hcq).2) S (c_X5_own l D cA a_this x1 ((x1 - (1 : Int32)) - x2) hr1) (va_cwSU 2 S.2.2.2.2 gX0_own_X5_own_s7 rfl rfl rfl (by decide +kernel) ⟨Nat.le_of_ble_eq_true rfl, Nat.le_of_ble_eq_true rfl⟩) (pre_PV hK hP [] rfl (ci := ci) (q0 := 0) hcq rfl) rfl rfl hl.1 rfl (lv_room (Nat.le_of_ble_eq_true rfl)) dX0_own_7 ⟨Nat.le_of_ble_eq_true rfl, Nat.le_of_ble_eq_true rfl⟩) ?_
  cases h
  exact mi_iretP S hr hlk rfl dX0_own_10
set_option maxHeartbeats 4000000 in
set_option maxRecDepth 100000 in
theorem c_X0_own (l : Launch) (D : va_G) (cA : Nat → ClassId) (ci a_this : Nat) {qq : vw_C} (hcq : vwCl[ci]? = some qq) (x1 : Int32) (x2 : Int32) {r : Int32} (h : m_X0_own x1 x2 = some r) : MPi l yX0_own wsX0_own { frames := 1, cells := 0, slots := 0, locals := 22 } D cA [.ref a_this, .int x1, .int x2] [(a_this, .inr (ci, []))] r := by
  refine mP_of (cc := cX0_own) (maxL := 3) (ret := (some .int)) (by decide) rfl (Nat.le_of_ble_eq_true rfl) ?_
  intro p e s m below meth c S hr hlk hK hP ls hl
  exact w_X0_own_0 S hr hlk hK ci a_this hcq x1 x2 h hP ls (lv_sub hl [0, 1, 2] rfl)

-- X1_own
def m_X1_own (x1 : Int32) (x2 : Int32) : Option (Int32) := if (1 : Int32) ≤ x2 then mCall (m_X0_own x1 (x2 - (1 : Int32))) (fun (r1 : Int32) => some r1) else some (-1 : Int32)
def P_X1_own_0 (p : Program) (l : Launch) (e : Env) (s : State) (m : MethodId) (args : Array Value) (below : List Frame) (meth : Method) (c : Code) (D : va_G) (cA : Nat → ClassId) (r : Int32) (ci a_this : Nat) (x1 : Int32) (x2 : Int32) : Prop := va_P D vwCl [(a_this, .inr (ci, []))] s.heap → ∀ ls : Array Slot, lv_has ls 3 [(0, .ref a_this), (1, .int x1), (2, .int x2)] → W p l e { frames := 2, cells := 0, slots := 0, locals := 44 } s m args below meth c s.heap [] 0 0 (MQ below (vp_Si (fun y => y = r)) args s 0 0 (fun _ => False)) (F0 m 0 ls [])
set_option maxHeartbeats 4000000 in
set_option maxRecDepth 100000 in
theorem w_X1_own_0 {p : Program} {l : Launch} {e : Env} {s : State} {m : MethodId} {args : Array Value} {below : List Frame} {meth : Method} {c : Code} {D : va_G} {cA : Nat → ClassId} {r : Int32} (S : CallFix p m c cX1_own 3 s args wsX1_own RX1) (hr : meth.sig.returnType = some .int) (hlk : meth.locks = false) (hK : gK D cA s) (ci a_this : Nat) {qq : vw_C} (hcq : vwCl[ci]? = some qq) (x1 : Int32) (x2 : Int32) (h : m_X1_own x1 x2 = some r) : P_X1_own_0 p l e s m args below meth c D cA r ci a_this x1 x2 := by
  intro hP ls hl
  unfold m_X1_own at h
  refine lv_iload_n S.1 S.2.1 dX1_own_0 rfl (lv_at hl 2 rfl) ?_
  refine lv_iconst (v := (1 : Int32)) S.1 S.2.1 dX1_own_1 (by decide) ?_
  refine mi_icmp_ge (tgt := 9) S h dX1_own_2 (by decide) (fun h => ?_) (fun h => ?_)
  · refine lv_aload_n S.1 S.2.1 dX1_own_9 rfl (lv_at hl 0 rfl) ?_
    refine lv_iload_n S.1 S.2.1 dX1_own_10 rfl (lv_at hl 1 rfl) ?_
    refine lv_iload_n S.1 S.2.1 dX1_own_11 rfl (lv_at hl 2 rfl) ?_
    refine lv_iconst (v := (1 : Int32)) S.1 S.2.1 dX1_own_12 (by decide) ?_
    refine lv_isub S.1 S.2.1 dX1_own_13 ?_
    obtain ⟨r1, hr1, h⟩ := mCall_use h
    refine mc_Pi (va_runSU (As := [.int x1, .int (x2 - (1 : Int32))]) (rest := []) ((hK.1.1 ci _ hcq).2) S (c_X0_own l D cA ci a_this hcq x1 (x2 - (1 : Int32)) hr1) (va_cwSU 2 S.2.2.2.2 gX1_own_X0_own_s13 rfl rfl rfl (by decide +kernel) ⟨Nat.le_of_ble_eq_true rfl, Nat.le_of_ble_eq_true rfl⟩) (pre_PV hK hP [0] rfl (ci := ci) (q0 := 0) hcq rfl) rfl rfl hl.1 rfl (lv_room (Nat.le_of_ble_eq_true rfl)) dX1_own_14 ⟨Nat.le_of_ble_eq_true rfl, Nat.le_of_ble_eq_true rfl⟩) ?_
    cases h
    exact mi_iretP S hr hlk rfl dX1_own_17
  · refine lv_iconst (v := (-1 : Int32)) S.1 S.2.1 dX1_own_5 (by decide) ?_
    refine lv_goto (tgt := 17) S.1 S.2.1 dX1_own_6 (by decide) ?_
    cases h
    exact mi_iretP S hr hlk rfl dX1_own_17
set_option maxHeartbeats 4000000 in
set_option maxRecDepth 100000 in
theorem c_X1_own (l : Launch) (D : va_G) (cA : Nat → ClassId) (ci a_this : Nat) {qq : vw_C} (hcq : vwCl[ci]? = some qq) (x1 : Int32) (x2 : Int32) {r : Int32} (h : m_X1_own x1 x2 = some r) : MPi l yX1_own wsX1_own { frames := 2, cells := 0, slots := 0, locals := 44 } D cA [.ref a_this, .int x1, .int x2] [(a_this, .inr (ci, []))] r := by
  refine mP_of (cc := cX1_own) (maxL := 3) (ret := (some .int)) (by decide) rfl (Nat.le_of_ble_eq_true rfl) ?_
  intro p e s m below meth c S hr hlk hK hP ls hl
  exact w_X1_own_0 S hr hlk hK ci a_this hcq x1 x2 h hP ls (lv_sub hl [0, 1, 2] rfl)

-- X3_own
def m_X3_own (x1 : Int32) (x2 : Int32) : Option (Int32) := if 0 ≤ x2 then mCall (m_X5_own x1 (x2 / (2 : Int32))) (fun (r1 : Int32) => some r1) else some (-1 : Int32)
def P_X3_own_0 (p : Program) (l : Launch) (e : Env) (s : State) (m : MethodId) (args : Array Value) (below : List Frame) (meth : Method) (c : Code) (D : va_G) (cA : Nat → ClassId) (r : Int32) (ci a_this : Nat) (x1 : Int32) (x2 : Int32) : Prop := va_P D vwCl [(a_this, .inr (ci, []))] s.heap → ∀ ls : Array Slot, lv_has ls 3 [(0, .ref a_this), (1, .int x1), (2, .int x2)] → W p l e { frames := 1, cells := 0, slots := 0, locals := 22 } s m args below meth c s.heap [] 0 0 (MQ below (vp_Si (fun y => y = r)) args s 0 0 (fun _ => False)) (F0 m 0 ls [])
set_option maxHeartbeats 4000000 in
set_option maxRecDepth 100000 in
theorem w_X3_own_0 {p : Program} {l : Launch} {e : Env} {s : State} {m : MethodId} {args : Array Value} {below : List Frame} {meth : Method} {c : Code} {D : va_G} {cA : Nat → ClassId} {r : Int32} (S : CallFix p m c cX3_own 3 s args wsX3_own RX3) (hr : meth.sig.returnType = some .int) (hlk : meth.locks = false) (hK : gK D cA s) (ci a_this : Nat) {qq : vw_C} (hcq : vwCl[ci]? = some qq) (x1 : Int32) (x2 : Int32) (h : m_X3_own x1 x2 = some r) : P_X3_own_0 p l e s m args below meth c D cA r ci a_this x1 x2 := by
  intro hP ls hl
  unfold m_X3_own at h
  refine lv_iload_n S.1 S.2.1 dX3_own_0 rfl (lv_at hl 2 rfl) ?_
  refine mi_if_ge (tgt := 8) S h dX3_own_1 (by decide) (fun h => ?_) (fun h => ?_)
  · refine lv_aload_n S.1 S.2.1 dX3_own_8 rfl (lv_at hl 0 rfl) ?_
    refine lv_iload_n S.1 S.2.1 dX3_own_9 rfl (lv_at hl 1 rfl) ?_
    refine lv_iload_n S.1 S.2.1 dX3_own_10 rfl (lv_at hl 2 rfl) ?_
    refine lv_iconst (v := (2 : Int32)) S.1 S.2.1 dX3_own_11 (by decide) ?_
    refine lv_idiv S.1 S.2.1 dX3_own_12 (by decide) ?_
    obtain ⟨r1, hr1, h⟩ := mCall_use h
    refine mc_Pi (va_runSU (As := [.int x1, .int (x2 / (2 : Int32))]) (rest := []) ((hK.1.1 ci _ hcq).2) S (c_X5_own l D cA a_this x1 (x2 / (2 : Int32)) hr1) (va_cwSU 2 S.2.2.2.2 gX3_own_X5_own_s13 rfl rfl rfl (by decide +kernel) ⟨Nat.le_of_ble_eq_true rfl, Nat.le_of_ble_eq_true rfl⟩) (pre_PV hK hP [] rfl (ci := ci) (q0 := 0) hcq rfl) rfl rfl hl.1 rfl (lv_room (Nat.le_of_ble_eq_true rfl)) dX3_own_13 ⟨Nat.le_of_ble_eq_true rfl, Nat.le_of_ble_eq_true rfl⟩) ?_
    cases h
    exact mi_iretP S hr hlk rfl dX3_own_16
  · refine lv_iconst (v := (-1 : Int32)) S.1 S.2.1 dX3_own_4 (by decide) ?_
    refine lv_goto (tgt := 16) S.1 S.2.1 dX3_own_5 (by decide) ?_
    cases h
    exact mi_iretP S hr hlk rfl dX3_own_16
set_option maxHeartbeats 4000000 in
set_option maxRecDepth 100000 in
theorem c_X3_own (l : Launch) (D : va_G) (cA : Nat → ClassId) (ci a_this : Nat) {qq : vw_C} (hcq : vwCl[ci]? = some qq) (x1 : Int32) (x2 : Int32) {r : Int32} (h : m_X3_own x1 x2 = some r) : MPi l yX3_own wsX3_own { frames := 1, cells := 0, slots := 0, locals := 22 } D cA [.ref a_this, .int x1, .int x2] [(a_this, .inr (ci, []))] r := by
  refine mP_of (cc := cX3_own) (maxL := 3) (ret := (some .int)) (by decide) rfl (Nat.le_of_ble_eq_true rfl) ?_
  intro p e s m below meth c S hr hlk hK hP ls hl
  exact w_X3_own_0 S hr hlk hK ci a_this hcq x1 x2 h hP ls (lv_sub hl [0, 1, 2] rfl)

-- X7_own
def m_X7_own (x1 : Int32) (x2 : Int32) : Option (Int32) := mCall (m_X5_own x1 ((2 : Int32) * x2)) (fun (r1 : Int32) => some r1)
def P_X7_own_0 (p : Program) (l : Launch) (e : Env) (s : State) (m : MethodId) (args : Array Value) (below : List Frame) (meth : Method) (c : Code) (D : va_G) (cA : Nat → ClassId) (r : Int32) (ci a_this : Nat) (x1 : Int32) (x2 : Int32) : Prop := va_P D vwCl [(a_this, .inr (ci, []))] s.heap → ∀ ls : Array Slot, lv_has ls 3 [(0, .ref a_this), (1, .int x1), (2, .int x2)] → W p l e { frames := 1, cells := 0, slots := 0, locals := 22 } s m args below meth c s.heap [] 0 0 (MQ below (vp_Si (fun y => y = r)) args s 0 0 (fun _ => False)) (F0 m 0 ls [])
set_option maxHeartbeats 4000000 in
set_option maxRecDepth 100000 in
theorem w_X7_own_0 {p : Program} {l : Launch} {e : Env} {s : State} {m : MethodId} {args : Array Value} {below : List Frame} {meth : Method} {c : Code} {D : va_G} {cA : Nat → ClassId} {r : Int32} (S : CallFix p m c cX7_own 3 s args wsX7_own RX7) (hr : meth.sig.returnType = some .int) (hlk : meth.locks = false) (hK : gK D cA s) (ci a_this : Nat) {qq : vw_C} (hcq : vwCl[ci]? = some qq) (x1 : Int32) (x2 : Int32) (h : m_X7_own x1 x2 = some r) : P_X7_own_0 p l e s m args below meth c D cA r ci a_this x1 x2 := by
  intro hP ls hl
  unfold m_X7_own at h
  refine lv_aload_n S.1 S.2.1 dX7_own_0 rfl (lv_at hl 0 rfl) ?_
  refine lv_iload_n S.1 S.2.1 dX7_own_1 rfl (lv_at hl 1 rfl) ?_
  refine lv_iconst (v := (2 : Int32)) S.1 S.2.1 dX7_own_2 (by decide) ?_
  refine lv_iload_n S.1 S.2.1 dX7_own_3 rfl (lv_at hl 2 rfl) ?_
  refine lv_imul S.1 S.2.1 dX7_own_4 ?_
  obtain ⟨r1, hr1, h⟩ := mCall_use h
  refine mc_Pi (va_runSU (As := [.int x1, .int ((2 : Int32) * x2)]) (rest := []) ((hK.1.1 ci _ hcq).2) S (c_X5_own l D cA a_this x1 ((2 : Int32) * x2) hr1) (va_cwSU 2 S.2.2.2.2 gX7_own_X5_own_s11 rfl rfl rfl (by decide +kernel) ⟨Nat.le_of_ble_eq_true rfl, Nat.le_of_ble_eq_true rfl⟩) (pre_PV hK hP [] rfl (ci := ci) (q0 := 0) hcq rfl) rfl rfl hl.1 rfl (lv_room (Nat.le_of_ble_eq_true rfl)) dX7_own_5 ⟨Nat.le_of_ble_eq_true rfl, Nat.le_of_ble_eq_true rfl⟩) ?_
  cases h
  exact mi_iretP S hr hlk rfl dX7_own_8
set_option maxHeartbeats 4000000 in
set_option maxRecDepth 100000 in
theorem c_X7_own (l : Launch) (D : va_G) (cA : Nat → ClassId) (ci a_this : Nat) {qq : vw_C} (hcq : vwCl[ci]? = some qq) (x1 : Int32) (x2 : Int32) {r : Int32} (h : m_X7_own x1 x2 = some r) : MPi l yX7_own wsX7_own { frames := 1, cells := 0, slots := 0, locals := 22 } D cA [.ref a_this, .int x1, .int x2] [(a_this, .inr (ci, []))] r := by
  refine mP_of (cc := cX7_own) (maxL := 3) (ret := (some .int)) (by decide) rfl (Nat.le_of_ble_eq_true rfl) ?_
  intro p e s m below meth c S hr hlk hK hP ls hl
  exact w_X7_own_0 S hr hlk hK ci a_this hcq x1 x2 h hP ls (lv_sub hl [0, 1, 2] rfl)

-- X8_own
def m_X8_own (x1 : Int32) (x2 : Int32) : Option (Int32) := if (x2 - x2 / (2 : Int32) * (2 : Int32)) = 0 then mCall (m_X3_own x1 x2) (fun (r1 : Int32) => some r1) else some (-1 : Int32)
def P_X8_own_0 (p : Program) (l : Launch) (e : Env) (s : State) (m : MethodId) (args : Array Value) (below : List Frame) (meth : Method) (c : Code) (D : va_G) (cA : Nat → ClassId) (r : Int32) (ci a_this : Nat) (x1 : Int32) (x2 : Int32) : Prop := va_P D vwCl [(a_this, .inr (ci, []))] s.heap → ∀ ls : Array Slot, lv_has ls 3 [(0, .ref a_this), (1, .int x1), (2, .int x2)] → W p l e { frames := 2, cells := 0, slots := 0, locals := 44 } s m args below meth c s.heap [] 0 0 (MQ below (vp_Si (fun y => y = r)) args s 0 0 (fun _ => False)) (F0 m 0 ls [])
set_option maxHeartbeats 4000000 in
set_option maxRecDepth 100000 in
theorem w_X8_own_0 {p : Program} {l : Launch} {e : Env} {s : State} {m : MethodId} {args : Array Value} {below : List Frame} {meth : Method} {c : Code} {D : va_G} {cA : Nat → ClassId} {r : Int32} (S : CallFix p m c cX8_own 3 s args wsX8_own RX8) (hr : meth.sig.returnType = some .int) (hlk : meth.locks = false) (hK : gK D cA s) (ci a_this : Nat) {qq : vw_C} (hcq : vwCl[ci]? = some qq) (x1 : Int32) (x2 : Int32) (h : m_X8_own x1 x2 = some r) : P_X8_own_0 p l e s m args below meth c D cA r ci a_this x1 x2 := by
  intro hP ls hl
  unfold m_X8_own at h
  refine lv_iload_n S.1 S.2.1 dX8_own_0 rfl (lv_at hl 2 rfl) ?_
  refine lv_iconst (v := (2 : Int32)) S.1 S.2.1 dX8_own_1 (by decide) ?_
  refine lv_irem S.1 S.2.1 dX8_own_2 (by decide) ?_
  refine mi_if_ne (tgt := 15) S h dX8_own_3 (by decide) (fun h => ?_) (fun h => ?_)
  · refine lv_iconst (v := (-1 : Int32)) S.1 S.2.1 dX8_own_15 (by decide) ?_
    cases h
    exact mi_iretP S hr hlk rfl dX8_own_16
  · refine lv_aload_n S.1 S.2.1 dX8_own_6 rfl (lv_at hl 0 rfl) ?_
    refine lv_iload_n S.1 S.2.1 dX8_own_7 rfl (lv_at hl 1 rfl) ?_
    refine lv_iload_n S.1 S.2.1 dX8_own_8 rfl (lv_at hl 2 rfl) ?_
    obtain ⟨r1, hr1, h⟩ := mCall_use h
    refine mc_Pi (va_runSU (As := [.int x1, .int x2]) (rest := []) ((hK.1.1 ci _ hcq).2) S (c_X3_own l D cA ci a_this hcq x1 x2 hr1) (va_cwSU 2 S.2.2.2.2 gX8_own_X3_own_s9 rfl rfl rfl (by decide +kernel) ⟨Nat.le_of_ble_eq_true rfl, Nat.le_of_ble_eq_true rfl⟩) (pre_PV hK hP [0] rfl (ci := ci) (q0 := 0) hcq rfl) rfl rfl hl.1 rfl (lv_room (Nat.le_of_ble_eq_true rfl)) dX8_own_9 ⟨Nat.le_of_ble_eq_true rfl, Nat.le_of_ble_eq_true rfl⟩) ?_
    refine lv_goto (tgt := 16) S.1 S.2.1 dX8_own_12 (by decide) ?_
    cases h
    exact mi_iretP S hr hlk rfl dX8_own_16
set_option maxHeartbeats 4000000 in
set_option maxRecDepth 100000 in
theorem c_X8_own (l : Launch) (D : va_G) (cA : Nat → ClassId) (ci a_this : Nat) {qq : vw_C} (hcq : vwCl[ci]? = some qq) (x1 : Int32) (x2 : Int32) {r : Int32} (h : m_X8_own x1 x2 = some r) : MPi l yX8_own wsX8_own { frames := 2, cells := 0, slots := 0, locals := 44 } D cA [.ref a_this, .int x1, .int x2] [(a_this, .inr (ci, []))] r := by
  refine mP_of (cc := cX8_own) (maxL := 3) (ret := (some .int)) (by decide) rfl (Nat.le_of_ble_eq_true rfl) ?_
  intro p e s m below meth c S hr hlk hK hP ls hl
  exact w_X8_own_0 S hr hlk hK ci a_this hcq x1 x2 h hP ls (lv_sub hl [0, 1, 2] rfl)

-- X1_burnsFor (by hand: its super call is inherited)
def m_X1_burnsFor (x1 : Int32) : Option (Int32) := mCall (m_X5_burnsFor x1) (fun (r1 : Int32) => some (r1 + (1 : Int32)))
set_option maxHeartbeats 4000000 in
set_option maxRecDepth 100000 in
theorem c_X1_burnsFor (l : Launch) (D : va_G) (cA : Nat → ClassId) (ci a_this : Nat) {qq : vw_C} (hcq : vwCl[ci]? = some qq) (x1 : Int32) {r : Int32} (h : m_X1_burnsFor x1 = some r) : MPi l yX1_burnsFor wsX1_burnsFor { frames := 1, cells := 0, slots := 0, locals := 21 } D cA [.ref a_this, .int x1] [(a_this, .inr (ci, []))] r := by
  refine mP_of (cc := cX1_burnsFor) (maxL := 2) (ret := (some .int)) (by decide) rfl (Nat.le_of_ble_eq_true rfl) ?_
  intro p e s m below meth c S hr hlk hK hP ls hl
  unfold m_X1_burnsFor at h
  have hE : ∀ w ∈ extraW, w.before ([Value.ref a_this, Value.int x1] : List Value).toArray s = true := fun w hw => va_Nw.use (by have := extraW_ok w hw; simp only [Bool.and_eq_true] at this; exact this.1) (hK.2.2 w hw)
  refine lv_aload_n S.1 S.2.1 dX1_burnsFor_0 rfl (lv_at hl 0 rfl) ?_
  refine lv_iload_n S.1 S.2.1 dX1_burnsFor_1 rfl (lv_at hl 1 rfl) ?_
  obtain ⟨r1, hr1, h⟩ := mCall_use h
  refine mc_Pi (va_runSI (n := 1) (x := ⟨"CoalWood$Back", "burnsFor", "(I)I"⟩) (owner := "CoalWood$Plain") (y := yX5_burnsFor) (bytes := cX5_burnsFor) (maxL := 2) (ret := some .int) (As := [.int x1]) (rest := []) ((hK.1.1 ci _ hcq).2) S (c_X5_burnsFor l D cA a_this x1 hr1) rfl (hE _ (by decide +kernel)) (hE _ (by decide +kernel)) (hE (.superclass RX1 RX0) (by decide +kernel)) (hE (.superclass RX0 RX5) (by decide +kernel)) (hE _ (by decide +kernel)) (hE (.initialized RX5) (by decide +kernel)) (hE _ (by decide +kernel)) (by decide) (fun sig hs => by cases hs; rfl) rfl rfl (Nat.le_of_ble_eq_true rfl) (Nat.le_of_ble_eq_true rfl) (fun w hw a' U hW => by
      have e1 : w = .code yX5_burnsFor cX5_burnsFor 2 (some .int) := by simpa [wsX5_burnsFor] using hw
      rw [e1]
      exact word_at hW (Or.inl (extraW_ok _ (by decide +kernel))) (hE _ (by decide +kernel))) (by decide +kernel) (pre_PV hK hP [] rfl (ci := ci) (q0 := 0) hcq rfl) rfl rfl hl.1 rfl (lv_room (Nat.le_of_ble_eq_true rfl)) dX1_burnsFor_2 ⟨Nat.le_of_ble_eq_true rfl, Nat.le_of_ble_eq_true rfl⟩) ?_
  refine lv_iconst (v := (1 : Int32)) S.1 S.2.1 dX1_burnsFor_5 (by decide) ?_
  refine lv_iadd S.1 S.2.1 dX1_burnsFor_6 ?_
  cases h
  exact mi_iretP S hr hlk rfl dX1_burnsFor_7

-- X3_burnsFor
def m_X3_burnsFor (x1 : Int32) : Option (Int32) := mCall (m_X5_burnsFor x1) (fun (r1 : Int32) => some ((2 : Int32) * r1))
def P_X3_burnsFor_0 (p : Program) (l : Launch) (e : Env) (s : State) (m : MethodId) (args : Array Value) (below : List Frame) (meth : Method) (c : Code) (D : va_G) (cA : Nat → ClassId) (r : Int32) (ci a_this : Nat) (x1 : Int32) : Prop := va_P D vwCl [(a_this, .inr (ci, []))] s.heap → ∀ ls : Array Slot, lv_has ls 2 [(0, .ref a_this), (1, .int x1)] → W p l e { frames := 1, cells := 0, slots := 0, locals := 21 } s m args below meth c s.heap [] 0 0 (MQ below (vp_Si (fun y => y = r)) args s 0 0 (fun _ => False)) (F0 m 0 ls [])
set_option maxHeartbeats 4000000 in
set_option maxRecDepth 100000 in
theorem w_X3_burnsFor_0 {p : Program} {l : Launch} {e : Env} {s : State} {m : MethodId} {args : Array Value} {below : List Frame} {meth : Method} {c : Code} {D : va_G} {cA : Nat → ClassId} {r : Int32} (S : CallFix p m c cX3_burnsFor 2 s args wsX3_burnsFor RX3) (hr : meth.sig.returnType = some .int) (hlk : meth.locks = false) (hK : gK D cA s) (ci a_this : Nat) {qq : vw_C} (hcq : vwCl[ci]? = some qq) (x1 : Int32) (h : m_X3_burnsFor x1 = some r) : P_X3_burnsFor_0 p l e s m args below meth c D cA r ci a_this x1 := by
  intro hP ls hl
  unfold m_X3_burnsFor at h
  refine lv_iconst (v := (2 : Int32)) S.1 S.2.1 dX3_burnsFor_0 (by decide) ?_
  refine lv_aload_n S.1 S.2.1 dX3_burnsFor_1 rfl (lv_at hl 0 rfl) ?_
  refine lv_iload_n S.1 S.2.1 dX3_burnsFor_2 rfl (lv_at hl 1 rfl) ?_
  obtain ⟨r1, hr1, h⟩ := mCall_use h
  refine mc_Pi (va_runSU (As := [.int x1]) (rest := [.int (2 : Int32)]) ((hK.1.1 ci _ hcq).2) S (c_X5_burnsFor l D cA a_this x1 hr1) (va_cwSU 1 S.2.2.2.2 gX3_burnsFor_X5_burnsFor_s9 rfl rfl rfl (by decide +kernel) ⟨Nat.le_of_ble_eq_true rfl, Nat.le_of_ble_eq_true rfl⟩) (pre_PV hK hP [] rfl (ci := ci) (q0 := 0) hcq rfl) rfl rfl hl.1 rfl (lv_room (Nat.le_of_ble_eq_true rfl)) dX3_burnsFor_3 ⟨Nat.le_of_ble_eq_true rfl, Nat.le_of_ble_eq_true rfl⟩) ?_
  refine lv_imul S.1 S.2.1 dX3_burnsFor_6 ?_
  cases h
  exact mi_iretP S hr hlk rfl dX3_burnsFor_7
set_option maxHeartbeats 4000000 in
set_option maxRecDepth 100000 in
theorem c_X3_burnsFor (l : Launch) (D : va_G) (cA : Nat → ClassId) (ci a_this : Nat) {qq : vw_C} (hcq : vwCl[ci]? = some qq) (x1 : Int32) {r : Int32} (h : m_X3_burnsFor x1 = some r) : MPi l yX3_burnsFor wsX3_burnsFor { frames := 1, cells := 0, slots := 0, locals := 21 } D cA [.ref a_this, .int x1] [(a_this, .inr (ci, []))] r := by
  refine mP_of (cc := cX3_burnsFor) (maxL := 2) (ret := (some .int)) (by decide) rfl (Nat.le_of_ble_eq_true rfl) ?_
  intro p e s m below meth c S hr hlk hK hP ls hl
  exact w_X3_burnsFor_0 S hr hlk hK ci a_this hcq x1 h hP ls (lv_sub hl [0, 1] rfl)

-- X7_burnsFor
def m_X7_burnsFor (x1 : Int32) : Option (Int32) := mCall (m_X5_burnsFor x1) (fun (r1 : Int32) => some ((r1 + (1 : Int32)) / (2 : Int32)))
def P_X7_burnsFor_0 (p : Program) (l : Launch) (e : Env) (s : State) (m : MethodId) (args : Array Value) (below : List Frame) (meth : Method) (c : Code) (D : va_G) (cA : Nat → ClassId) (r : Int32) (ci a_this : Nat) (x1 : Int32) : Prop := va_P D vwCl [(a_this, .inr (ci, []))] s.heap → ∀ ls : Array Slot, lv_has ls 2 [(0, .ref a_this), (1, .int x1)] → W p l e { frames := 1, cells := 0, slots := 0, locals := 21 } s m args below meth c s.heap [] 0 0 (MQ below (vp_Si (fun y => y = r)) args s 0 0 (fun _ => False)) (F0 m 0 ls [])
set_option maxHeartbeats 4000000 in
set_option maxRecDepth 100000 in
theorem w_X7_burnsFor_0 {p : Program} {l : Launch} {e : Env} {s : State} {m : MethodId} {args : Array Value} {below : List Frame} {meth : Method} {c : Code} {D : va_G} {cA : Nat → ClassId} {r : Int32} (S : CallFix p m c cX7_burnsFor 2 s args wsX7_burnsFor RX7) (hr : meth.sig.returnType = some .int) (hlk : meth.locks = false) (hK : gK D cA s) (ci a_this : Nat) {qq : vw_C} (hcq : vwCl[ci]? = some qq) (x1 : Int32) (h : m_X7_burnsFor x1 = some r) : P_X7_burnsFor_0 p l e s m args below meth c D cA r ci a_this x1 := by
  intro hP ls hl
  unfold m_X7_burnsFor at h
  refine lv_aload_n S.1 S.2.1 dX7_burnsFor_0 rfl (lv_at hl 0 rfl) ?_
  refine lv_iload_n S.1 S.2.1 dX7_burnsFor_1 rfl (lv_at hl 1 rfl) ?_
  obtain ⟨r1, hr1, h⟩ := mCall_use h
  refine mc_Pi (va_runSU (As := [.int x1]) (rest := []) ((hK.1.1 ci _ hcq).2) S (c_X5_burnsFor l D cA a_this x1 hr1) (va_cwSU 1 S.2.2.2.2 gX7_burnsFor_X5_burnsFor_s7 rfl rfl rfl (by decide +kernel) ⟨Nat.le_of_ble_eq_true rfl, Nat.le_of_ble_eq_true rfl⟩) (pre_PV hK hP [] rfl (ci := ci) (q0 := 0) hcq rfl) rfl rfl hl.1 rfl (lv_room (Nat.le_of_ble_eq_true rfl)) dX7_burnsFor_2 ⟨Nat.le_of_ble_eq_true rfl, Nat.le_of_ble_eq_true rfl⟩) ?_
  refine lv_iconst (v := (1 : Int32)) S.1 S.2.1 dX7_burnsFor_5 (by decide) ?_
  refine lv_iadd S.1 S.2.1 dX7_burnsFor_6 ?_
  refine lv_iconst (v := (2 : Int32)) S.1 S.2.1 dX7_burnsFor_7 (by decide) ?_
  refine lv_idiv S.1 S.2.1 dX7_burnsFor_8 (by decide) ?_
  cases h
  exact mi_iretP S hr hlk rfl dX7_burnsFor_9
set_option maxHeartbeats 4000000 in
set_option maxRecDepth 100000 in
theorem c_X7_burnsFor (l : Launch) (D : va_G) (cA : Nat → ClassId) (ci a_this : Nat) {qq : vw_C} (hcq : vwCl[ci]? = some qq) (x1 : Int32) {r : Int32} (h : m_X7_burnsFor x1 = some r) : MPi l yX7_burnsFor wsX7_burnsFor { frames := 1, cells := 0, slots := 0, locals := 21 } D cA [.ref a_this, .int x1] [(a_this, .inr (ci, []))] r := by
  refine mP_of (cc := cX7_burnsFor) (maxL := 2) (ret := (some .int)) (by decide) rfl (Nat.le_of_ble_eq_true rfl) ?_
  intro p e s m below meth c S hr hlk hK hP ls hl
  exact w_X7_burnsFor_0 S hr hlk hK ci a_this hcq x1 h hP ls (lv_sub hl [0, 1] rfl)

-- X11_within
def m_X11_within (x0 : Int32) (x1 : Int32) (x2 : Int32) : Option (Int32) := if x0 < x1 then some (0 : Int32) else if x2 < x0 then some (0 : Int32) else some (1 : Int32)
def P_X11_within_0 (p : Program) (l : Launch) (e : Env) (s : State) (m : MethodId) (args : Array Value) (below : List Frame) (meth : Method) (c : Code) (D : va_G) (cA : Nat → ClassId) (r : Int32) (x0 : Int32) (x1 : Int32) (x2 : Int32) : Prop := va_P D vwCl [] s.heap → ∀ ls : Array Slot, lv_has ls 3 [(0, .int x0), (1, .int x1), (2, .int x2)] → W p l e { frames := 0, cells := 0, slots := 0, locals := 0 } s m args below meth c s.heap [] 0 0 (MQ below (vp_Si (fun y => y = r)) args s 0 0 (fun _ => False)) (F0 m 0 ls [])
set_option maxHeartbeats 4000000 in
set_option maxRecDepth 100000 in
theorem w_X11_within_0 {p : Program} {l : Launch} {e : Env} {s : State} {m : MethodId} {args : Array Value} {below : List Frame} {meth : Method} {c : Code} {D : va_G} {cA : Nat → ClassId} {r : Int32} (S : CallFix p m c cX11_within 3 s args wsX11_within RX11) (hr : meth.sig.returnType = some .boolean) (hlk : meth.locks = false) (hK : gK D cA s) (x0 : Int32) (x1 : Int32) (x2 : Int32) (h : m_X11_within x0 x1 x2 = some r) : P_X11_within_0 p l e s m args below meth c D cA r x0 x1 x2 := by
  intro hP ls hl
  unfold m_X11_within at h
  refine lv_iload_n S.1 S.2.1 dX11_within_0 rfl (lv_at hl 0 rfl) ?_
  refine lv_iload_n S.1 S.2.1 dX11_within_1 rfl (lv_at hl 1 rfl) ?_
  refine mi_icmp_lt (tgt := 14) S h dX11_within_2 (by decide) (fun h => ?_) (fun h => ?_)
  · refine lv_iconst (v := (0 : Int32)) S.1 S.2.1 dX11_within_14 (by decide) ?_
    cases h
    exact mi_zretP S hr hlk rfl (by decide) dX11_within_15
  · refine lv_iload_n S.1 S.2.1 dX11_within_5 rfl (lv_at hl 0 rfl) ?_
    refine lv_iload_n S.1 S.2.1 dX11_within_6 rfl (lv_at hl 2 rfl) ?_
    refine mi_icmp_gt (tgt := 14) S h dX11_within_7 (by decide) (fun h => ?_) (fun h => ?_)
    · refine lv_iconst (v := (0 : Int32)) S.1 S.2.1 dX11_within_14 (by decide) ?_
      cases h
      exact mi_zretP S hr hlk rfl (by decide) dX11_within_15
    · refine lv_iconst (v := (1 : Int32)) S.1 S.2.1 dX11_within_10 (by decide) ?_
      refine lv_goto (tgt := 15) S.1 S.2.1 dX11_within_11 (by decide) ?_
      cases h
      exact mi_zretP S hr hlk rfl (by decide) dX11_within_15
set_option maxHeartbeats 4000000 in
set_option maxRecDepth 100000 in
theorem c_X11_within (l : Launch) (D : va_G) (cA : Nat → ClassId) (x0 : Int32) (x1 : Int32) (x2 : Int32) {r : Int32} (h : m_X11_within x0 x1 x2 = some r) : MPi l yX11_within wsX11_within { frames := 0, cells := 0, slots := 0, locals := 0 } D cA [.int x0, .int x1, .int x2] [] r := by
  refine mP_of (cc := cX11_within) (maxL := 3) (ret := (some .boolean)) (by decide) rfl (Nat.le_of_ble_eq_true rfl) ?_
  intro p e s m below meth c S hr hlk hK hP ls hl
  exact w_X11_within_0 S hr hlk hK x0 x1 x2 h hP ls (lv_sub hl [0, 1, 2] rfl)

-- X11_isLayer
def m_X11_isLayer (x0 : Int32) : Option (Int32) := mCall (m_X11_within x0 (0 : Int32) (11 : Int32)) (fun (r1 : Int32) => mZ r1 (some r1))
def P_X11_isLayer_0 (p : Program) (l : Launch) (e : Env) (s : State) (m : MethodId) (args : Array Value) (below : List Frame) (meth : Method) (c : Code) (D : va_G) (cA : Nat → ClassId) (r : Int32) (x0 : Int32) : Prop := va_P D vwCl [] s.heap → ∀ ls : Array Slot, lv_has ls 1 [(0, .int x0)] → W p l e { frames := 1, cells := 0, slots := 0, locals := 22 } s m args below meth c s.heap [] 0 0 (MQ below (vp_Si (fun y => y = r)) args s 0 0 (fun _ => False)) (F0 m 0 ls [])
set_option maxHeartbeats 4000000 in
set_option maxRecDepth 100000 in
theorem w_X11_isLayer_0 {p : Program} {l : Launch} {e : Env} {s : State} {m : MethodId} {args : Array Value} {below : List Frame} {meth : Method} {c : Code} {D : va_G} {cA : Nat → ClassId} {r : Int32} (S : CallFix p m c cX11_isLayer 1 s args wsX11_isLayer RX11) (hr : meth.sig.returnType = some .boolean) (hlk : meth.locks = false) (hK : gK D cA s) (x0 : Int32) (h : m_X11_isLayer x0 = some r) : P_X11_isLayer_0 p l e s m args below meth c D cA r x0 := by
  intro hP ls hl
  unfold m_X11_isLayer at h
  refine lv_iload_n S.1 S.2.1 dX11_isLayer_0 rfl (lv_at hl 0 rfl) ?_
  refine lv_iconst (v := (0 : Int32)) S.1 S.2.1 dX11_isLayer_1 (by decide) ?_
  refine lv_bipush (v := (11 : Int32)) S.1 S.2.1 dX11_isLayer_2 (by decide) ?_
  obtain ⟨r1, hr1, h⟩ := mCall_use h
  refine mc_Pi (va_runS (As := [.int x0, .int (0 : Int32), .int (11 : Int32)]) (rest := []) S (c_X11_within l D cA x0 (0 : Int32) (11 : Int32) hr1) (va_cwS 3 S.2.2.2.2 gX11_isLayer_X11_within rfl rfl rfl (by decide +kernel) ⟨Nat.le_of_ble_eq_true rfl, Nat.le_of_ble_eq_true rfl⟩) (pre_PS hK hP [] rfl) rfl rfl hl.1 rfl (lv_room (Nat.le_of_ble_eq_true rfl)) dX11_isLayer_4 ⟨Nat.le_of_ble_eq_true rfl, Nat.le_of_ble_eq_true rfl⟩) ?_
  obtain ⟨hz, h⟩ := mZ_use h
  cases h
  exact mi_zretP S hr hlk rfl hz dX11_isLayer_7
set_option maxHeartbeats 4000000 in
set_option maxRecDepth 100000 in
theorem c_X11_isLayer (l : Launch) (D : va_G) (cA : Nat → ClassId) (x0 : Int32) {r : Int32} (h : m_X11_isLayer x0 = some r) : MPi l yX11_isLayer wsX11_isLayer { frames := 1, cells := 0, slots := 0, locals := 22 } D cA [.int x0] [] r := by
  refine mP_of (cc := cX11_isLayer) (maxL := 1) (ret := (some .boolean)) (by decide) rfl (Nat.le_of_ble_eq_true rfl) ?_
  intro p e s m below meth c S hr hlk hK hP ls hl
  exact w_X11_isLayer_0 S hr hlk hK x0 h hP ls (lv_sub hl [0] rfl)

-- X11_isWeather
def m_X11_isWeather (x0 : Int32) : Option (Int32) := mCall (m_X11_within x0 (0 : Int32) (5 : Int32)) (fun (r1 : Int32) => mZ r1 (some r1))
def P_X11_isWeather_0 (p : Program) (l : Launch) (e : Env) (s : State) (m : MethodId) (args : Array Value) (below : List Frame) (meth : Method) (c : Code) (D : va_G) (cA : Nat → ClassId) (r : Int32) (x0 : Int32) : Prop := va_P D vwCl [] s.heap → ∀ ls : Array Slot, lv_has ls 1 [(0, .int x0)] → W p l e { frames := 1, cells := 0, slots := 0, locals := 22 } s m args below meth c s.heap [] 0 0 (MQ below (vp_Si (fun y => y = r)) args s 0 0 (fun _ => False)) (F0 m 0 ls [])
set_option maxHeartbeats 4000000 in
set_option maxRecDepth 100000 in
theorem w_X11_isWeather_0 {p : Program} {l : Launch} {e : Env} {s : State} {m : MethodId} {args : Array Value} {below : List Frame} {meth : Method} {c : Code} {D : va_G} {cA : Nat → ClassId} {r : Int32} (S : CallFix p m c cX11_isWeather 1 s args wsX11_isWeather RX11) (hr : meth.sig.returnType = some .boolean) (hlk : meth.locks = false) (hK : gK D cA s) (x0 : Int32) (h : m_X11_isWeather x0 = some r) : P_X11_isWeather_0 p l e s m args below meth c D cA r x0 := by
  intro hP ls hl
  unfold m_X11_isWeather at h
  refine lv_iload_n S.1 S.2.1 dX11_isWeather_0 rfl (lv_at hl 0 rfl) ?_
  refine lv_iconst (v := (0 : Int32)) S.1 S.2.1 dX11_isWeather_1 (by decide) ?_
  refine lv_iconst (v := (5 : Int32)) S.1 S.2.1 dX11_isWeather_2 (by decide) ?_
  obtain ⟨r1, hr1, h⟩ := mCall_use h
  refine mc_Pi (va_runS (As := [.int x0, .int (0 : Int32), .int (5 : Int32)]) (rest := []) S (c_X11_within l D cA x0 (0 : Int32) (5 : Int32) hr1) (va_cwS 3 S.2.2.2.2 gX11_isWeather_X11_within rfl rfl rfl (by decide +kernel) ⟨Nat.le_of_ble_eq_true rfl, Nat.le_of_ble_eq_true rfl⟩) (pre_PS hK hP [] rfl) rfl rfl hl.1 rfl (lv_room (Nat.le_of_ble_eq_true rfl)) dX11_isWeather_3 ⟨Nat.le_of_ble_eq_true rfl, Nat.le_of_ble_eq_true rfl⟩) ?_
  obtain ⟨hz, h⟩ := mZ_use h
  cases h
  exact mi_zretP S hr hlk rfl hz dX11_isWeather_6
set_option maxHeartbeats 4000000 in
set_option maxRecDepth 100000 in
theorem c_X11_isWeather (l : Launch) (D : va_G) (cA : Nat → ClassId) (x0 : Int32) {r : Int32} (h : m_X11_isWeather x0 = some r) : MPi l yX11_isWeather wsX11_isWeather { frames := 1, cells := 0, slots := 0, locals := 22 } D cA [.int x0] [] r := by
  refine mP_of (cc := cX11_isWeather) (maxL := 1) (ret := (some .boolean)) (by decide) rfl (Nat.le_of_ble_eq_true rfl) ?_
  intro p e s m below meth c S hr hlk hK hP ls hl
  exact w_X11_isWeather_0 S hr hlk hK x0 h hP ls (lv_sub hl [0] rfl)

-- X11_isSize
def m_X11_isSize (x0 : Int32) : Option (Int32) := mCall (m_X11_within x0 (1 : Int32) (6 : Int32)) (fun (r1 : Int32) => mZ r1 (some r1))
def P_X11_isSize_0 (p : Program) (l : Launch) (e : Env) (s : State) (m : MethodId) (args : Array Value) (below : List Frame) (meth : Method) (c : Code) (D : va_G) (cA : Nat → ClassId) (r : Int32) (x0 : Int32) : Prop := va_P D vwCl [] s.heap → ∀ ls : Array Slot, lv_has ls 1 [(0, .int x0)] → W p l e { frames := 1, cells := 0, slots := 0, locals := 22 } s m args below meth c s.heap [] 0 0 (MQ below (vp_Si (fun y => y = r)) args s 0 0 (fun _ => False)) (F0 m 0 ls [])
set_option maxHeartbeats 4000000 in
set_option maxRecDepth 100000 in
theorem w_X11_isSize_0 {p : Program} {l : Launch} {e : Env} {s : State} {m : MethodId} {args : Array Value} {below : List Frame} {meth : Method} {c : Code} {D : va_G} {cA : Nat → ClassId} {r : Int32} (S : CallFix p m c cX11_isSize 1 s args wsX11_isSize RX11) (hr : meth.sig.returnType = some .boolean) (hlk : meth.locks = false) (hK : gK D cA s) (x0 : Int32) (h : m_X11_isSize x0 = some r) : P_X11_isSize_0 p l e s m args below meth c D cA r x0 := by
  intro hP ls hl
  unfold m_X11_isSize at h
  refine lv_iload_n S.1 S.2.1 dX11_isSize_0 rfl (lv_at hl 0 rfl) ?_
  refine lv_iconst (v := (1 : Int32)) S.1 S.2.1 dX11_isSize_1 (by decide) ?_
  refine lv_bipush (v := (6 : Int32)) S.1 S.2.1 dX11_isSize_2 (by decide) ?_
  obtain ⟨r1, hr1, h⟩ := mCall_use h
  refine mc_Pi (va_runS (As := [.int x0, .int (1 : Int32), .int (6 : Int32)]) (rest := []) S (c_X11_within l D cA x0 (1 : Int32) (6 : Int32) hr1) (va_cwS 3 S.2.2.2.2 gX11_isSize_X11_within rfl rfl rfl (by decide +kernel) ⟨Nat.le_of_ble_eq_true rfl, Nat.le_of_ble_eq_true rfl⟩) (pre_PS hK hP [] rfl) rfl rfl hl.1 rfl (lv_room (Nat.le_of_ble_eq_true rfl)) dX11_isSize_4 ⟨Nat.le_of_ble_eq_true rfl, Nat.le_of_ble_eq_true rfl⟩) ?_
  obtain ⟨hz, h⟩ := mZ_use h
  cases h
  exact mi_zretP S hr hlk rfl hz dX11_isSize_7
set_option maxHeartbeats 4000000 in
set_option maxRecDepth 100000 in
theorem c_X11_isSize (l : Launch) (D : va_G) (cA : Nat → ClassId) (x0 : Int32) {r : Int32} (h : m_X11_isSize x0 = some r) : MPi l yX11_isSize wsX11_isSize { frames := 1, cells := 0, slots := 0, locals := 22 } D cA [.int x0] [] r := by
  refine mP_of (cc := cX11_isSize) (maxL := 1) (ret := (some .boolean)) (by decide) rfl (Nat.le_of_ble_eq_true rfl) ?_
  intro p e s m below meth c S hr hlk hK hP ls hl
  exact w_X11_isSize_0 S hr hlk hK x0 h hP ls (lv_sub hl [0] rfl)

-- X11_mixed
theorem lc_X11_mixed_261 : Cond.constantLong RX11 261 (31 : Int64) ∈ wsX11_mixed := by decide +kernel
def m_X11_mixed (x0 : Int64) (x2 : Int64) : Option (Int64) := some (((31 : Int64) * x0) + x2)
def P_X11_mixed_0 (p : Program) (l : Launch) (e : Env) (s : State) (m : MethodId) (args : Array Value) (below : List Frame) (meth : Method) (c : Code) (D : va_G) (cA : Nat → ClassId) (r : Int64) (x0 : Int64) (x2 : Int64) : Prop := va_P D vwCl [] s.heap → ∀ ls : Array Slot, lv_has ls 4 [(0, .long x0), (2, .long x2)] → W p l e { frames := 0, cells := 0, slots := 0, locals := 0 } s m args below meth c s.heap [] 0 0 (MQ below (vp_Sl (fun y => y = r)) args s 0 0 (fun _ => False)) (F0 m 0 ls [])
set_option maxHeartbeats 4000000 in
set_option maxRecDepth 100000 in
theorem w_X11_mixed_0 {p : Program} {l : Launch} {e : Env} {s : State} {m : MethodId} {args : Array Value} {below : List Frame} {meth : Method} {c : Code} {D : va_G} {cA : Nat → ClassId} {r : Int64} (S : CallFix p m c cX11_mixed 4 s args wsX11_mixed RX11) (hr : meth.sig.returnType = some .long) (hlk : meth.locks = false) (hK : gK D cA s) (x0 : Int64) (x2 : Int64) (h : m_X11_mixed x0 x2 = some r) : P_X11_mixed_0 p l e s m args below meth c D cA r x0 x2 := by
  intro hP ls hl
  unfold m_X11_mixed at h
  refine lv_ldc2 S.1 S.2.1 S.2.2.2.1 (S.2.2.2.2 _ lc_X11_mixed_261) dX11_mixed_0 ?_
  refine lv_lload_n S.1 S.2.1 dX11_mixed_3 rfl (lv_at hl 0 rfl) ?_
  refine lv_lmul S.1 S.2.1 dX11_mixed_4 ?_
  refine lv_lload_n S.1 S.2.1 dX11_mixed_5 rfl (lv_at hl 1 rfl) ?_
  refine lv_ladd S.1 S.2.1 dX11_mixed_6 ?_
  cases h
  exact mi_lretP S hr hlk rfl dX11_mixed_7
set_option maxHeartbeats 4000000 in
set_option maxRecDepth 100000 in
theorem c_X11_mixed (l : Launch) (D : va_G) (cA : Nat → ClassId) (x0 : Int64) (x2 : Int64) {r : Int64} (h : m_X11_mixed x0 x2 = some r) : MPl l yX11_mixed wsX11_mixed { frames := 0, cells := 0, slots := 0, locals := 0 } D cA [.long x0, .long x2] [] r := by
  refine mP_of (cc := cX11_mixed) (maxL := 4) (ret := (some .long)) (by decide) rfl (Nat.le_of_ble_eq_true rfl) ?_
  intro p e s m below meth c S hr hlk hK hP ls hl
  exact w_X11_mixed_0 S hr hlk hK x0 x2 h hP ls (lv_sub hl [0, 1] rfl)

-- J7_fill_53178
def m_J7_fill_53178_L5 (n_p0 : Nat) : Nat → (Nat → Int32) → Int32 → Int32 → Int32 → Option ((Nat → Int32))
  | 0, _, _, _, _ => none
  | n + 1, f_p0, x1, x2, x3 => if x3 ≤ x2 then some f_p0 else mWr f_p0 n_p0 x2 x1 (fun (f1 : Nat → Int32) => mLet (x2 + (1 : Int32)) (fun (t2 : Int32) => m_J7_fill_53178_L5 n_p0 n f1 x1 t2 x3))
def m_J7_fill_53178 (n_p0 : Nat) (f_p0 : Nat → Int32) (x1 : Int32) : Option ((Nat → Int32)) := mLet (Int32.ofNat n_p0) (fun (t1 : Int32) => m_J7_fill_53178_L5 n_p0 mFU f_p0 x1 (0 : Int32) t1)
def P_J7_fill_53178_5 (p : Program) (l : Launch) (e : Env) (s : State) (m : MethodId) (args : Array Value) (below : List Frame) (meth : Method) (c : Code) (D : va_G) (cA : Nat → ClassId) (A : Nat → Prop) (r : (Nat → Int32)) (a_p0 : Nat) (n_p0 : Nat) (f_p0 : Nat → Int32) (x1 : Int32) (x2 : Int32) (x3 : Int32) : Prop := ∀ (H : Heap) (locs : List Loc) (ls : Array Slot), va_P D vwCl [(a_p0, .inl (cA 0, n_p0, .inl f_p0))] H → va_D A [(a_p0, .inl (cA 0, n_p0, .inl f_p0))] → va_S A s.heap H locs → lv_has ls 4 [(0, .ref a_p0), (1, .int x1), (2, .int x2), (3, .int x3)] → W p l e { frames := 0, cells := 0, slots := 0, locals := 0 } s m args below meth c H locs 0 0 (MQ below (va_Qv (fun (_ : Unit) => True) (gPost D A [(a_p0, .inl (cA 0, n_p0, .inl r))]) A) args s 0 0 A) (F0 m 5 ls [])
def P_J7_fill_53178_0 (p : Program) (l : Launch) (e : Env) (s : State) (m : MethodId) (args : Array Value) (below : List Frame) (meth : Method) (c : Code) (D : va_G) (cA : Nat → ClassId) (A : Nat → Prop) (r : (Nat → Int32)) (a_p0 : Nat) (n_p0 : Nat) (f_p0 : Nat → Int32) (x1 : Int32) : Prop := ∀ (H : Heap) (locs : List Loc) (ls : Array Slot), va_P D vwCl [(a_p0, .inl (cA 0, n_p0, .inl f_p0))] H → va_D A [(a_p0, .inl (cA 0, n_p0, .inl f_p0))] → va_S A s.heap H locs → lv_has ls 4 [(0, .ref a_p0), (1, .int x1)] → W p l e { frames := 0, cells := 0, slots := 0, locals := 0 } s m args below meth c H locs 0 0 (MQ below (va_Qv (fun (_ : Unit) => True) (gPost D A [(a_p0, .inl (cA 0, n_p0, .inl r))]) A) args s 0 0 A) (F0 m 0 ls [])
set_option maxHeartbeats 4000000 in
set_option maxRecDepth 100000 in
theorem w_J7_fill_53178_5 {p : Program} {l : Launch} {e : Env} {s : State} {m : MethodId} {args : Array Value} {below : List Frame} {meth : Method} {c : Code} {D : va_G} {cA : Nat → ClassId} {A : Nat → Prop} {r : (Nat → Int32)} (S : CallFix p m c cJ7_fill_53178 4 s args wsJ7_fill_53178 RJ7) (hr : meth.sig.returnType = none) (hlk : meth.locks = false) (hK : gK D cA s) (hA : ∀ q : Nat, s.heap.size ≤ q → A q) (a_p0 : Nat) (n_p0 : Nat) : ∀ (n : Nat) (f_p0 : Nat → Int32) (x1 : Int32) (x2 : Int32) (x3 : Int32), m_J7_fill_53178_L5 n_p0 n f_p0 x1 x2 x3 = some r → P_J7_fill_53178_5 p l e s m args below meth c D cA A r a_p0 n_p0 f_p0 x1 x2 x3 := by
  intro n
  induction n with
  | zero =>
    intro f_p0 x1 x2 x3 h
    have h : none = some r := h
    cases h
  | succ n ih =>
    intro f_p0 x1 x2 x3 h
    intro H locs ls hP hD hS hl
    rw [m_J7_fill_53178_L5] at h
    refine lv_iload_n S.1 S.2.1 dJ7_fill_53178_5 rfl (lv_at hl 2 rfl) ?_
    refine lv_iload_n S.1 S.2.1 dJ7_fill_53178_6 rfl (lv_at hl 3 rfl) ?_
    refine mi_icmp_ge (tgt := 20) S h dJ7_fill_53178_7 (by decide) (fun h => ?_) (fun h => ?_)
    · cases h
      exact mi_vretE S hr hlk hP hD hS dJ7_fill_53178_20
    · refine lv_aload_n S.1 S.2.1 dJ7_fill_53178_10 rfl (lv_at hl 0 rfl) ?_
      refine lv_iload_n S.1 S.2.1 dJ7_fill_53178_11 rfl (lv_at hl 2 rfl) ?_
      refine lv_iload_n S.1 S.2.1 dJ7_fill_53178_12 rfl (lv_at hl 1 rfl) ?_
      refine mi_iast S hK hP hD hS 0 rfl h dJ7_fill_53178_13 (fun f1 H locs h hP hD hS => ?_)
      have hP : va_P D vwCl [(a_p0, .inl (cA 0, n_p0, .inl f1))] H := hP
      have hD : va_D A [(a_p0, .inl (cA 0, n_p0, .inl f1))] := hD
      obtain ⟨t2, et2, h⟩ := mLet_use h
      refine lv_iinc (v := t2) (lv' := [(2, .int t2), (0, .ref a_p0), (1, .int x1), (3, .int x3)]) S.1 S.2.1 dJ7_fill_53178_14 hl (k := 2) rfl (by rw [et2]; rfl) (by decide) rfl (fun ls hl => ?_)
      clear et2
      refine lv_goto (tgt := 5) S.1 S.2.1 dJ7_fill_53178_17 (by decide) ?_
      exact ih f1 x1 t2 x3 h H locs ls hP hD hS (lv_sub hl [1, 2, 0, 3] rfl)
set_option maxHeartbeats 4000000 in
set_option maxRecDepth 100000 in
theorem w_J7_fill_53178_0 {p : Program} {l : Launch} {e : Env} {s : State} {m : MethodId} {args : Array Value} {below : List Frame} {meth : Method} {c : Code} {D : va_G} {cA : Nat → ClassId} {A : Nat → Prop} {r : (Nat → Int32)} (S : CallFix p m c cJ7_fill_53178 4 s args wsJ7_fill_53178 RJ7) (hr : meth.sig.returnType = none) (hlk : meth.locks = false) (hK : gK D cA s) (hA : ∀ q : Nat, s.heap.size ≤ q → A q) (a_p0 : Nat) (n_p0 : Nat) (f_p0 : Nat → Int32) (x1 : Int32) (h : m_J7_fill_53178 n_p0 f_p0 x1 = some r) : P_J7_fill_53178_0 p l e s m args below meth c D cA A r a_p0 n_p0 f_p0 x1 := by
  intro H locs ls hP hD hS hl
  unfold m_J7_fill_53178 at h
  refine lv_iconst (v := (0 : Int32)) S.1 S.2.1 dJ7_fill_53178_0 (by decide) ?_
  refine lv_istore_n (lv' := [(2, .int (0 : Int32)), (0, .ref a_p0), (1, .int x1)]) S.1 S.2.1 dJ7_fill_53178_1 rfl hl (by decide) rfl (fun ls hl => ?_)
  refine lv_aload_n S.1 S.2.1 dJ7_fill_53178_2 rfl (lv_at hl 1 rfl) ?_
  refine va_alen S.1 S.2.1 hK.1 hP 0 0 rfl rfl (v := (Int32.ofNat n_p0)) rfl dJ7_fill_53178_3 ?_
  refine mi_let h (fun t1 h => ?_)
  refine lv_istore_n (lv' := [(3, .int t1), (2, .int (0 : Int32)), (0, .ref a_p0), (1, .int x1)]) S.1 S.2.1 dJ7_fill_53178_4 rfl hl (by decide) rfl (fun ls hl => ?_)
  exact w_J7_fill_53178_5 S hr hlk hK hA a_p0 n_p0 mFU f_p0 x1 (0 : Int32) t1 h H locs ls hP hD hS (lv_sub hl [2, 3, 1, 0] rfl)
set_option maxHeartbeats 4000000 in
set_option maxRecDepth 100000 in
theorem c_J7_fill_53178 (l : Launch) (D : va_G) (cA : Nat → ClassId) (a_p0 : Nat) (n_p0 : Nat) (f_p0 : Nat → Int32) (x1 : Int32) {r : (Nat → Int32)} (h : m_J7_fill_53178 n_p0 f_p0 x1 = some r) : MEv l yJ7_fill_53178 wsJ7_fill_53178 { frames := 0, cells := 0, slots := 0, locals := 0 } D cA [.ref a_p0, .int x1] [(a_p0, .inl (cA 0, n_p0, .inl f_p0))] [(a_p0, .inl (cA 0, n_p0, .inl r))] := by
  refine mE_of (cc := cJ7_fill_53178) (maxL := 4) (ret := none) (Qc := fun A => va_Qv (fun (_ : Unit) => True) (gPost D A [(a_p0, .inl (cA 0, n_p0, .inl r))]) A) (by decide) rfl (Nat.le_of_ble_eq_true rfl) ?_
  intro p e s m below meth c A S hr hlk hK hA hP hD hS ls hl
  exact w_J7_fill_53178_0 S hr hlk hK hA a_p0 n_p0 f_p0 x1 h s.heap [] ls hP hD hS (lv_sub hl [0, 1] rfl)

-- J6_bitCount_0f7a4
theorem lc_J6_bitCount_0f7a4_265 : Cond.constant RJ6 265 (1431655765 : Int32) ∈ wsJ6_bitCount_0f7a4 := by decide +kernel
theorem lc_J6_bitCount_0f7a4_266 : Cond.constant RJ6 266 (858993459 : Int32) ∈ wsJ6_bitCount_0f7a4 := by decide +kernel
theorem lc_J6_bitCount_0f7a4_267 : Cond.constant RJ6 267 (252645135 : Int32) ∈ wsJ6_bitCount_0f7a4 := by decide +kernel
def m_J6_bitCount_0f7a4 (x0 : Int32) : Option (Int32) := mLet (x0 - ((x0.toUInt32 >>> ((1 : Int32).toUInt32 &&& Int32.toUInt32 31)).toInt32 &&& (1431655765 : Int32))) (fun (t1 : Int32) => mLet ((t1 &&& (858993459 : Int32)) + ((t1.toUInt32 >>> ((2 : Int32).toUInt32 &&& Int32.toUInt32 31)).toInt32 &&& (858993459 : Int32))) (fun (t2 : Int32) => mLet ((t2 + (t2.toUInt32 >>> ((4 : Int32).toUInt32 &&& Int32.toUInt32 31)).toInt32) &&& (252645135 : Int32)) (fun (t3 : Int32) => mLet (t3 + (t3.toUInt32 >>> ((8 : Int32).toUInt32 &&& Int32.toUInt32 31)).toInt32) (fun (t4 : Int32) => mLet (t4 + (t4.toUInt32 >>> ((16 : Int32).toUInt32 &&& Int32.toUInt32 31)).toInt32) (fun (t5 : Int32) => some (t5 &&& (63 : Int32)))))))
def P_J6_bitCount_0f7a4_0 (p : Program) (l : Launch) (e : Env) (s : State) (m : MethodId) (args : Array Value) (below : List Frame) (meth : Method) (c : Code) (D : va_G) (cA : Nat → ClassId) (r : Int32) (x0 : Int32) : Prop := va_P D vwCl [] s.heap → ∀ ls : Array Slot, lv_has ls 1 [(0, .int x0)] → W p l e { frames := 0, cells := 0, slots := 0, locals := 0 } s m args below meth c s.heap [] 0 0 (MQ below (vp_Si (fun y => y = r)) args s 0 0 (fun _ => False)) (F0 m 0 ls [])
set_option maxHeartbeats 4000000 in
set_option maxRecDepth 100000 in
theorem w_J6_bitCount_0f7a4_0 {p : Program} {l : Launch} {e : Env} {s : State} {m : MethodId} {args : Array Value} {below : List Frame} {meth : Method} {c : Code} {D : va_G} {cA : Nat → ClassId} {r : Int32} (S : CallFix p m c cJ6_bitCount_0f7a4 1 s args wsJ6_bitCount_0f7a4 RJ6) (hr : meth.sig.returnType = some .int) (hlk : meth.locks = false) (hK : gK D cA s) (x0 : Int32) (h : m_J6_bitCount_0f7a4 x0 = some r) : P_J6_bitCount_0f7a4_0 p l e s m args below meth c D cA r x0 := by
  intro hP ls hl
  unfold m_J6_bitCount_0f7a4 at h
  refine lv_iload_n S.1 S.2.1 dJ6_bitCount_0f7a4_0 rfl (lv_at hl 0 rfl) ?_
  refine lv_iload_n S.1 S.2.1 dJ6_bitCount_0f7a4_1 rfl (lv_at hl 0 rfl) ?_
  refine lv_iconst (v := (1 : Int32)) S.1 S.2.1 dJ6_bitCount_0f7a4_2 (by decide) ?_
  refine lv_iushr S.1 S.2.1 dJ6_bitCount_0f7a4_3 rfl ?_
  refine lv_ldcw S.1 S.2.1 S.2.2.2.1 (S.2.2.2.2 _ lc_J6_bitCount_0f7a4_265) dJ6_bitCount_0f7a4_4 ?_
  refine lv_iand S.1 S.2.1 dJ6_bitCount_0f7a4_7 ?_
  refine lv_isub S.1 S.2.1 dJ6_bitCount_0f7a4_8 ?_
  refine mi_let h (fun t1 h => ?_)
  refine lv_istore_n (lv' := [(0, .int t1)]) S.1 S.2.1 dJ6_bitCount_0f7a4_9 rfl hl (by decide) rfl (fun ls hl => ?_)
  refine lv_iload_n S.1 S.2.1 dJ6_bitCount_0f7a4_10 rfl (lv_at hl 0 rfl) ?_
  refine lv_ldcw S.1 S.2.1 S.2.2.2.1 (S.2.2.2.2 _ lc_J6_bitCount_0f7a4_266) dJ6_bitCount_0f7a4_11 ?_
  refine lv_iand S.1 S.2.1 dJ6_bitCount_0f7a4_14 ?_
  refine lv_iload_n S.1 S.2.1 dJ6_bitCount_0f7a4_15 rfl (lv_at hl 0 rfl) ?_
  refine lv_iconst (v := (2 : Int32)) S.1 S.2.1 dJ6_bitCount_0f7a4_16 (by decide) ?_
  refine lv_iushr S.1 S.2.1 dJ6_bitCount_0f7a4_17 rfl ?_
  refine lv_ldcw S.1 S.2.1 S.2.2.2.1 (S.2.2.2.2 _ lc_J6_bitCount_0f7a4_266) dJ6_bitCount_0f7a4_18 ?_
  refine lv_iand S.1 S.2.1 dJ6_bitCount_0f7a4_21 ?_
  refine lv_iadd S.1 S.2.1 dJ6_bitCount_0f7a4_22 ?_
  refine mi_let h (fun t2 h => ?_)
  refine lv_istore_n (lv' := [(0, .int t2)]) S.1 S.2.1 dJ6_bitCount_0f7a4_23 rfl hl (by decide) rfl (fun ls hl => ?_)
  refine lv_iload_n S.1 S.2.1 dJ6_bitCount_0f7a4_24 rfl (lv_at hl 0 rfl) ?_
  refine lv_iload_n S.1 S.2.1 dJ6_bitCount_0f7a4_25 rfl (lv_at hl 0 rfl) ?_
  refine lv_iconst (v := (4 : Int32)) S.1 S.2.1 dJ6_bitCount_0f7a4_26 (by decide) ?_
  refine lv_iushr S.1 S.2.1 dJ6_bitCount_0f7a4_27 rfl ?_
  refine lv_iadd S.1 S.2.1 dJ6_bitCount_0f7a4_28 ?_
  refine lv_ldcw S.1 S.2.1 S.2.2.2.1 (S.2.2.2.2 _ lc_J6_bitCount_0f7a4_267) dJ6_bitCount_0f7a4_29 ?_
  refine lv_iand S.1 S.2.1 dJ6_bitCount_0f7a4_32 ?_
  refine mi_let h (fun t3 h => ?_)
  refine lv_istore_n (lv' := [(0, .int t3)]) S.1 S.2.1 dJ6_bitCount_0f7a4_33 rfl hl (by decide) rfl (fun ls hl => ?_)
  refine lv_iload_n S.1 S.2.1 dJ6_bitCount_0f7a4_34 rfl (lv_at hl 0 rfl) ?_
  refine lv_iload_n S.1 S.2.1 dJ6_bitCount_0f7a4_35 rfl (lv_at hl 0 rfl) ?_
  refine lv_bipush (v := (8 : Int32)) S.1 S.2.1 dJ6_bitCount_0f7a4_36 (by decide) ?_
  refine lv_iushr S.1 S.2.1 dJ6_bitCount_0f7a4_38 rfl ?_
  refine lv_iadd S.1 S.2.1 dJ6_bitCount_0f7a4_39 ?_
  refine mi_let h (fun t4 h => ?_)
  refine lv_istore_n (lv' := [(0, .int t4)]) S.1 S.2.1 dJ6_bitCount_0f7a4_40 rfl hl (by decide) rfl (fun ls hl => ?_)
  refine lv_iload_n S.1 S.2.1 dJ6_bitCount_0f7a4_41 rfl (lv_at hl 0 rfl) ?_
  refine lv_iload_n S.1 S.2.1 dJ6_bitCount_0f7a4_42 rfl (lv_at hl 0 rfl) ?_
  refine lv_bipush (v := (16 : Int32)) S.1 S.2.1 dJ6_bitCount_0f7a4_43 (by decide) ?_
  refine lv_iushr S.1 S.2.1 dJ6_bitCount_0f7a4_45 rfl ?_
  refine lv_iadd S.1 S.2.1 dJ6_bitCount_0f7a4_46 ?_
  refine mi_let h (fun t5 h => ?_)
  refine lv_istore_n (lv' := [(0, .int t5)]) S.1 S.2.1 dJ6_bitCount_0f7a4_47 rfl hl (by decide) rfl (fun ls hl => ?_)
  refine lv_iload_n S.1 S.2.1 dJ6_bitCount_0f7a4_48 rfl (lv_at hl 0 rfl) ?_
  refine lv_bipush (v := (63 : Int32)) S.1 S.2.1 dJ6_bitCount_0f7a4_49 (by decide) ?_
  refine lv_iand S.1 S.2.1 dJ6_bitCount_0f7a4_51 ?_
  cases h
  exact mi_iretP S hr hlk rfl dJ6_bitCount_0f7a4_52
set_option maxHeartbeats 4000000 in
set_option maxRecDepth 100000 in
theorem c_J6_bitCount_0f7a4 (l : Launch) (D : va_G) (cA : Nat → ClassId) (x0 : Int32) {r : Int32} (h : m_J6_bitCount_0f7a4 x0 = some r) : MPi l yJ6_bitCount_0f7a4 wsJ6_bitCount_0f7a4 { frames := 0, cells := 0, slots := 0, locals := 0 } D cA [.int x0] [] r := by
  refine mP_of (cc := cJ6_bitCount_0f7a4) (maxL := 1) (ret := (some .int)) (by decide) rfl (Nat.le_of_ble_eq_true rfl) ?_
  intro p e s m below meth c S hr hlk hK hP ls hl
  exact w_J6_bitCount_0f7a4_0 S hr hlk hK x0 h hP ls (lv_sub hl [0] rfl)

-- X9_isFull
theorem in_X9_isFull_X9 : ∀ w ∈ u_ws RX9 TX9 3, w ∈ wsX9_isFull := by decide +kernel
theorem lk_X9_isFull_25 : Cond.fieldLink RX9 25 (TX9 2).1 (TX9 2).2.1 (TX9 2).2.2.1 ∈ wsX9_isFull := by decide +kernel
theorem lk_X9_isFull_21 : Cond.fieldLink RX9 21 (TX9 1).1 (TX9 1).2.1 (TX9 1).2.2.1 ∈ wsX9_isFull := by decide +kernel
def m_X9_isFull (v_this_limit : Int32) (v_this_size : Int32) : Option (Int32) := if v_this_size < v_this_limit then some (0 : Int32) else some (1 : Int32)
def P_X9_isFull_0 (p : Program) (l : Launch) (e : Env) (s : State) (m : MethodId) (args : Array Value) (below : List Frame) (meth : Method) (c : Code) (D : va_G) (cA : Nat → ClassId) (r : Int32) (a_this a_cells : Nat) (v_this_limit : Int32) (v_this_size : Int32) : Prop := va_P D vwCl [(a_this, .inr (9, [.ref a_cells, .int v_this_limit, .int v_this_size]))] s.heap → ∀ ls : Array Slot, lv_has ls 1 [(0, .ref a_this)] → W p l e { frames := 0, cells := 0, slots := 0, locals := 0 } s m args below meth c s.heap [] 0 0 (MQ below (vp_Si (fun y => y = r)) args s 0 0 (fun _ => False)) (F0 m 0 ls [])
set_option maxHeartbeats 4000000 in
set_option maxRecDepth 100000 in
theorem w_X9_isFull_0 {p : Program} {l : Launch} {e : Env} {s : State} {m : MethodId} {args : Array Value} {below : List Frame} {meth : Method} {c : Code} {D : va_G} {cA : Nat → ClassId} {r : Int32} (S : CallFix p m c cX9_isFull 1 s args wsX9_isFull RX9) (hr : meth.sig.returnType = some .boolean) (hlk : meth.locks = false) (hK : gK D cA s) (a_this a_cells : Nat) (v_this_limit : Int32) (v_this_size : Int32) (h : m_X9_isFull v_this_limit v_this_size = some r) : P_X9_isFull_0 p l e s m args below meth c D cA r a_this a_cells v_this_limit v_this_size := by
  intro hP ls hl
  unfold m_X9_isFull at h
  refine lv_aload_n S.1 S.2.1 dX9_isFull_0 rfl (lv_at hl 0 rfl) ?_
  refine mi_get S hK hP in_X9_isFull_X9 0 rfl rfl 2 (by decide) lk_X9_isFull_25 rfl dX9_isFull_1 ?_
  refine lv_aload_n S.1 S.2.1 dX9_isFull_4 rfl (lv_at hl 0 rfl) ?_
  refine mi_get S hK hP in_X9_isFull_X9 0 rfl rfl 1 (by decide) lk_X9_isFull_21 rfl dX9_isFull_5 ?_
  refine mi_icmp_lt (tgt := 15) S h dX9_isFull_8 (by decide) (fun h => ?_) (fun h => ?_)
  · refine lv_iconst (v := (0 : Int32)) S.1 S.2.1 dX9_isFull_15 (by decide) ?_
    cases h
    exact mi_zretP S hr hlk rfl (by decide) dX9_isFull_16
  · refine lv_iconst (v := (1 : Int32)) S.1 S.2.1 dX9_isFull_11 (by decide) ?_
    refine lv_goto (tgt := 16) S.1 S.2.1 dX9_isFull_12 (by decide) ?_
    cases h
    exact mi_zretP S hr hlk rfl (by decide) dX9_isFull_16
set_option maxHeartbeats 4000000 in
set_option maxRecDepth 100000 in
theorem c_X9_isFull (l : Launch) (D : va_G) (cA : Nat → ClassId) (a_this a_cells : Nat) (v_this_limit : Int32) (v_this_size : Int32) {r : Int32} (h : m_X9_isFull v_this_limit v_this_size = some r) : MPi l yX9_isFull wsX9_isFull { frames := 0, cells := 0, slots := 0, locals := 0 } D cA [.ref a_this] [(a_this, .inr (9, [.ref a_cells, .int v_this_limit, .int v_this_size]))] r := by
  refine mP_of (cc := cX9_isFull) (maxL := 1) (ret := (some .boolean)) (by decide) rfl (Nat.le_of_ble_eq_true rfl) ?_
  intro p e s m below meth c S hr hlk hK hP ls hl
  exact w_X9_isFull_0 S hr hlk hK a_this a_cells v_this_limit v_this_size h hP ls (lv_sub hl [0] rfl)

-- X9_at
theorem in_X9_at_X9 : ∀ w ∈ u_ws RX9 TX9 3, w ∈ wsX9_at := by decide +kernel
theorem lk_X9_at_25 : Cond.fieldLink RX9 25 (TX9 2).1 (TX9 2).2.1 (TX9 2).2.2.1 ∈ wsX9_at := by decide +kernel
theorem lk_X9_at_11 : Cond.fieldLink RX9 11 (TX9 0).1 (TX9 0).2.1 (TX9 0).2.2.1 ∈ wsX9_at := by decide +kernel
def m_X9_at (v_this_size : Int32) (f_cells : Nat → Int32) (x1 : Int32) (x2 : Int32) : Option (Int32) := if x1 < 0 then some (-1 : Int32) else if v_this_size ≤ x1 then some (-1 : Int32) else if (10 : Int32) ≤ x1 then some (-1 : Int32) else if x2 < 0 then some (-1 : Int32) else if x2 < (3 : Int32) then mRd f_cells 30 ((x1 * (3 : Int32)) + x2) (fun (t1 : Int32) => some t1) else some (-1 : Int32)
def P_X9_at_0 (p : Program) (l : Launch) (e : Env) (s : State) (m : MethodId) (args : Array Value) (below : List Frame) (meth : Method) (c : Code) (D : va_G) (cA : Nat → ClassId) (r : Int32) (a_this a_cells : Nat) (v_this_limit : Int32) (v_this_size : Int32) (f_cells : Nat → Int32) (x1 : Int32) (x2 : Int32) : Prop := va_P D vwCl [(a_this, .inr (9, [.ref a_cells, .int v_this_limit, .int v_this_size])), (a_cells, .inl (cA 0, 30, .inl f_cells))] s.heap → ∀ ls : Array Slot, lv_has ls 3 [(0, .ref a_this), (1, .int x1), (2, .int x2)] → W p l e { frames := 0, cells := 0, slots := 0, locals := 0 } s m args below meth c s.heap [] 0 0 (MQ below (vp_Si (fun y => y = r)) args s 0 0 (fun _ => False)) (F0 m 0 ls [])
set_option maxHeartbeats 4000000 in
set_option maxRecDepth 100000 in
theorem w_X9_at_0 {p : Program} {l : Launch} {e : Env} {s : State} {m : MethodId} {args : Array Value} {below : List Frame} {meth : Method} {c : Code} {D : va_G} {cA : Nat → ClassId} {r : Int32} (S : CallFix p m c cX9_at 3 s args wsX9_at RX9) (hr : meth.sig.returnType = some .int) (hlk : meth.locks = false) (hK : gK D cA s) (a_this a_cells : Nat) (v_this_limit : Int32) (v_this_size : Int32) (f_cells : Nat → Int32) (x1 : Int32) (x2 : Int32) (h : m_X9_at v_this_size f_cells x1 x2 = some r) : P_X9_at_0 p l e s m args below meth c D cA r a_this a_cells v_this_limit v_this_size f_cells x1 x2 := by
  intro hP ls hl
  unfold m_X9_at at h
  refine lv_iload_n S.1 S.2.1 dX9_at_0 rfl (lv_at hl 1 rfl) ?_
  refine mi_if_lt (tgt := 27) S h dX9_at_1 (by decide) (fun h => ?_) (fun h => ?_)
  · refine lv_iconst (v := (-1 : Int32)) S.1 S.2.1 dX9_at_27 (by decide) ?_
    cases h
    exact mi_iretP S hr hlk rfl dX9_at_28
  · refine lv_iload_n S.1 S.2.1 dX9_at_4 rfl (lv_at hl 1 rfl) ?_
    refine lv_aload_n S.1 S.2.1 dX9_at_5 rfl (lv_at hl 0 rfl) ?_
    refine mi_get S hK hP in_X9_at_X9 0 rfl rfl 2 (by decide) lk_X9_at_25 rfl dX9_at_6 ?_
    refine mi_icmp_ge (tgt := 27) S h dX9_at_9 (by decide) (fun h => ?_) (fun h => ?_)
    · refine lv_iconst (v := (-1 : Int32)) S.1 S.2.1 dX9_at_27 (by decide) ?_
      cases h
      exact mi_iretP S hr hlk rfl dX9_at_28
    · refine lv_iload_n S.1 S.2.1 dX9_at_12 rfl (lv_at hl 1 rfl) ?_
      refine lv_bipush (v := (10 : Int32)) S.1 S.2.1 dX9_at_13 (by decide) ?_
      refine mi_icmp_ge (tgt := 27) S h dX9_at_15 (by decide) (fun h => ?_) (fun h => ?_)
      · refine lv_iconst (v := (-1 : Int32)) S.1 S.2.1 dX9_at_27 (by decide) ?_
        cases h
        exact mi_iretP S hr hlk rfl dX9_at_28
      · refine lv_iload_n S.1 S.2.1 dX9_at_18 rfl (lv_at hl 2 rfl) ?_
        refine mi_if_lt (tgt := 27) S h dX9_at_19 (by decide) (fun h => ?_) (fun h => ?_)
        · refine lv_iconst (v := (-1 : Int32)) S.1 S.2.1 dX9_at_27 (by decide) ?_
          cases h
          exact mi_iretP S hr hlk rfl dX9_at_28
        · refine lv_iload_n S.1 S.2.1 dX9_at_22 rfl (lv_at hl 2 rfl) ?_
          refine lv_iconst (v := (3 : Int32)) S.1 S.2.1 dX9_at_23 (by decide) ?_
          refine mi_icmp_lt (tgt := 29) S h dX9_at_24 (by decide) (fun h => ?_) (fun h => ?_)
          · refine lv_aload_n S.1 S.2.1 dX9_at_29 rfl (lv_at hl 0 rfl) ?_
            refine mi_get S hK hP in_X9_at_X9 0 rfl rfl 0 (by decide) lk_X9_at_11 rfl dX9_at_30 ?_
            refine lv_iload_n S.1 S.2.1 dX9_at_33 rfl (lv_at hl 1 rfl) ?_
            refine lv_iconst (v := (3 : Int32)) S.1 S.2.1 dX9_at_34 (by decide) ?_
            refine lv_imul S.1 S.2.1 dX9_at_35 ?_
            refine lv_iload_n S.1 S.2.1 dX9_at_36 rfl (lv_at hl 2 rfl) ?_
            refine lv_iadd S.1 S.2.1 dX9_at_37 ?_
            refine mi_iald S hK hP 1 rfl h dX9_at_38 (fun t1 h => ?_)
            cases h
            exact mi_iretP S hr hlk rfl dX9_at_39
          · refine lv_iconst (v := (-1 : Int32)) S.1 S.2.1 dX9_at_27 (by decide) ?_
            cases h
            exact mi_iretP S hr hlk rfl dX9_at_28
set_option maxHeartbeats 4000000 in
set_option maxRecDepth 100000 in
theorem c_X9_at (l : Launch) (D : va_G) (cA : Nat → ClassId) (a_this a_cells : Nat) (v_this_limit : Int32) (v_this_size : Int32) (f_cells : Nat → Int32) (x1 : Int32) (x2 : Int32) {r : Int32} (h : m_X9_at v_this_size f_cells x1 x2 = some r) : MPi l yX9_at wsX9_at { frames := 0, cells := 0, slots := 0, locals := 0 } D cA [.ref a_this, .int x1, .int x2] [(a_this, .inr (9, [.ref a_cells, .int v_this_limit, .int v_this_size])), (a_cells, .inl (cA 0, 30, .inl f_cells))] r := by
  refine mP_of (cc := cX9_at) (maxL := 3) (ret := (some .int)) (by decide) rfl (Nat.le_of_ble_eq_true rfl) ?_
  intro p e s m below meth c S hr hlk hK hP ls hl
  exact w_X9_at_0 S hr hlk hK a_this a_cells v_this_limit v_this_size f_cells x1 x2 h hP ls (lv_sub hl [0, 1, 2] rfl)

-- X9_add
theorem in_X9_add_X9 : ∀ w ∈ u_ws RX9 TX9 3, w ∈ wsX9_add := by decide +kernel
theorem lk_X9_add_25 : Cond.fieldLink RX9 25 (TX9 2).1 (TX9 2).2.1 (TX9 2).2.2.1 ∈ wsX9_add := by decide +kernel
theorem lk_X9_add_11 : Cond.fieldLink RX9 11 (TX9 0).1 (TX9 0).2.1 (TX9 0).2.2.1 ∈ wsX9_add := by decide +kernel
def m_X9_add (v_this_limit : Int32) (v_this_size : Int32) (f_cells : Nat → Int32) (x1 : Int32) (x2 : Int32) (x3 : Int32) : Option (Int32 × (Int32) × (Nat → Int32)) := mCall (m_X9_isFull v_this_limit v_this_size) (fun (r1 : Int32) => if r1 = 0 then mLet (v_this_size * (3 : Int32)) (fun (t2 : Int32) => mWr f_cells 30 t2 x1 (fun (f3 : Nat → Int32) => mWr f3 30 (t2 + (1 : Int32)) x2 (fun (f4 : Nat → Int32) => mWr f4 30 (t2 + (2 : Int32)) x3 (fun (f5 : Nat → Int32) => mLet (v_this_size + (1 : Int32)) (fun (t6 : Int32) => some (t6, t6, f5)))))) else some ((-4 : Int32), v_this_size, f_cells))
def P_X9_add_0 (p : Program) (l : Launch) (e : Env) (s : State) (m : MethodId) (args : Array Value) (below : List Frame) (meth : Method) (c : Code) (D : va_G) (cA : Nat → ClassId) (A : Nat → Prop) (r : Int32 × (Int32) × (Nat → Int32)) (a_this a_cells : Nat) (v_this_limit : Int32) (v_this_size : Int32) (f_cells : Nat → Int32) (x1 : Int32) (x2 : Int32) (x3 : Int32) : Prop := ∀ (H : Heap) (locs : List Loc) (ls : Array Slot), va_P D vwCl [(a_this, .inr (9, [.ref a_cells, .int v_this_limit, .int v_this_size])), (a_cells, .inl (cA 0, 30, .inl f_cells))] H → va_D A [(a_this, .inr (9, [.ref a_cells, .int v_this_limit, .int v_this_size])), (a_cells, .inl (cA 0, 30, .inl f_cells))] → va_S A s.heap H locs → lv_has ls 5 [(0, .ref a_this), (1, .int x1), (2, .int x2), (3, .int x3)] → W p l e { frames := 1, cells := 0, slots := 0, locals := 20 } s m args below meth c H locs 0 0 (MQ below (va_Qi (fun (y : Int32) (_ : Unit) => y = r.1) (gPost D A [(a_this, .inr (9, [.ref a_cells, .int v_this_limit, .int r.2.1])), (a_cells, .inl (cA 0, 30, .inl r.2.2))]) A) args s 0 0 A) (F0 m 0 ls [])
set_option maxHeartbeats 4000000 in
set_option maxRecDepth 100000 in
theorem w_X9_add_0 {p : Program} {l : Launch} {e : Env} {s : State} {m : MethodId} {args : Array Value} {below : List Frame} {meth : Method} {c : Code} {D : va_G} {cA : Nat → ClassId} {A : Nat → Prop} {r : Int32 × (Int32) × (Nat → Int32)} (S : CallFix p m c cX9_add 5 s args wsX9_add RX9) (hr : meth.sig.returnType = some .int) (hlk : meth.locks = false) (hK : gK D cA s) (hA : ∀ q : Nat, s.heap.size ≤ q → A q) (a_this a_cells : Nat) (v_this_limit : Int32) (v_this_size : Int32) (f_cells : Nat → Int32) (x1 : Int32) (x2 : Int32) (x3 : Int32) (h : m_X9_add v_this_limit v_this_size f_cells x1 x2 x3 = some r) : P_X9_add_0 p l e s m args below meth c D cA A r a_this a_cells v_this_limit v_this_size f_cells x1 x2 x3 := by
  intro H locs ls hP hD hS hl
  unfold m_X9_add at h
  refine lv_aload_n S.1 S.2.1 dX9_add_0 rfl (lv_at hl 0 rfl) ?_
  obtain ⟨r1, hr1, h⟩ := mCall_use h
  refine mc_Pi (va_runV (As := []) (rest := []) S (c_X9_isFull l D cA a_this a_cells v_this_limit v_this_size hr1) (cwV 0 S.2.2.2.2 gX9_add_X9_isFull rfl rfl rfl (by decide +kernel) ⟨Nat.le_of_ble_eq_true rfl, Nat.le_of_ble_eq_true rfl⟩) (pre_PV hK hP [0] rfl (ci := 9) (q0 := 0) rfl rfl) rfl rfl hl.1 rfl (lv_room (Nat.le_of_ble_eq_true rfl)) dX9_add_1 ⟨Nat.le_of_ble_eq_true rfl, Nat.le_of_ble_eq_true rfl⟩) ?_
  refine mi_if_eq (tgt := 10) S h dX9_add_4 (by decide) (fun h => ?_) (fun h => ?_)
  · refine lv_aload_n S.1 S.2.1 dX9_add_10 rfl (lv_at hl 0 rfl) ?_
    refine mi_get S hK hP in_X9_add_X9 0 rfl rfl 2 (by decide) lk_X9_add_25 rfl dX9_add_11 ?_
    refine lv_iconst (v := (3 : Int32)) S.1 S.2.1 dX9_add_14 (by decide) ?_
    refine lv_imul S.1 S.2.1 dX9_add_15 ?_
    refine mi_let h (fun t2 h => ?_)
    refine lv_istore (lv' := [(4, .int t2), (0, .ref a_this), (1, .int x1), (2, .int x2), (3, .int x3)]) S.1 S.2.1 dX9_add_16 hl (by decide) rfl (fun ls hl => ?_)
    refine lv_aload_n S.1 S.2.1 dX9_add_18 rfl (lv_at hl 1 rfl) ?_
    refine mi_get S hK hP in_X9_add_X9 0 rfl rfl 0 (by decide) lk_X9_add_11 rfl dX9_add_19 ?_
    refine lv_iload S.1 S.2.1 dX9_add_22 (lv_at hl 0 rfl) ?_
    refine lv_iload_n S.1 S.2.1 dX9_add_24 rfl (lv_at hl 2 rfl) ?_
    refine mi_iast S hK hP hD hS 1 rfl h dX9_add_25 (fun f3 H locs h hP hD hS => ?_)
    have hP : va_P D vwCl [(a_this, .inr (9, [.ref a_cells, .int v_this_limit, .int v_this_size])), (a_cells, .inl (cA 0, 30, .inl f3))] H := hP
    have hD : va_D A [(a_this, .inr (9, [.ref a_cells, .int v_this_limit, .int v_this_size])), (a_cells, .inl (cA 0, 30, .inl f3))] := hD
    refine lv_aload_n S.1 S.2.1 dX9_add_26 rfl (lv_at hl 1 rfl) ?_
    refine mi_get S hK hP in_X9_add_X9 0 rfl rfl 0 (by decide) lk_X9_add_11 rfl dX9_add_27 ?_
    refine lv_iload S.1 S.2.1 dX9_add_30 (lv_at hl 0 rfl) ?_
    refine lv_iconst (v := (1 : Int32)) S.1 S.2.1 dX9_add_32 (by decide) ?_
    refine lv_iadd S.1 S.2.1 dX9_add_33 ?_
    refine lv_iload_n S.1 S.2.1 dX9_add_34 rfl (lv_at hl 3 rfl) ?_
    refine mi_iast S hK hP hD hS 1 rfl h dX9_add_35 (fun f4 H locs h hP hD hS => ?_)
    have hP : va_P D vwCl [(a_this, .inr (9, [.ref a_cells, .int v_this_limit, .int v_this_size])), (a_cells, .inl (cA 0, 30, .inl f4))] H := hP
    have hD : va_D A [(a_this, .inr (9, [.ref a_cells, .int v_this_limit, .int v_this_size])), (a_cells, .inl (cA 0, 30, .inl f4))] := hD
    refine lv_aload_n S.1 S.2.1 dX9_add_36 rfl (lv_at hl 1 rfl) ?_
    refine mi_get S hK hP in_X9_add_X9 0 rfl rfl 0 (by decide) lk_X9_add_11 rfl dX9_add_37 ?_
    refine lv_iload S.1 S.2.1 dX9_add_40 (lv_at hl 0 rfl) ?_
    refine lv_iconst (v := (2 : Int32)) S.1 S.2.1 dX9_add_42 (by decide) ?_
    refine lv_iadd S.1 S.2.1 dX9_add_43 ?_
    refine lv_iload_n S.1 S.2.1 dX9_add_44 rfl (lv_at hl 4 rfl) ?_
    refine mi_iast S hK hP hD hS 1 rfl h dX9_add_45 (fun f5 H locs h hP hD hS => ?_)
    have hP : va_P D vwCl [(a_this, .inr (9, [.ref a_cells, .int v_this_limit, .int v_this_size])), (a_cells, .inl (cA 0, 30, .inl f5))] H := hP
    have hD : va_D A [(a_this, .inr (9, [.ref a_cells, .int v_this_limit, .int v_this_size])), (a_cells, .inl (cA 0, 30, .inl f5))] := hD
    refine lv_aload_n S.1 S.2.1 dX9_add_46 rfl (lv_at hl 1 rfl) ?_
    refine lv_dup S.1 S.2.1 dX9_add_47 rfl ?_
    refine mi_get S hK hP in_X9_add_X9 0 rfl rfl 2 (by decide) lk_X9_add_25 rfl dX9_add_48 ?_
    refine lv_iconst (v := (1 : Int32)) S.1 S.2.1 dX9_add_51 (by decide) ?_
    refine lv_iadd S.1 S.2.1 dX9_add_52 ?_
    refine mi_let h (fun t6 h => ?_)
    refine mi_put S hK hP hD hS in_X9_add_X9 tyX9_ok nmX9 0 rfl rfl 2 (by decide) lk_X9_add_25 rfl (v := .int t6) rfl rfl (Nat.le_of_ble_eq_true rfl) dX9_add_53 (fun H locs hP hD hS => ?_)
    have hP : va_P D vwCl [(a_this, .inr (9, [.ref a_cells, .int v_this_limit, .int t6])), (a_cells, .inl (cA 0, 30, .inl f5))] H := hP
    have hD : va_D A [(a_this, .inr (9, [.ref a_cells, .int v_this_limit, .int t6])), (a_cells, .inl (cA 0, 30, .inl f5))] := hD
    refine lv_aload_n S.1 S.2.1 dX9_add_56 rfl (lv_at hl 1 rfl) ?_
    refine mi_get S hK hP in_X9_add_X9 0 rfl rfl 2 (by decide) lk_X9_add_25 rfl dX9_add_57 ?_
    cases h
    exact mi_iretE S hr hlk rfl hP hD hS dX9_add_60
  · refine lv_bipush (v := (-4 : Int32)) S.1 S.2.1 dX9_add_7 (by decide) ?_
    cases h
    exact mi_iretE S hr hlk rfl hP hD hS dX9_add_9
set_option maxHeartbeats 4000000 in
set_option maxRecDepth 100000 in
theorem c_X9_add (l : Launch) (D : va_G) (cA : Nat → ClassId) (a_this a_cells : Nat) (v_this_limit : Int32) (v_this_size : Int32) (f_cells : Nat → Int32) (x1 : Int32) (x2 : Int32) (x3 : Int32) {r : Int32 × (Int32) × (Nat → Int32)} (h : m_X9_add v_this_limit v_this_size f_cells x1 x2 x3 = some r) : MEi l yX9_add wsX9_add { frames := 1, cells := 0, slots := 0, locals := 20 } D cA [.ref a_this, .int x1, .int x2, .int x3] [(a_this, .inr (9, [.ref a_cells, .int v_this_limit, .int v_this_size])), (a_cells, .inl (cA 0, 30, .inl f_cells))] [(a_this, .inr (9, [.ref a_cells, .int v_this_limit, .int r.2.1])), (a_cells, .inl (cA 0, 30, .inl r.2.2))] r.1 := by
  refine mE_of (cc := cX9_add) (maxL := 5) (ret := (some .int)) (Qc := fun A => va_Qi (fun (y : Int32) (_ : Unit) => y = r.1) (gPost D A [(a_this, .inr (9, [.ref a_cells, .int v_this_limit, .int r.2.1])), (a_cells, .inl (cA 0, 30, .inl r.2.2))]) A) (by decide) rfl (Nat.le_of_ble_eq_true rfl) ?_
  intro p e s m below meth c A S hr hlk hK hA hP hD hS ls hl
  exact w_X9_add_0 S hr hlk hK hA a_this a_cells v_this_limit v_this_size f_cells x1 x2 x3 h s.heap [] ls hP hD hS (lv_sub hl [0, 1, 2, 3] rfl)

-- X9_dropLast
theorem in_X9_dropLast_X9 : ∀ w ∈ u_ws RX9 TX9 3, w ∈ wsX9_dropLast := by decide +kernel
theorem lk_X9_dropLast_25 : Cond.fieldLink RX9 25 (TX9 2).1 (TX9 2).2.1 (TX9 2).2.2.1 ∈ wsX9_dropLast := by decide +kernel
def m_X9_dropLast (v_this_size : Int32) : Option ((Int32)) := if v_this_size ≤ 0 then some v_this_size else mLet (v_this_size - (1 : Int32)) (fun (t1 : Int32) => some t1)
def P_X9_dropLast_0 (p : Program) (l : Launch) (e : Env) (s : State) (m : MethodId) (args : Array Value) (below : List Frame) (meth : Method) (c : Code) (D : va_G) (cA : Nat → ClassId) (A : Nat → Prop) (r : (Int32)) (a_this a_cells : Nat) (v_this_limit : Int32) (v_this_size : Int32) : Prop := ∀ (H : Heap) (locs : List Loc) (ls : Array Slot), va_P D vwCl [(a_this, .inr (9, [.ref a_cells, .int v_this_limit, .int v_this_size]))] H → va_D A [(a_this, .inr (9, [.ref a_cells, .int v_this_limit, .int v_this_size]))] → va_S A s.heap H locs → lv_has ls 1 [(0, .ref a_this)] → W p l e { frames := 0, cells := 0, slots := 0, locals := 0 } s m args below meth c H locs 0 0 (MQ below (va_Qv (fun (_ : Unit) => True) (gPost D A [(a_this, .inr (9, [.ref a_cells, .int v_this_limit, .int r]))]) A) args s 0 0 A) (F0 m 0 ls [])
set_option maxHeartbeats 4000000 in
set_option maxRecDepth 100000 in
theorem w_X9_dropLast_0 {p : Program} {l : Launch} {e : Env} {s : State} {m : MethodId} {args : Array Value} {below : List Frame} {meth : Method} {c : Code} {D : va_G} {cA : Nat → ClassId} {A : Nat → Prop} {r : (Int32)} (S : CallFix p m c cX9_dropLast 1 s args wsX9_dropLast RX9) (hr : meth.sig.returnType = none) (hlk : meth.locks = false) (hK : gK D cA s) (hA : ∀ q : Nat, s.heap.size ≤ q → A q) (a_this a_cells : Nat) (v_this_limit : Int32) (v_this_size : Int32) (h : m_X9_dropLast v_this_size = some r) : P_X9_dropLast_0 p l e s m args below meth c D cA A r a_this a_cells v_this_limit v_this_size := by
  intro H locs ls hP hD hS hl
  unfold m_X9_dropLast at h
  refine lv_aload_n S.1 S.2.1 dX9_dropLast_0 rfl (lv_at hl 0 rfl) ?_
  refine mi_get S hK hP in_X9_dropLast_X9 0 rfl rfl 2 (by decide) lk_X9_dropLast_25 rfl dX9_dropLast_1 ?_
  refine mi_if_le (tgt := 17) S h dX9_dropLast_4 (by decide) (fun h => ?_) (fun h => ?_)
  · cases h
    exact mi_vretE S hr hlk hP hD hS dX9_dropLast_17
  · refine lv_aload_n S.1 S.2.1 dX9_dropLast_7 rfl (lv_at hl 0 rfl) ?_
    refine lv_dup S.1 S.2.1 dX9_dropLast_8 rfl ?_
    refine mi_get S hK hP in_X9_dropLast_X9 0 rfl rfl 2 (by decide) lk_X9_dropLast_25 rfl dX9_dropLast_9 ?_
    refine lv_iconst (v := (1 : Int32)) S.1 S.2.1 dX9_dropLast_12 (by decide) ?_
    refine lv_isub S.1 S.2.1 dX9_dropLast_13 ?_
    refine mi_let h (fun t1 h => ?_)
    refine mi_put S hK hP hD hS in_X9_dropLast_X9 tyX9_ok nmX9 0 rfl rfl 2 (by decide) lk_X9_dropLast_25 rfl (v := .int t1) rfl rfl (Nat.le_of_ble_eq_true rfl) dX9_dropLast_14 (fun H locs hP hD hS => ?_)
    have hP : va_P D vwCl [(a_this, .inr (9, [.ref a_cells, .int v_this_limit, .int t1]))] H := hP
    have hD : va_D A [(a_this, .inr (9, [.ref a_cells, .int v_this_limit, .int t1]))] := hD
    cases h
    exact mi_vretE S hr hlk hP hD hS dX9_dropLast_17
set_option maxHeartbeats 4000000 in
set_option maxRecDepth 100000 in
theorem c_X9_dropLast (l : Launch) (D : va_G) (cA : Nat → ClassId) (a_this a_cells : Nat) (v_this_limit : Int32) (v_this_size : Int32) {r : (Int32)} (h : m_X9_dropLast v_this_size = some r) : MEv l yX9_dropLast wsX9_dropLast { frames := 0, cells := 0, slots := 0, locals := 0 } D cA [.ref a_this] [(a_this, .inr (9, [.ref a_cells, .int v_this_limit, .int v_this_size]))] [(a_this, .inr (9, [.ref a_cells, .int v_this_limit, .int r]))] := by
  refine mE_of (cc := cX9_dropLast) (maxL := 1) (ret := none) (Qc := fun A => va_Qv (fun (_ : Unit) => True) (gPost D A [(a_this, .inr (9, [.ref a_cells, .int v_this_limit, .int r]))]) A) (by decide) rfl (Nat.le_of_ble_eq_true rfl) ?_
  intro p e s m below meth c A S hr hlk hK hA hP hD hS ls hl
  exact w_X9_dropLast_0 S hr hlk hK hA a_this a_cells v_this_limit v_this_size h s.heap [] ls hP hD hS (lv_sub hl [0] rfl)

-- X9_empty
theorem in_X9_empty_X9 : ∀ w ∈ u_ws RX9 TX9 3, w ∈ wsX9_empty := by decide +kernel
theorem lk_X9_empty_25 : Cond.fieldLink RX9 25 (TX9 2).1 (TX9 2).2.1 (TX9 2).2.2.1 ∈ wsX9_empty := by decide +kernel
def m_X9_empty (v_this_size : Int32) : Option (Int32 × (Int32)) := some (v_this_size, (0 : Int32))
def P_X9_empty_0 (p : Program) (l : Launch) (e : Env) (s : State) (m : MethodId) (args : Array Value) (below : List Frame) (meth : Method) (c : Code) (D : va_G) (cA : Nat → ClassId) (A : Nat → Prop) (r : Int32 × (Int32)) (a_this a_cells : Nat) (v_this_limit : Int32) (v_this_size : Int32) : Prop := ∀ (H : Heap) (locs : List Loc) (ls : Array Slot), va_P D vwCl [(a_this, .inr (9, [.ref a_cells, .int v_this_limit, .int v_this_size]))] H → va_D A [(a_this, .inr (9, [.ref a_cells, .int v_this_limit, .int v_this_size]))] → va_S A s.heap H locs → lv_has ls 2 [(0, .ref a_this)] → W p l e { frames := 0, cells := 0, slots := 0, locals := 0 } s m args below meth c H locs 0 0 (MQ below (va_Qi (fun (y : Int32) (_ : Unit) => y = r.1) (gPost D A [(a_this, .inr (9, [.ref a_cells, .int v_this_limit, .int r.2]))]) A) args s 0 0 A) (F0 m 0 ls [])
set_option maxHeartbeats 4000000 in
set_option maxRecDepth 100000 in
theorem w_X9_empty_0 {p : Program} {l : Launch} {e : Env} {s : State} {m : MethodId} {args : Array Value} {below : List Frame} {meth : Method} {c : Code} {D : va_G} {cA : Nat → ClassId} {A : Nat → Prop} {r : Int32 × (Int32)} (S : CallFix p m c cX9_empty 2 s args wsX9_empty RX9) (hr : meth.sig.returnType = some .int) (hlk : meth.locks = false) (hK : gK D cA s) (hA : ∀ q : Nat, s.heap.size ≤ q → A q) (a_this a_cells : Nat) (v_this_limit : Int32) (v_this_size : Int32) (h : m_X9_empty v_this_size = some r) : P_X9_empty_0 p l e s m args below meth c D cA A r a_this a_cells v_this_limit v_this_size := by
  intro H locs ls hP hD hS hl
  unfold m_X9_empty at h
  refine lv_aload_n S.1 S.2.1 dX9_empty_0 rfl (lv_at hl 0 rfl) ?_
  refine mi_get S hK hP in_X9_empty_X9 0 rfl rfl 2 (by decide) lk_X9_empty_25 rfl dX9_empty_1 ?_
  refine lv_istore_n (lv' := [(1, .int v_this_size), (0, .ref a_this)]) S.1 S.2.1 dX9_empty_4 rfl hl (by decide) rfl (fun ls hl => ?_)
  refine lv_aload_n S.1 S.2.1 dX9_empty_5 rfl (lv_at hl 1 rfl) ?_
  refine lv_iconst (v := (0 : Int32)) S.1 S.2.1 dX9_empty_6 (by decide) ?_
  refine mi_put S hK hP hD hS in_X9_empty_X9 tyX9_ok nmX9 0 rfl rfl 2 (by decide) lk_X9_empty_25 rfl (v := .int (0 : Int32)) rfl rfl (Nat.le_of_ble_eq_true rfl) dX9_empty_7 (fun H locs hP hD hS => ?_)
  have hP : va_P D vwCl [(a_this, .inr (9, [.ref a_cells, .int v_this_limit, .int (0 : Int32)]))] H := hP
  have hD : va_D A [(a_this, .inr (9, [.ref a_cells, .int v_this_limit, .int (0 : Int32)]))] := hD
  refine lv_iload_n S.1 S.2.1 dX9_empty_10 rfl (lv_at hl 0 rfl) ?_
  cases h
  exact mi_iretE S hr hlk rfl hP hD hS dX9_empty_11
set_option maxHeartbeats 4000000 in
set_option maxRecDepth 100000 in
theorem c_X9_empty (l : Launch) (D : va_G) (cA : Nat → ClassId) (a_this a_cells : Nat) (v_this_limit : Int32) (v_this_size : Int32) {r : Int32 × (Int32)} (h : m_X9_empty v_this_size = some r) : MEi l yX9_empty wsX9_empty { frames := 0, cells := 0, slots := 0, locals := 0 } D cA [.ref a_this] [(a_this, .inr (9, [.ref a_cells, .int v_this_limit, .int v_this_size]))] [(a_this, .inr (9, [.ref a_cells, .int v_this_limit, .int r.2]))] r.1 := by
  refine mE_of (cc := cX9_empty) (maxL := 2) (ret := (some .int)) (Qc := fun A => va_Qi (fun (y : Int32) (_ : Unit) => y = r.1) (gPost D A [(a_this, .inr (9, [.ref a_cells, .int v_this_limit, .int r.2]))]) A) (by decide) rfl (Nat.le_of_ble_eq_true rfl) ?_
  intro p e s m below meth c A S hr hlk hK hA hP hD hS ls hl
  exact w_X9_empty_0 S hr hlk hK hA a_this a_cells v_this_limit v_this_size h s.heap [] ls hP hD hS (lv_sub hl [0] rfl)

-- X9_copyRows
theorem in_X9_copyRows_X9 : ∀ w ∈ u_ws RX9 TX9 3, w ∈ wsX9_copyRows := by decide +kernel
theorem lk_X9_copyRows_11 : Cond.fieldLink RX9 11 (TX9 0).1 (TX9 0).2.1 (TX9 0).2.2.1 ∈ wsX9_copyRows := by decide +kernel
theorem lm_X9_copyRows_32 : Cond.methodLink RX9 32 arraycopyName ∈ wsX9_copyRows := by decide +kernel
theorem ln_X9_copyRows_32 : Cond.native arraycopyName ∈ wsX9_copyRows := by decide +kernel
theorem ls_X9_copyRows_32 : Cond.static arraycopyName ∈ wsX9_copyRows := by decide +kernel
theorem li_X9_copyRows_32 : Cond.initialized "java/lang/System" ∈ wsX9_copyRows := by decide +kernel
theorem lk_X9_copyRows_25 : Cond.fieldLink RX9 25 (TX9 2).1 (TX9 2).2.1 (TX9 2).2.2.1 ∈ wsX9_copyRows := by decide +kernel
theorem lk_X9_copyRows_21 : Cond.fieldLink RX9 21 (TX9 1).1 (TX9 1).2.1 (TX9 1).2.2.1 ∈ wsX9_copyRows := by decide +kernel
theorem lm_X9_copyRows_15 : Cond.methodLink RX9 15 Lib.Math.min.name ∈ wsX9_copyRows := by decide +kernel
theorem ls_X9_copyRows_15 : Cond.static Lib.Math.min.name ∈ wsX9_copyRows := by decide +kernel
theorem li_X9_copyRows_15 : Cond.initialized "java/lang/Math" ∈ wsX9_copyRows := by decide +kernel
theorem lo_X9_copyRows_15 : Cond.code Lib.Math.min.name Lib.Math.min.code 2 (some .int) ∈ wsX9_copyRows := by decide +kernel
def m_X9_copyRows (v_p1_size : Int32) (v_this_limit : Int32) (v_this_size : Int32) (f_cells : Nat → Int32) (f_p1_cells : Nat → Int32) : Option ((Int32) × (Nat → Int32)) := mCpy f_p1_cells f_cells 30 30 (0 : Int32) (0 : Int32) (30 : Int32) (fun (f1 : Nat → Int32) => mLet (if v_this_limit < v_p1_size then v_this_limit else v_p1_size) (fun (t2 : Int32) => some (t2, f1)))
def P_X9_copyRows_0 (p : Program) (l : Launch) (e : Env) (s : State) (m : MethodId) (args : Array Value) (below : List Frame) (meth : Method) (c : Code) (D : va_G) (cA : Nat → ClassId) (A : Nat → Prop) (r : (Int32) × (Nat → Int32)) (a_p1 a_p1_cells a_this a_cells : Nat) (v_p1_limit : Int32) (v_p1_size : Int32) (v_this_limit : Int32) (v_this_size : Int32) (f_cells : Nat → Int32) (f_p1_cells : Nat → Int32) : Prop := ∀ (H : Heap) (locs : List Loc) (ls : Array Slot), va_P D vwCl [(a_p1, .inr (9, [.ref a_p1_cells, .int v_p1_limit, .int v_p1_size])), (a_this, .inr (9, [.ref a_cells, .int v_this_limit, .int v_this_size])), (a_cells, .inl (cA 0, 30, .inl f_cells)), (a_p1_cells, .inl (cA 0, 30, .inl f_p1_cells))] H → va_D A [(a_p1, .inr (9, [.ref a_p1_cells, .int v_p1_limit, .int v_p1_size])), (a_this, .inr (9, [.ref a_cells, .int v_this_limit, .int v_this_size])), (a_cells, .inl (cA 0, 30, .inl f_cells)), (a_p1_cells, .inl (cA 0, 30, .inl f_p1_cells))] → va_S A s.heap H locs → lv_has ls 2 [(0, .ref a_this), (1, .ref a_p1)] → W p l e { frames := 1, cells := 0, slots := 0, locals := 40 } s m args below meth c H locs 0 0 (MQ below (va_Qv (fun (_ : Unit) => True) (gPost D A [(a_p1, .inr (9, [.ref a_p1_cells, .int v_p1_limit, .int v_p1_size])), (a_this, .inr (9, [.ref a_cells, .int v_this_limit, .int r.1])), (a_cells, .inl (cA 0, 30, .inl r.2)), (a_p1_cells, .inl (cA 0, 30, .inl f_p1_cells))]) A) args s 0 0 A) (F0 m 0 ls [])
set_option maxHeartbeats 4000000 in
set_option maxRecDepth 100000 in
theorem w_X9_copyRows_0 {p : Program} {l : Launch} {e : Env} {s : State} {m : MethodId} {args : Array Value} {below : List Frame} {meth : Method} {c : Code} {D : va_G} {cA : Nat → ClassId} {A : Nat → Prop} {r : (Int32) × (Nat → Int32)} (S : CallFix p m c cX9_copyRows 2 s args wsX9_copyRows RX9) (hr : meth.sig.returnType = none) (hlk : meth.locks = false) (hK : gK D cA s) (hA : ∀ q : Nat, s.heap.size ≤ q → A q) (a_p1 a_p1_cells a_this a_cells : Nat) (v_p1_limit : Int32) (v_p1_size : Int32) (v_this_limit : Int32) (f_p1_cells : Nat → Int32) (v_this_size : Int32) (f_cells : Nat → Int32) (h : m_X9_copyRows v_p1_size v_this_limit v_this_size f_cells f_p1_cells = some r) : P_X9_copyRows_0 p l e s m args below meth c D cA A r a_p1 a_p1_cells a_this a_cells v_p1_limit v_p1_size v_this_limit v_this_size f_cells f_p1_cells := by
  intro H locs ls hP hD hS hl
  unfold m_X9_copyRows at h
  refine lv_aload_n S.1 S.2.1 dX9_copyRows_0 rfl (lv_at hl 1 rfl) ?_
  refine mi_get S hK hP in_X9_copyRows_X9 0 rfl rfl 0 (by decide) lk_X9_copyRows_11 rfl dX9_copyRows_1 ?_
  refine lv_iconst (v := (0 : Int32)) S.1 S.2.1 dX9_copyRows_4 (by decide) ?_
  refine lv_aload_n S.1 S.2.1 dX9_copyRows_5 rfl (lv_at hl 0 rfl) ?_
  refine mi_get S hK hP in_X9_copyRows_X9 1 rfl rfl 0 (by decide) lk_X9_copyRows_11 rfl dX9_copyRows_6 ?_
  refine lv_iconst (v := (0 : Int32)) S.1 S.2.1 dX9_copyRows_9 (by decide) ?_
  refine lv_aload_n S.1 S.2.1 dX9_copyRows_10 rfl (lv_at hl 0 rfl) ?_
  refine mi_get S hK hP in_X9_copyRows_X9 1 rfl rfl 0 (by decide) lk_X9_copyRows_11 rfl dX9_copyRows_11 ?_
  refine va_alen S.1 S.2.1 hK.1 hP 2 0 rfl rfl (v := (30 : Int32)) (show Int32.ofNat 30 = (30 : Int32) by decide) dX9_copyRows_14 ?_
  refine mi_copyi S (S.2.2.1.trans hl.1.symm) (S.2.2.2.2 _ lm_X9_copyRows_32) (S.2.2.2.2 _ ln_X9_copyRows_32) (S.2.2.2.2 _ ls_X9_copyRows_32) (S.2.2.2.2 _ li_X9_copyRows_32) hK hP hD hS 3 2 rfl rfl h (Nat.le_of_ble_eq_true rfl) (Nat.le_of_ble_eq_true rfl) dX9_copyRows_15 (fun f1 H locs h hP hD hS => ?_)
  have hP : va_P D vwCl [(a_p1, .inr (9, [.ref a_p1_cells, .int v_p1_limit, .int v_p1_size])), (a_this, .inr (9, [.ref a_cells, .int v_this_limit, .int v_this_size])), (a_cells, .inl (cA 0, 30, .inl f1)), (a_p1_cells, .inl (cA 0, 30, .inl f_p1_cells))] H := hP
  have hD : va_D A [(a_p1, .inr (9, [.ref a_p1_cells, .int v_p1_limit, .int v_p1_size])), (a_this, .inr (9, [.ref a_cells, .int v_this_limit, .int v_this_size])), (a_cells, .inl (cA 0, 30, .inl f1)), (a_p1_cells, .inl (cA 0, 30, .inl f_p1_cells))] := hD
  refine lv_aload_n S.1 S.2.1 dX9_copyRows_18 rfl (lv_at hl 0 rfl) ?_
  refine lv_aload_n S.1 S.2.1 dX9_copyRows_19 rfl (lv_at hl 1 rfl) ?_
  refine mi_get S hK hP in_X9_copyRows_X9 0 rfl rfl 2 (by decide) lk_X9_copyRows_25 rfl dX9_copyRows_20 ?_
  refine lv_aload_n S.1 S.2.1 dX9_copyRows_23 rfl (lv_at hl 0 rfl) ?_
  refine mi_get S hK hP in_X9_copyRows_X9 1 rfl rfl 1 (by decide) lk_X9_copyRows_21 rfl dX9_copyRows_24 ?_
  refine va_mmin S.1 S.2.1 (S.2.2.1.trans hl.1.symm) S.2.2.2.1 (S.2.2.2.2 _ lm_X9_copyRows_15) (S.2.2.2.2 _ ls_X9_copyRows_15) (S.2.2.2.2 _ li_X9_copyRows_15) (S.2.2.2.2 _ lo_X9_copyRows_15) (Nat.le_of_ble_eq_true rfl) (Nat.le_of_ble_eq_true rfl) (Nat.zero_le _) (Nat.zero_le _) dX9_copyRows_27 ?_
  refine mi_let h (fun t2 h => ?_)
  refine mi_put S hK hP hD hS in_X9_copyRows_X9 tyX9_ok nmX9 1 rfl rfl 2 (by decide) lk_X9_copyRows_25 rfl (v := .int t2) rfl rfl (Nat.le_of_ble_eq_true rfl) dX9_copyRows_30 (fun H locs hP hD hS => ?_)
  have hP : va_P D vwCl [(a_p1, .inr (9, [.ref a_p1_cells, .int v_p1_limit, .int v_p1_size])), (a_this, .inr (9, [.ref a_cells, .int v_this_limit, .int t2])), (a_cells, .inl (cA 0, 30, .inl f1)), (a_p1_cells, .inl (cA 0, 30, .inl f_p1_cells))] H := hP
  have hD : va_D A [(a_p1, .inr (9, [.ref a_p1_cells, .int v_p1_limit, .int v_p1_size])), (a_this, .inr (9, [.ref a_cells, .int v_this_limit, .int t2])), (a_cells, .inl (cA 0, 30, .inl f1)), (a_p1_cells, .inl (cA 0, 30, .inl f_p1_cells))] := hD
  cases h
  exact mi_vretE S hr hlk hP hD hS dX9_copyRows_33
set_option maxHeartbeats 4000000 in
set_option maxRecDepth 100000 in
theorem c_X9_copyRows (l : Launch) (D : va_G) (cA : Nat → ClassId) (a_p1 a_p1_cells a_this a_cells : Nat) (v_p1_limit : Int32) (v_p1_size : Int32) (v_this_limit : Int32) (v_this_size : Int32) (f_cells : Nat → Int32) (f_p1_cells : Nat → Int32) {r : (Int32) × (Nat → Int32)} (h : m_X9_copyRows v_p1_size v_this_limit v_this_size f_cells f_p1_cells = some r) : MEv l yX9_copyRows wsX9_copyRows { frames := 1, cells := 0, slots := 0, locals := 40 } D cA [.ref a_this, .ref a_p1] [(a_p1, .inr (9, [.ref a_p1_cells, .int v_p1_limit, .int v_p1_size])), (a_this, .inr (9, [.ref a_cells, .int v_this_limit, .int v_this_size])), (a_cells, .inl (cA 0, 30, .inl f_cells)), (a_p1_cells, .inl (cA 0, 30, .inl f_p1_cells))] [(a_p1, .inr (9, [.ref a_p1_cells, .int v_p1_limit, .int v_p1_size])), (a_this, .inr (9, [.ref a_cells, .int v_this_limit, .int r.1])), (a_cells, .inl (cA 0, 30, .inl r.2)), (a_p1_cells, .inl (cA 0, 30, .inl f_p1_cells))] := by
  refine mE_of (cc := cX9_copyRows) (maxL := 2) (ret := none) (Qc := fun A => va_Qv (fun (_ : Unit) => True) (gPost D A [(a_p1, .inr (9, [.ref a_p1_cells, .int v_p1_limit, .int v_p1_size])), (a_this, .inr (9, [.ref a_cells, .int v_this_limit, .int r.1])), (a_cells, .inl (cA 0, 30, .inl r.2)), (a_p1_cells, .inl (cA 0, 30, .inl f_p1_cells))]) A) (by decide) rfl (Nat.le_of_ble_eq_true rfl) ?_
  intro p e s m below meth c A S hr hlk hK hA hP hD hS ls hl
  exact w_X9_copyRows_0 S hr hlk hK hA a_p1 a_p1_cells a_this a_cells v_p1_limit v_p1_size v_this_limit f_p1_cells v_this_size f_cells h s.heap [] ls hP hD hS (lv_sub hl [0, 1] rfl)

-- X9_mixedRows
theorem in_X9_mixedRows_X9 : ∀ w ∈ u_ws RX9 TX9 3, w ∈ wsX9_mixedRows := by decide +kernel
theorem lk_X9_mixedRows_25 : Cond.fieldLink RX9 25 (TX9 2).1 (TX9 2).2.1 (TX9 2).2.2.1 ∈ wsX9_mixedRows := by decide +kernel
theorem nl_X9_mixedRows_41 : ((RX9, 41, yX11_mixed, "CoalWood") : String × Nat × MethodName × String) ∈ nestL := by decide +kernel
theorem li_X9_mixedRows_X11 : Cond.initialized RX11 ∈ wsX9_mixedRows := by decide +kernel
theorem ls_X9_mixedRows_41 : Cond.static yX11_mixed ∈ wsX9_mixedRows := by decide +kernel
def m_X9_mixedRows_L18 (v_this_size : Int32) (f_cells : Nat → Int32) (k6 : Int32 → Int64 → Int32 → Option (Int64)) : Nat → Int32 → Int64 → Int32 → Int32 → Option (Int64)
  | 0, _, _, _, _ => none
  | n + 1, x3, x4, x6, x7 => if x3 ≤ x7 then mLet (x6 + (1 : Int32)) (fun (t1 : Int32) => k6 x3 x4 t1) else mCall (m_X9_at v_this_size f_cells x6 x7) (fun (r2 : Int32) => mCall (m_X11_mixed x4 r2.toInt64) (fun (r3 : Int64) => mLet (x7 + (1 : Int32)) (fun (t4 : Int32) => m_X9_mixedRows_L18 v_this_size f_cells k6 n x3 r3 x6 t4)))
def m_X9_mixedRows_L6 (v_this_size : Int32) (f_cells : Nat → Int32) : Nat → Int32 → Int64 → Int32 → Option (Int64)
  | 0, _, _, _ => none
  | n + 1, x3, x4, x6 => if v_this_size ≤ x6 then some x4 else m_X9_mixedRows_L18 v_this_size f_cells (m_X9_mixedRows_L6 v_this_size f_cells n) mFU x3 x4 x6 (0 : Int32)
def m_X9_mixedRows (v_this_size : Int32) (f_cells : Nat → Int32) (x1 : Int64) (x3 : Int32) : Option (Int64) := m_X9_mixedRows_L6 v_this_size f_cells mFU x3 x1 (0 : Int32)
def P_X9_mixedRows_18 (p : Program) (l : Launch) (e : Env) (s : State) (m : MethodId) (args : Array Value) (below : List Frame) (meth : Method) (c : Code) (D : va_G) (cA : Nat → ClassId) (r : Int64) (a_this a_cells : Nat) (v_this_limit : Int32) (v_this_size : Int32) (f_cells : Nat → Int32) (x3 : Int32) (x4 : Int64) (x6 : Int32) (x7 : Int32) : Prop := va_P D vwCl [(a_this, .inr (9, [.ref a_cells, .int v_this_limit, .int v_this_size])), (a_cells, .inl (cA 0, 30, .inl f_cells))] s.heap → ∀ ls : Array Slot, lv_has ls 8 [(0, .ref a_this), (3, .int x3), (4, .long x4), (6, .int x6), (7, .int x7)] → W p l e { frames := 1, cells := 0, slots := 0, locals := 23 } s m args below meth c s.heap [] 0 0 (MQ below (vp_Sl (fun y => y = r)) args s 0 0 (fun _ => False)) (F0 m 18 ls [])
def P_X9_mixedRows_6 (p : Program) (l : Launch) (e : Env) (s : State) (m : MethodId) (args : Array Value) (below : List Frame) (meth : Method) (c : Code) (D : va_G) (cA : Nat → ClassId) (r : Int64) (a_this a_cells : Nat) (v_this_limit : Int32) (v_this_size : Int32) (f_cells : Nat → Int32) (x3 : Int32) (x4 : Int64) (x6 : Int32) : Prop := va_P D vwCl [(a_this, .inr (9, [.ref a_cells, .int v_this_limit, .int v_this_size])), (a_cells, .inl (cA 0, 30, .inl f_cells))] s.heap → ∀ ls : Array Slot, lv_has ls 8 [(0, .ref a_this), (3, .int x3), (4, .long x4), (6, .int x6)] → W p l e { frames := 1, cells := 0, slots := 0, locals := 23 } s m args below meth c s.heap [] 0 0 (MQ below (vp_Sl (fun y => y = r)) args s 0 0 (fun _ => False)) (F0 m 6 ls [])
def P_X9_mixedRows_0 (p : Program) (l : Launch) (e : Env) (s : State) (m : MethodId) (args : Array Value) (below : List Frame) (meth : Method) (c : Code) (D : va_G) (cA : Nat → ClassId) (r : Int64) (a_this a_cells : Nat) (v_this_limit : Int32) (v_this_size : Int32) (f_cells : Nat → Int32) (x1 : Int64) (x3 : Int32) : Prop := va_P D vwCl [(a_this, .inr (9, [.ref a_cells, .int v_this_limit, .int v_this_size])), (a_cells, .inl (cA 0, 30, .inl f_cells))] s.heap → ∀ ls : Array Slot, lv_has ls 8 [(0, .ref a_this), (1, .long x1), (3, .int x3)] → W p l e { frames := 1, cells := 0, slots := 0, locals := 23 } s m args below meth c s.heap [] 0 0 (MQ below (vp_Sl (fun y => y = r)) args s 0 0 (fun _ => False)) (F0 m 0 ls [])
set_option maxHeartbeats 4000000 in
set_option maxRecDepth 100000 in
theorem w_X9_mixedRows_18 {p : Program} {l : Launch} {e : Env} {s : State} {m : MethodId} {args : Array Value} {below : List Frame} {meth : Method} {c : Code} {D : va_G} {cA : Nat → ClassId} {r : Int64} (S : CallFix p m c cX9_mixedRows 8 s args wsX9_mixedRows RX9) (hr : meth.sig.returnType = some .long) (hlk : meth.locks = false) (hK : gK D cA s) (a_this a_cells : Nat) (v_this_limit : Int32) (v_this_size : Int32) (f_cells : Nat → Int32) {k6 : Int32 → Int64 → Int32 → Option (Int64)} (hk6 : ∀ (x3 : Int32) (x4 : Int64) (x6 : Int32), k6 x3 x4 x6 = some r → P_X9_mixedRows_6 p l e s m args below meth c D cA r a_this a_cells v_this_limit v_this_size f_cells x3 x4 x6) : ∀ (n : Nat) (x3 : Int32) (x4 : Int64) (x6 : Int32) (x7 : Int32), m_X9_mixedRows_L18 v_this_size f_cells k6 n x3 x4 x6 x7 = some r → P_X9_mixedRows_18 p l e s m args below meth c D cA r a_this a_cells v_this_limit v_this_size f_cells x3 x4 x6 x7 := by
  intro n
  induction n with
  | zero =>
    intro x3 x4 x6 x7 h
    have h : none = some r := h
    cases h
  | succ n ih =>
    intro x3 x4 x6 x7 h
    intro hP ls hl
    rw [m_X9_mixedRows_L18] at h
    refine lv_iload S.1 S.2.1 dX9_mixedRows_18 (lv_at hl 4 rfl) ?_
    refine lv_iload_n S.1 S.2.1 dX9_mixedRows_20 rfl (lv_at hl 1 rfl) ?_
    refine mi_icmp_ge (tgt := 46) S h dX9_mixedRows_21 (by decide) (fun h => ?_) (fun h => ?_)
    · obtain ⟨t1, et1, h⟩ := mLet_use h
      refine lv_iinc (v := t1) (lv' := [(6, .int t1), (0, .ref a_this), (3, .int x3), (4, .long x4), (7, .int x7)]) S.1 S.2.1 dX9_mixedRows_46 hl (k := 3) rfl (by rw [et1]; rfl) (by decide) rfl (fun ls hl => ?_)
      clear et1
      refine lv_goto (tgt := 6) S.1 S.2.1 dX9_mixedRows_49 (by decide) ?_
      exact hk6 x3 x4 t1 h hP ls (lv_sub hl [1, 2, 3, 0] rfl)
    · refine lv_lload S.1 S.2.1 dX9_mixedRows_24 (lv_at hl 2 rfl) ?_
      refine lv_aload_n S.1 S.2.1 dX9_mixedRows_26 rfl (lv_at hl 0 rfl) ?_
      refine lv_iload S.1 S.2.1 dX9_mixedRows_27 (lv_at hl 3 rfl) ?_
      refine lv_iload S.1 S.2.1 dX9_mixedRows_29 (lv_at hl 4 rfl) ?_
      obtain ⟨r2, hr2, h⟩ := mCall_use h
      refine mc_Pi (va_runV (As := [.int x6, .int x7]) (rest := [.long x4]) S (c_X9_at l D cA a_this a_cells v_this_limit v_this_size f_cells x6 x7 hr2) (cwV 2 S.2.2.2.2 gX9_mixedRows_X9_at rfl rfl rfl (by decide +kernel) ⟨Nat.le_of_ble_eq_true rfl, Nat.le_of_ble_eq_true rfl⟩) (pre_PV hK hP [0, 1] rfl (ci := 9) (q0 := 0) rfl rfl) rfl rfl hl.1 rfl (lv_room (Nat.le_of_ble_eq_true rfl)) dX9_mixedRows_31 ⟨Nat.le_of_ble_eq_true rfl, Nat.le_of_ble_eq_true rfl⟩) ?_
      refine lv_i2l S.1 S.2.1 dX9_mixedRows_34 rfl ?_
      obtain ⟨r3, hr3, h⟩ := mCall_use h
      refine mc_Pl (va_runSN (As := [.long x4, .long r2.toInt64]) (rest := []) S (c_X11_mixed l D cA x4 r2.toInt64 hr3) ⟨va_cnB 2 S.2.2.2.2 gX9_mixedRows_X11_mixed_n41 rfl rfl rfl (hK.2.1 _ nl_X9_mixedRows_41) (S.2.2.2.2 _ li_X9_mixedRows_X11) (by decide +kernel) ⟨Nat.le_of_ble_eq_true rfl, Nat.le_of_ble_eq_true rfl⟩, S.2.2.2.2 _ ls_X9_mixedRows_41, trivial⟩ (pre_PS hK hP [] rfl) rfl rfl hl.1 rfl (lv_room (Nat.le_of_ble_eq_true rfl)) dX9_mixedRows_35 ⟨Nat.le_of_ble_eq_true rfl, Nat.le_of_ble_eq_true rfl⟩) ?_
      refine lv_lstore (lv' := [(4, .long r3), (0, .ref a_this), (3, .int x3), (6, .int x6), (7, .int x7)]) S.1 S.2.1 dX9_mixedRows_38 hl (by decide) rfl (fun ls hl => ?_)
      obtain ⟨t4, et4, h⟩ := mLet_use h
      refine lv_iinc (v := t4) (lv' := [(7, .int t4), (4, .long r3), (0, .ref a_this), (3, .int x3), (6, .int x6)]) S.1 S.2.1 dX9_mixedRows_40 hl (k := 4) rfl (by rw [et4]; rfl) (by decide) rfl (fun ls hl => ?_)
      clear et4
      refine lv_goto (tgt := 18) S.1 S.2.1 dX9_mixedRows_43 (by decide) ?_
      exact ih x3 r3 x6 t4 h hP ls (lv_sub hl [2, 3, 1, 4, 0] rfl)
set_option maxHeartbeats 4000000 in
set_option maxRecDepth 100000 in
theorem w_X9_mixedRows_6 {p : Program} {l : Launch} {e : Env} {s : State} {m : MethodId} {args : Array Value} {below : List Frame} {meth : Method} {c : Code} {D : va_G} {cA : Nat → ClassId} {r : Int64} (S : CallFix p m c cX9_mixedRows 8 s args wsX9_mixedRows RX9) (hr : meth.sig.returnType = some .long) (hlk : meth.locks = false) (hK : gK D cA s) (a_this a_cells : Nat) (v_this_limit : Int32) (v_this_size : Int32) (f_cells : Nat → Int32) : ∀ (n : Nat) (x3 : Int32) (x4 : Int64) (x6 : Int32), m_X9_mixedRows_L6 v_this_size f_cells n x3 x4 x6 = some r → P_X9_mixedRows_6 p l e s m args below meth c D cA r a_this a_cells v_this_limit v_this_size f_cells x3 x4 x6 := by
  intro n
  induction n with
  | zero =>
    intro x3 x4 x6 h
    have h : none = some r := h
    cases h
  | succ n ih =>
    intro x3 x4 x6 h
    intro hP ls hl
    rw [m_X9_mixedRows_L6] at h
    refine lv_iload S.1 S.2.1 dX9_mixedRows_6 (lv_at hl 3 rfl) ?_
    refine lv_aload_n S.1 S.2.1 dX9_mixedRows_8 rfl (lv_at hl 0 rfl) ?_
    refine mi_get S hK hP in_X9_mixedRows_X9 0 rfl rfl 2 (by decide) lk_X9_mixedRows_25 rfl dX9_mixedRows_9 ?_
    refine mi_icmp_ge (tgt := 52) S h dX9_mixedRows_12 (by decide) (fun h => ?_) (fun h => ?_)
    · refine lv_lload S.1 S.2.1 dX9_mixedRows_52 (lv_at hl 2 rfl) ?_
      cases h
      exact mi_lretP S hr hlk rfl dX9_mixedRows_54
    · refine lv_iconst (v := (0 : Int32)) S.1 S.2.1 dX9_mixedRows_15 (by decide) ?_
      refine lv_istore (lv' := [(7, .int (0 : Int32)), (0, .ref a_this), (3, .int x3), (4, .long x4), (6, .int x6)]) S.1 S.2.1 dX9_mixedRows_16 hl (by decide) rfl (fun ls hl => ?_)
      exact w_X9_mixedRows_18 S hr hlk hK a_this a_cells v_this_limit v_this_size f_cells ih mFU x3 x4 x6 (0 : Int32) h hP ls (lv_sub hl [1, 2, 3, 4, 0] rfl)
set_option maxHeartbeats 4000000 in
set_option maxRecDepth 100000 in
theorem w_X9_mixedRows_0 {p : Program} {l : Launch} {e : Env} {s : State} {m : MethodId} {args : Array Value} {below : List Frame} {meth : Method} {c : Code} {D : va_G} {cA : Nat → ClassId} {r : Int64} (S : CallFix p m c cX9_mixedRows 8 s args wsX9_mixedRows RX9) (hr : meth.sig.returnType = some .long) (hlk : meth.locks = false) (hK : gK D cA s) (a_this a_cells : Nat) (v_this_limit : Int32) (v_this_size : Int32) (f_cells : Nat → Int32) (x1 : Int64) (x3 : Int32) (h : m_X9_mixedRows v_this_size f_cells x1 x3 = some r) : P_X9_mixedRows_0 p l e s m args below meth c D cA r a_this a_cells v_this_limit v_this_size f_cells x1 x3 := by
  intro hP ls hl
  unfold m_X9_mixedRows at h
  refine lv_lload_n S.1 S.2.1 dX9_mixedRows_0 rfl (lv_at hl 1 rfl) ?_
  refine lv_lstore (lv' := [(4, .long x1), (0, .ref a_this), (1, .long x1), (3, .int x3)]) S.1 S.2.1 dX9_mixedRows_1 hl (by decide) rfl (fun ls hl => ?_)
  refine lv_iconst (v := (0 : Int32)) S.1 S.2.1 dX9_mixedRows_3 (by decide) ?_
  refine lv_istore (lv' := [(6, .int (0 : Int32)), (4, .long x1), (0, .ref a_this), (1, .long x1), (3, .int x3)]) S.1 S.2.1 dX9_mixedRows_4 hl (by decide) rfl (fun ls hl => ?_)
  exact w_X9_mixedRows_6 S hr hlk hK a_this a_cells v_this_limit v_this_size f_cells mFU x3 x1 (0 : Int32) h hP ls (lv_sub hl [2, 4, 1, 0] rfl)
set_option maxHeartbeats 4000000 in
set_option maxRecDepth 100000 in
theorem c_X9_mixedRows (l : Launch) (D : va_G) (cA : Nat → ClassId) (a_this a_cells : Nat) (v_this_limit : Int32) (v_this_size : Int32) (f_cells : Nat → Int32) (x1 : Int64) (x3 : Int32) {r : Int64} (h : m_X9_mixedRows v_this_size f_cells x1 x3 = some r) : MPl l yX9_mixedRows wsX9_mixedRows { frames := 1, cells := 0, slots := 0, locals := 23 } D cA [.ref a_this, .long x1, .int x3] [(a_this, .inr (9, [.ref a_cells, .int v_this_limit, .int v_this_size])), (a_cells, .inl (cA 0, 30, .inl f_cells))] r := by
  refine mP_of (cc := cX9_mixedRows) (maxL := 8) (ret := (some .long)) (by decide) rfl (Nat.le_of_ble_eq_true rfl) ?_
  intro p e s m below meth c S hr hlk hK hP ls hl
  exact w_X9_mixedRows_0 S hr hlk hK a_this a_cells v_this_limit v_this_size f_cells x1 x3 h hP ls (lv_sub hl [0, 1, 2] rfl)

