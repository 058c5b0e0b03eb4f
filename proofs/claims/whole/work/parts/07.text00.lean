-- X10_append
theorem nl_X10_append_19 : ((RX10, 19, yX11_within, "CoalWood") : String × Nat × MethodName × String) ∈ nestL := by decide +kernel
theorem li_X10_append_X11 : Cond.initialized RX11 ∈ wsX10_append := by decide +kernel
theorem ls_X10_append_19 : Cond.static yX11_within ∈ wsX10_append := by decide +kernel
theorem in_X10_append_X10 : ∀ w ∈ u_ws RX10 TX10 6, w ∈ wsX10_append := by decide +kernel
theorem lk_X10_append_23 : Cond.fieldLink RX10 23 (TX10 2).1 (TX10 2).2.1 (TX10 2).2.2.1 ∈ wsX10_append := by decide +kernel
theorem lk_X10_append_11 : Cond.fieldLink RX10 11 (TX10 0).1 (TX10 0).2.1 (TX10 0).2.2.1 ∈ wsX10_append := by decide +kernel
def m_X10_append (v_this_size : Int32) (f_bytes : Nat → Int32) (x1 : Int32) : Option (Int32 × (Int32) × (Nat → Int32)) := mCall (m_X11_within x1 (0 : Int32) (127 : Int32)) (fun (r1 : Int32) => if r1 = 0 then some ((-2 : Int32), v_this_size, f_bytes) else if v_this_size < (150 : Int32) then mWrB f_bytes 150 v_this_size x1.toInt8.toInt32 (fun (f2 : Nat → Int32) => mLet (v_this_size + (1 : Int32)) (fun (t3 : Int32) => some (t3, t3, f2))) else some ((-4 : Int32), v_this_size, f_bytes))
def P_X10_append_0 (p : Program) (l : Launch) (e : Env) (s : State) (m : MethodId) (args : Array Value) (below : List Frame) (meth : Method) (c : Code) (D : va_G) (cA : Nat → ClassId) (A : Nat → Prop) (r : Int32 × (Int32) × (Nat → Int32)) (a_this a_bytes a_numbers : Nat) (v_this_size : Int32) (v_this_next : Int32) (v_this_start : Int32) (v_this_value : Int32) (f_bytes : Nat → Int32) (x1 : Int32) : Prop := ∀ (H : Heap) (locs : List Loc) (ls : Array Slot), va_P D vwCl [(a_this, .inr (10, [.ref a_bytes, .ref a_numbers, .int v_this_size, .int v_this_next, .int v_this_start, .int v_this_value])), (a_bytes, .inl (cA 1, 150, .inl f_bytes))] H → va_D A [(a_this, .inr (10, [.ref a_bytes, .ref a_numbers, .int v_this_size, .int v_this_next, .int v_this_start, .int v_this_value])), (a_bytes, .inl (cA 1, 150, .inl f_bytes))] → va_S A s.heap H locs → lv_has ls 2 [(0, .ref a_this), (1, .int x1)] → W p l e { frames := 1, cells := 0, slots := 0, locals := 22 } s m args below meth c H locs 0 0 (MQ below (va_Qi (fun (y : Int32) (_ : Unit) => y = r.1) (gPost D A [(a_this, .inr (10, [.ref a_bytes, .ref a_numbers, .int r.2.1, .int v_this_next, .int v_this_start, .int v_this_value])), (a_bytes, .inl (cA 1, 150, .inl r.2.2))]) A) args s 0 0 A) (F0 m 0 ls [])
set_option maxHeartbeats 4000000 in
set_option maxRecDepth 100000 in
theorem w_X10_append_0 {p : Program} {l : Launch} {e : Env} {s : State} {m : MethodId} {args : Array Value} {below : List Frame} {meth : Method} {c : Code} {D : va_G} {cA : Nat → ClassId} {A : Nat → Prop} {r : Int32 × (Int32) × (Nat → Int32)} (S : CallFix p m c cX10_append 2 s args wsX10_append RX10) (hr : meth.sig.returnType = some .int) (hlk : meth.locks = false) (hK : gK D cA s) (hA : ∀ q : Nat, s.heap.size ≤ q → A q) (a_this a_bytes a_numbers : Nat) (v_this_next : Int32) (v_this_start : Int32) (v_this_value : Int32) (v_this_size : Int32) (f_bytes : Nat → Int32) (x1 : Int32) (h : m_X10_append v_this_size f_bytes x1 = some r) : P_X10_append_0 p l e s m args below meth c D cA A r a_this a_bytes a_numbers v_this_size v_this_next v_this_start v_this_value f_bytes x1 := by
  intro H locs ls hP hD hS hl
  unfold m_X10_append at h
  refine lv_iload_n S.1 S.2.1 dX10_append_0 rfl (lv_at hl 1 rfl) ?_
  refine lv_iconst (v := (0 : Int32)) S.1 S.2.1 dX10_append_1 (by decide) ?_
  refine lv_bipush (v := (127 : Int32)) S.1 S.2.1 dX10_append_2 (by decide) ?_
  obtain ⟨r1, hr1, h⟩ := mCall_use h
  refine mc_Pi (va_runSN (As := [.int x1, .int (0 : Int32), .int (127 : Int32)]) (rest := []) S (c_X11_within l D cA x1 (0 : Int32) (127 : Int32) hr1) ⟨va_cnB 3 S.2.2.2.2 gX10_append_X11_within_n19 rfl rfl rfl (hK.2.1 _ nl_X10_append_19) (S.2.2.2.2 _ li_X10_append_X11) (by decide +kernel) ⟨Nat.le_of_ble_eq_true rfl, Nat.le_of_ble_eq_true rfl⟩, S.2.2.2.2 _ ls_X10_append_19, trivial⟩ (pre_PS hK hP [] rfl) rfl rfl hl.1 rfl (lv_room (Nat.le_of_ble_eq_true rfl)) dX10_append_4 ⟨Nat.le_of_ble_eq_true rfl, Nat.le_of_ble_eq_true rfl⟩) ?_
  refine mi_if_ne (tgt := 13) S h dX10_append_7 (by decide) (fun h => ?_) (fun h => ?_)
  · refine lv_aload_n S.1 S.2.1 dX10_append_13 rfl (lv_at hl 0 rfl) ?_
    refine mi_get S hK hP in_X10_append_X10 0 rfl rfl 2 (by decide) lk_X10_append_23 rfl dX10_append_14 ?_
    refine lv_sipush (v := (150 : Int32)) S.1 S.2.1 dX10_append_17 (by decide) ?_
    refine mi_icmp_lt (tgt := 26) S h dX10_append_20 (by decide) (fun h => ?_) (fun h => ?_)
    · refine lv_aload_n S.1 S.2.1 dX10_append_26 rfl (lv_at hl 0 rfl) ?_
      refine mi_get S hK hP in_X10_append_X10 0 rfl rfl 0 (by decide) lk_X10_append_11 rfl dX10_append_27 ?_
      refine lv_aload_n S.1 S.2.1 dX10_append_30 rfl (lv_at hl 0 rfl) ?_
      refine mi_get S hK hP in_X10_append_X10 0 rfl rfl 2 (by decide) lk_X10_append_23 rfl dX10_append_31 ?_
      refine lv_iload_n S.1 S.2.1 dX10_append_34 rfl (lv_at hl 1 rfl) ?_
      refine lv_i2b S.1 S.2.1 dX10_append_35 rfl ?_
      refine mi_bast S hK hP hD hS 1 rfl h dX10_append_36 (fun f2 H locs h hP hD hS => ?_)
      have hP : va_P D vwCl [(a_this, .inr (10, [.ref a_bytes, .ref a_numbers, .int v_this_size, .int v_this_next, .int v_this_start, .int v_this_value])), (a_bytes, .inl (cA 1, 150, .inl f2))] H := hP
      have hD : va_D A [(a_this, .inr (10, [.ref a_bytes, .ref a_numbers, .int v_this_size, .int v_this_next, .int v_this_start, .int v_this_value])), (a_bytes, .inl (cA 1, 150, .inl f2))] := hD
      refine lv_aload_n S.1 S.2.1 dX10_append_37 rfl (lv_at hl 0 rfl) ?_
      refine lv_dup S.1 S.2.1 dX10_append_38 rfl ?_
      refine mi_get S hK hP in_X10_append_X10 0 rfl rfl 2 (by decide) lk_X10_append_23 rfl dX10_append_39 ?_
      refine lv_iconst (v := (1 : Int32)) S.1 S.2.1 dX10_append_42 (by decide) ?_
      refine lv_iadd S.1 S.2.1 dX10_append_43 ?_
      refine mi_let h (fun t3 h => ?_)
      refine mi_put S hK hP hD hS in_X10_append_X10 tyX10_ok nmX10 0 rfl rfl 2 (by decide) lk_X10_append_23 rfl (v := .int t3) rfl rfl (Nat.le_of_ble_eq_true rfl) dX10_append_44 (fun H locs hP hD hS => ?_)
      have hP : va_P D vwCl [(a_this, .inr (10, [.ref a_bytes, .ref a_numbers, .int t3, .int v_this_next, .int v_this_start, .int v_this_value])), (a_bytes, .inl (cA 1, 150, .inl f2))] H := hP
      have hD : va_D A [(a_this, .inr (10, [.ref a_bytes, .ref a_numbers, .int t3, .int v_this_next, .int v_this_start, .int v_this_value])), (a_bytes, .inl (cA 1, 150, .inl f2))] := hD
      refine lv_aload_n S.1 S.2.1 dX10_append_47 rfl (lv_at hl 0 rfl) ?_
      refine mi_get S hK hP in_X10_append_X10 0 rfl rfl 2 (by decide) lk_X10_append_23 rfl dX10_append_48 ?_
      cases h
      exact mi_iretE S hr hlk rfl hP hD hS dX10_append_51
    · refine lv_bipush (v := (-4 : Int32)) S.1 S.2.1 dX10_append_23 (by decide) ?_
      cases h
      exact mi_iretE S hr hlk rfl hP hD hS dX10_append_25
  · refine lv_bipush (v := (-2 : Int32)) S.1 S.2.1 dX10_append_10 (by decide) ?_
    cases h
    exact mi_iretE S hr hlk rfl hP hD hS dX10_append_12
set_option maxHeartbeats 4000000 in
set_option maxRecDepth 100000 in
theorem c_X10_append (l : Launch) (D : va_G) (cA : Nat → ClassId) (a_this a_bytes a_numbers : Nat) (v_this_size : Int32) (v_this_next : Int32) (v_this_start : Int32) (v_this_value : Int32) (f_bytes : Nat → Int32) (x1 : Int32) {r : Int32 × (Int32) × (Nat → Int32)} (h : m_X10_append v_this_size f_bytes x1 = some r) : MEi l yX10_append wsX10_append { frames := 1, cells := 0, slots := 0, locals := 22 } D cA [.ref a_this, .int x1] [(a_this, .inr (10, [.ref a_bytes, .ref a_numbers, .int v_this_size, .int v_this_next, .int v_this_start, .int v_this_value])), (a_bytes, .inl (cA 1, 150, .inl f_bytes))] [(a_this, .inr (10, [.ref a_bytes, .ref a_numbers, .int r.2.1, .int v_this_next, .int v_this_start, .int v_this_value])), (a_bytes, .inl (cA 1, 150, .inl r.2.2))] r.1 := by
  refine mE_of (cc := cX10_append) (maxL := 2) (ret := (some .int)) (Qc := fun A => va_Qi (fun (y : Int32) (_ : Unit) => y = r.1) (gPost D A [(a_this, .inr (10, [.ref a_bytes, .ref a_numbers, .int r.2.1, .int v_this_next, .int v_this_start, .int v_this_value])), (a_bytes, .inl (cA 1, 150, .inl r.2.2))]) A) (by decide) rfl (Nat.le_of_ble_eq_true rfl) ?_
  intro p e s m below meth c A S hr hlk hK hA hP hD hS ls hl
  exact w_X10_append_0 S hr hlk hK hA a_this a_bytes a_numbers v_this_next v_this_start v_this_value v_this_size f_bytes x1 h s.heap [] ls hP hD hS (lv_sub hl [0, 1] rfl)

-- X10_empty
theorem in_X10_empty_X10 : ∀ w ∈ u_ws RX10 TX10 6, w ∈ wsX10_empty := by decide +kernel
theorem lk_X10_empty_23 : Cond.fieldLink RX10 23 (TX10 2).1 (TX10 2).2.1 (TX10 2).2.2.1 ∈ wsX10_empty := by decide +kernel
def m_X10_empty (v_this_size : Int32) : Option (Int32 × (Int32)) := some (v_this_size, (0 : Int32))
def P_X10_empty_0 (p : Program) (l : Launch) (e : Env) (s : State) (m : MethodId) (args : Array Value) (below : List Frame) (meth : Method) (c : Code) (D : va_G) (cA : Nat → ClassId) (A : Nat → Prop) (r : Int32 × (Int32)) (a_this a_bytes a_numbers : Nat) (v_this_size : Int32) (v_this_next : Int32) (v_this_start : Int32) (v_this_value : Int32) : Prop := ∀ (H : Heap) (locs : List Loc) (ls : Array Slot), va_P D vwCl [(a_this, .inr (10, [.ref a_bytes, .ref a_numbers, .int v_this_size, .int v_this_next, .int v_this_start, .int v_this_value]))] H → va_D A [(a_this, .inr (10, [.ref a_bytes, .ref a_numbers, .int v_this_size, .int v_this_next, .int v_this_start, .int v_this_value]))] → va_S A s.heap H locs → lv_has ls 2 [(0, .ref a_this)] → W p l e { frames := 0, cells := 0, slots := 0, locals := 0 } s m args below meth c H locs 0 0 (MQ below (va_Qi (fun (y : Int32) (_ : Unit) => y = r.1) (gPost D A [(a_this, .inr (10, [.ref a_bytes, .ref a_numbers, .int r.2, .int v_this_next, .int v_this_start, .int v_this_value]))]) A) args s 0 0 A) (F0 m 0 ls [])
set_option maxHeartbeats 4000000 in
set_option maxRecDepth 100000 in
theorem w_X10_empty_0 {p : Program} {l : Launch} {e : Env} {s : State} {m : MethodId} {args : Array Value} {below : List Frame} {meth : Method} {c : Code} {D : va_G} {cA : Nat → ClassId} {A : Nat → Prop} {r : Int32 × (Int32)} (S : CallFix p m c cX10_empty 2 s args wsX10_empty RX10) (hr : meth.sig.returnType = some .int) (hlk : meth.locks = false) (hK : gK D cA s) (hA : ∀ q : Nat, s.heap.size ≤ q → A q) (a_this a_bytes a_numbers : Nat) (v_this_next : Int32) (v_this_start : Int32) (v_this_value : Int32) (v_this_size : Int32) (h : m_X10_empty v_this_size = some r) : P_X10_empty_0 p l e s m args below meth c D cA A r a_this a_bytes a_numbers v_this_size v_this_next v_this_start v_this_value := by
  intro H locs ls hP hD hS hl
  unfold m_X10_empty at h
  refine lv_aload_n S.1 S.2.1 dX10_empty_0 rfl (lv_at hl 0 rfl) ?_
  refine mi_get S hK hP in_X10_empty_X10 0 rfl rfl 2 (by decide) lk_X10_empty_23 rfl dX10_empty_1 ?_
  refine lv_istore_n (lv' := [(1, .int v_this_size), (0, .ref a_this)]) S.1 S.2.1 dX10_empty_4 rfl hl (by decide) rfl (fun ls hl => ?_)
  refine lv_aload_n S.1 S.2.1 dX10_empty_5 rfl (lv_at hl 1 rfl) ?_
  refine lv_iconst (v := (0 : Int32)) S.1 S.2.1 dX10_empty_6 (by decide) ?_
  refine mi_put S hK hP hD hS in_X10_empty_X10 tyX10_ok nmX10 0 rfl rfl 2 (by decide) lk_X10_empty_23 rfl (v := .int (0 : Int32)) rfl rfl (Nat.le_of_ble_eq_true rfl) dX10_empty_7 (fun H locs hP hD hS => ?_)
  have hP : va_P D vwCl [(a_this, .inr (10, [.ref a_bytes, .ref a_numbers, .int (0 : Int32), .int v_this_next, .int v_this_start, .int v_this_value]))] H := hP
  have hD : va_D A [(a_this, .inr (10, [.ref a_bytes, .ref a_numbers, .int (0 : Int32), .int v_this_next, .int v_this_start, .int v_this_value]))] := hD
  refine lv_iload_n S.1 S.2.1 dX10_empty_10 rfl (lv_at hl 0 rfl) ?_
  cases h
  exact mi_iretE S hr hlk rfl hP hD hS dX10_empty_11
set_option maxHeartbeats 4000000 in
set_option maxRecDepth 100000 in
theorem c_X10_empty (l : Launch) (D : va_G) (cA : Nat → ClassId) (a_this a_bytes a_numbers : Nat) (v_this_size : Int32) (v_this_next : Int32) (v_this_start : Int32) (v_this_value : Int32) {r : Int32 × (Int32)} (h : m_X10_empty v_this_size = some r) : MEi l yX10_empty wsX10_empty { frames := 0, cells := 0, slots := 0, locals := 0 } D cA [.ref a_this] [(a_this, .inr (10, [.ref a_bytes, .ref a_numbers, .int v_this_size, .int v_this_next, .int v_this_start, .int v_this_value]))] [(a_this, .inr (10, [.ref a_bytes, .ref a_numbers, .int r.2, .int v_this_next, .int v_this_start, .int v_this_value]))] r.1 := by
  refine mE_of (cc := cX10_empty) (maxL := 2) (ret := (some .int)) (Qc := fun A => va_Qi (fun (y : Int32) (_ : Unit) => y = r.1) (gPost D A [(a_this, .inr (10, [.ref a_bytes, .ref a_numbers, .int r.2, .int v_this_next, .int v_this_start, .int v_this_value]))]) A) (by decide) rfl (Nat.le_of_ble_eq_true rfl) ?_
  intro p e s m below meth c A S hr hlk hK hA hP hD hS ls hl
  exact w_X10_empty_0 S hr hlk hK hA a_this a_bytes a_numbers v_this_next v_this_start v_this_value v_this_size h s.heap [] ls hP hD hS (lv_sub hl [0] rfl)

-- X10_byteAt
theorem in_X10_byteAt_X10 : ∀ w ∈ u_ws RX10 TX10 6, w ∈ wsX10_byteAt := by decide +kernel
theorem lk_X10_byteAt_23 : Cond.fieldLink RX10 23 (TX10 2).1 (TX10 2).2.1 (TX10 2).2.2.1 ∈ wsX10_byteAt := by decide +kernel
theorem lk_X10_byteAt_11 : Cond.fieldLink RX10 11 (TX10 0).1 (TX10 0).2.1 (TX10 0).2.2.1 ∈ wsX10_byteAt := by decide +kernel
def m_X10_byteAt (v_this_size : Int32) (f_bytes : Nat → Int32) (x1 : Int32) : Option (Int32) := if x1 < 0 then some (-1 : Int32) else if v_this_size ≤ x1 then some (-1 : Int32) else if (150 : Int32) ≤ x1 then some (-1 : Int32) else mRd f_bytes 150 x1 (fun (t1 : Int32) => some t1)
def P_X10_byteAt_0 (p : Program) (l : Launch) (e : Env) (s : State) (m : MethodId) (args : Array Value) (below : List Frame) (meth : Method) (c : Code) (D : va_G) (cA : Nat → ClassId) (r : Int32) (a_this a_bytes a_numbers : Nat) (v_this_size : Int32) (v_this_next : Int32) (v_this_start : Int32) (v_this_value : Int32) (f_bytes : Nat → Int32) (x1 : Int32) : Prop := va_P D vwCl [(a_this, .inr (10, [.ref a_bytes, .ref a_numbers, .int v_this_size, .int v_this_next, .int v_this_start, .int v_this_value])), (a_bytes, .inl (cA 1, 150, .inl f_bytes))] s.heap → ∀ ls : Array Slot, lv_has ls 2 [(0, .ref a_this), (1, .int x1)] → W p l e { frames := 0, cells := 0, slots := 0, locals := 0 } s m args below meth c s.heap [] 0 0 (MQ below (vp_Si (fun y => y = r)) args s 0 0 (fun _ => False)) (F0 m 0 ls [])
set_option maxHeartbeats 4000000 in
set_option maxRecDepth 100000 in
theorem w_X10_byteAt_0 {p : Program} {l : Launch} {e : Env} {s : State} {m : MethodId} {args : Array Value} {below : List Frame} {meth : Method} {c : Code} {D : va_G} {cA : Nat → ClassId} {r : Int32} (S : CallFix p m c cX10_byteAt 2 s args wsX10_byteAt RX10) (hr : meth.sig.returnType = some .int) (hlk : meth.locks = false) (hK : gK D cA s) (a_this a_bytes a_numbers : Nat) (v_this_size : Int32) (v_this_next : Int32) (v_this_start : Int32) (v_this_value : Int32) (f_bytes : Nat → Int32) (x1 : Int32) (h : m_X10_byteAt v_this_size f_bytes x1 = some r) : P_X10_byteAt_0 p l e s m args below meth c D cA r a_this a_bytes a_numbers v_this_size v_this_next v_this_start v_this_value f_bytes x1 := by
  intro hP ls hl
  unfold m_X10_byteAt at h
  refine lv_iload_n S.1 S.2.1 dX10_byteAt_0 rfl (lv_at hl 1 rfl) ?_
  refine mi_if_lt (tgt := 30) S h dX10_byteAt_1 (by decide) (fun h => ?_) (fun h => ?_)
  · refine lv_iconst (v := (-1 : Int32)) S.1 S.2.1 dX10_byteAt_30 (by decide) ?_
    cases h
    exact mi_iretP S hr hlk rfl dX10_byteAt_31
  · refine lv_iload_n S.1 S.2.1 dX10_byteAt_4 rfl (lv_at hl 1 rfl) ?_
    refine lv_aload_n S.1 S.2.1 dX10_byteAt_5 rfl (lv_at hl 0 rfl) ?_
    refine mi_get S hK hP in_X10_byteAt_X10 0 rfl rfl 2 (by decide) lk_X10_byteAt_23 rfl dX10_byteAt_6 ?_
    refine mi_icmp_ge (tgt := 30) S h dX10_byteAt_9 (by decide) (fun h => ?_) (fun h => ?_)
    · refine lv_iconst (v := (-1 : Int32)) S.1 S.2.1 dX10_byteAt_30 (by decide) ?_
      cases h
      exact mi_iretP S hr hlk rfl dX10_byteAt_31
    · refine lv_iload_n S.1 S.2.1 dX10_byteAt_12 rfl (lv_at hl 1 rfl) ?_
      refine lv_aload_n S.1 S.2.1 dX10_byteAt_13 rfl (lv_at hl 0 rfl) ?_
      refine mi_get S hK hP in_X10_byteAt_X10 0 rfl rfl 0 (by decide) lk_X10_byteAt_11 rfl dX10_byteAt_14 ?_
      refine va_alen S.1 S.2.1 hK.1 hP 1 1 rfl rfl (v := (150 : Int32)) (show Int32.ofNat 150 = (150 : Int32) by decide) dX10_byteAt_17 ?_
      refine mi_icmp_ge (tgt := 30) S h dX10_byteAt_18 (by decide) (fun h => ?_) (fun h => ?_)
      · refine lv_iconst (v := (-1 : Int32)) S.1 S.2.1 dX10_byteAt_30 (by decide) ?_
        cases h
        exact mi_iretP S hr hlk rfl dX10_byteAt_31
      · refine lv_aload_n S.1 S.2.1 dX10_byteAt_21 rfl (lv_at hl 0 rfl) ?_
        refine mi_get S hK hP in_X10_byteAt_X10 0 rfl rfl 0 (by decide) lk_X10_byteAt_11 rfl dX10_byteAt_22 ?_
        refine lv_iload_n S.1 S.2.1 dX10_byteAt_25 rfl (lv_at hl 1 rfl) ?_
        refine mi_bald S hK hP 1 rfl h dX10_byteAt_26 (fun t1 h => ?_)
        refine lv_goto (tgt := 31) S.1 S.2.1 dX10_byteAt_27 (by decide) ?_
        cases h
        exact mi_iretP S hr hlk rfl dX10_byteAt_31
set_option maxHeartbeats 4000000 in
set_option maxRecDepth 100000 in
theorem c_X10_byteAt (l : Launch) (D : va_G) (cA : Nat → ClassId) (a_this a_bytes a_numbers : Nat) (v_this_size : Int32) (v_this_next : Int32) (v_this_start : Int32) (v_this_value : Int32) (f_bytes : Nat → Int32) (x1 : Int32) {r : Int32} (h : m_X10_byteAt v_this_size f_bytes x1 = some r) : MPi l yX10_byteAt wsX10_byteAt { frames := 0, cells := 0, slots := 0, locals := 0 } D cA [.ref a_this, .int x1] [(a_this, .inr (10, [.ref a_bytes, .ref a_numbers, .int v_this_size, .int v_this_next, .int v_this_start, .int v_this_value])), (a_bytes, .inl (cA 1, 150, .inl f_bytes))] r := by
  refine mP_of (cc := cX10_byteAt) (maxL := 2) (ret := (some .int)) (by decide) rfl (Nat.le_of_ble_eq_true rfl) ?_
  intro p e s m below meth c S hr hlk hK hP ls hl
  exact w_X10_byteAt_0 S hr hlk hK a_this a_bytes a_numbers v_this_size v_this_next v_this_start v_this_value f_bytes x1 h hP ls (lv_sub hl [0, 1] rfl)

-- X10_isLetter
theorem nl_X10_isLetter_19 : ((RX10, 19, yX11_within, "CoalWood") : String × Nat × MethodName × String) ∈ nestL := by decide +kernel
theorem li_X10_isLetter_X11 : Cond.initialized RX11 ∈ wsX10_isLetter := by decide +kernel
theorem ls_X10_isLetter_19 : Cond.static yX11_within ∈ wsX10_isLetter := by decide +kernel
def m_X10_isLetter (v_this_size : Int32) (f_bytes : Nat → Int32) (x1 : Int32) : Option (Int32) := mCall (m_X10_byteAt v_this_size f_bytes x1) (fun (r1 : Int32) => mCall (m_X11_within r1 (97 : Int32) (122 : Int32)) (fun (r2 : Int32) => mZ r2 (some r2)))
def P_X10_isLetter_0 (p : Program) (l : Launch) (e : Env) (s : State) (m : MethodId) (args : Array Value) (below : List Frame) (meth : Method) (c : Code) (D : va_G) (cA : Nat → ClassId) (r : Int32) (a_this a_bytes a_numbers : Nat) (v_this_size : Int32) (v_this_next : Int32) (v_this_start : Int32) (v_this_value : Int32) (f_bytes : Nat → Int32) (x1 : Int32) : Prop := va_P D vwCl [(a_this, .inr (10, [.ref a_bytes, .ref a_numbers, .int v_this_size, .int v_this_next, .int v_this_start, .int v_this_value])), (a_bytes, .inl (cA 1, 150, .inl f_bytes))] s.heap → ∀ ls : Array Slot, lv_has ls 2 [(0, .ref a_this), (1, .int x1)] → W p l e { frames := 1, cells := 0, slots := 0, locals := 22 } s m args below meth c s.heap [] 0 0 (MQ below (vp_Si (fun y => y = r)) args s 0 0 (fun _ => False)) (F0 m 0 ls [])
set_option maxHeartbeats 4000000 in
set_option maxRecDepth 100000 in
theorem w_X10_isLetter_0 {p : Program} {l : Launch} {e : Env} {s : State} {m : MethodId} {args : Array Value} {below : List Frame} {meth : Method} {c : Code} {D : va_G} {cA : Nat → ClassId} {r : Int32} (S : CallFix p m c cX10_isLetter 2 s args wsX10_isLetter RX10) (hr : meth.sig.returnType = some .boolean) (hlk : meth.locks = false) (hK : gK D cA s) (a_this a_bytes a_numbers : Nat) (v_this_size : Int32) (v_this_next : Int32) (v_this_start : Int32) (v_this_value : Int32) (f_bytes : Nat → Int32) (x1 : Int32) (h : m_X10_isLetter v_this_size f_bytes x1 = some r) : P_X10_isLetter_0 p l e s m args below meth c D cA r a_this a_bytes a_numbers v_this_size v_this_next v_this_start v_this_value f_bytes x1 := by
  intro hP ls hl
  unfold m_X10_isLetter at h
  refine lv_aload_n S.1 S.2.1 dX10_isLetter_0 rfl (lv_at hl 0 rfl) ?_
  refine lv_iload_n S.1 S.2.1 dX10_isLetter_1 rfl (lv_at hl 1 rfl) ?_
  obtain ⟨r1, hr1, h⟩ := mCall_use h
  refine mc_Pi (va_runV (As := [.int x1]) (rest := []) S (c_X10_byteAt l D cA a_this a_bytes a_numbers v_this_size v_this_next v_this_start v_this_value f_bytes x1 hr1) (cwV 1 S.2.2.2.2 gX10_isLetter_X10_byteAt rfl rfl rfl (by decide +kernel) ⟨Nat.le_of_ble_eq_true rfl, Nat.le_of_ble_eq_true rfl⟩) (pre_PV hK hP [0, 1] rfl (ci := 10) (q0 := 0) rfl rfl) rfl rfl hl.1 rfl (lv_room (Nat.le_of_ble_eq_true rfl)) dX10_isLetter_2 ⟨Nat.le_of_ble_eq_true rfl, Nat.le_of_ble_eq_true rfl⟩) ?_
  refine lv_bipush (v := (97 : Int32)) S.1 S.2.1 dX10_isLetter_5 (by decide) ?_
  refine lv_bipush (v := (122 : Int32)) S.1 S.2.1 dX10_isLetter_7 (by decide) ?_
  obtain ⟨r2, hr2, h⟩ := mCall_use h
  refine mc_Pi (va_runSN (As := [.int r1, .int (97 : Int32), .int (122 : Int32)]) (rest := []) S (c_X11_within l D cA r1 (97 : Int32) (122 : Int32) hr2) ⟨va_cnB 3 S.2.2.2.2 gX10_isLetter_X11_within_n19 rfl rfl rfl (hK.2.1 _ nl_X10_isLetter_19) (S.2.2.2.2 _ li_X10_isLetter_X11) (by decide +kernel) ⟨Nat.le_of_ble_eq_true rfl, Nat.le_of_ble_eq_true rfl⟩, S.2.2.2.2 _ ls_X10_isLetter_19, trivial⟩ (pre_PS hK hP [] rfl) rfl rfl hl.1 rfl (lv_room (Nat.le_of_ble_eq_true rfl)) dX10_isLetter_9 ⟨Nat.le_of_ble_eq_true rfl, Nat.le_of_ble_eq_true rfl⟩) ?_
  obtain ⟨hz, h⟩ := mZ_use h
  cases h
  exact mi_zretP S hr hlk rfl hz dX10_isLetter_12
set_option maxHeartbeats 4000000 in
set_option maxRecDepth 100000 in
theorem c_X10_isLetter (l : Launch) (D : va_G) (cA : Nat → ClassId) (a_this a_bytes a_numbers : Nat) (v_this_size : Int32) (v_this_next : Int32) (v_this_start : Int32) (v_this_value : Int32) (f_bytes : Nat → Int32) (x1 : Int32) {r : Int32} (h : m_X10_isLetter v_this_size f_bytes x1 = some r) : MPi l yX10_isLetter wsX10_isLetter { frames := 1, cells := 0, slots := 0, locals := 22 } D cA [.ref a_this, .int x1] [(a_this, .inr (10, [.ref a_bytes, .ref a_numbers, .int v_this_size, .int v_this_next, .int v_this_start, .int v_this_value])), (a_bytes, .inl (cA 1, 150, .inl f_bytes))] r := by
  refine mP_of (cc := cX10_isLetter) (maxL := 2) (ret := (some .boolean)) (by decide) rfl (Nat.le_of_ble_eq_true rfl) ?_
  intro p e s m below meth c S hr hlk hK hP ls hl
  exact w_X10_isLetter_0 S hr hlk hK a_this a_bytes a_numbers v_this_size v_this_next v_this_start v_this_value f_bytes x1 h hP ls (lv_sub hl [0, 1] rfl)

-- X10_isFigure
theorem nl_X10_isFigure_19 : ((RX10, 19, yX11_within, "CoalWood") : String × Nat × MethodName × String) ∈ nestL := by decide +kernel
theorem li_X10_isFigure_X11 : Cond.initialized RX11 ∈ wsX10_isFigure := by decide +kernel
theorem ls_X10_isFigure_19 : Cond.static yX11_within ∈ wsX10_isFigure := by decide +kernel
def m_X10_isFigure (v_this_size : Int32) (f_bytes : Nat → Int32) (x1 : Int32) : Option (Int32) := mCall (m_X10_byteAt v_this_size f_bytes x1) (fun (r1 : Int32) => mCall (m_X11_within r1 (48 : Int32) (57 : Int32)) (fun (r2 : Int32) => mZ r2 (some r2)))
def P_X10_isFigure_0 (p : Program) (l : Launch) (e : Env) (s : State) (m : MethodId) (args : Array Value) (below : List Frame) (meth : Method) (c : Code) (D : va_G) (cA : Nat → ClassId) (r : Int32) (a_this a_bytes a_numbers : Nat) (v_this_size : Int32) (v_this_next : Int32) (v_this_start : Int32) (v_this_value : Int32) (f_bytes : Nat → Int32) (x1 : Int32) : Prop := va_P D vwCl [(a_this, .inr (10, [.ref a_bytes, .ref a_numbers, .int v_this_size, .int v_this_next, .int v_this_start, .int v_this_value])), (a_bytes, .inl (cA 1, 150, .inl f_bytes))] s.heap → ∀ ls : Array Slot, lv_has ls 2 [(0, .ref a_this), (1, .int x1)] → W p l e { frames := 1, cells := 0, slots := 0, locals := 22 } s m args below meth c s.heap [] 0 0 (MQ below (vp_Si (fun y => y = r)) args s 0 0 (fun _ => False)) (F0 m 0 ls [])
set_option maxHeartbeats 4000000 in
set_option maxRecDepth 100000 in
theorem w_X10_isFigure_0 {p : Program} {l : Launch} {e : Env} {s : State} {m : MethodId} {args : Array Value} {below : List Frame} {meth : Method} {c : Code} {D : va_G} {cA : Nat → ClassId} {r : Int32} (S : CallFix p m c cX10_isFigure 2 s args wsX10_isFigure RX10) (hr : meth.sig.returnType = some .boolean) (hlk : meth.locks = false) (hK : gK D cA s) (a_this a_bytes a_numbers : Nat) (v_this_size : Int32) (v_this_next : Int32) (v_this_start : Int32) (v_this_value : Int32) (f_bytes : Nat → Int32) (x1 : Int32) (h : m_X10_isFigure v_this_size f_bytes x1 = some r) : P_X10_isFigure_0 p l e s m args below meth c D cA r a_this a_bytes a_numbers v_this_size v_this_next v_this_start v_this_value f_bytes x1 := by
  intro hP ls hl
  unfold m_X10_isFigure at h
  refine lv_aload_n S.1 S.2.1 dX10_isFigure_0 rfl (lv_at hl 0 rfl) ?_
  refine lv_iload_n S.1 S.2.1 dX10_isFigure_1 rfl (lv_at hl 1 rfl) ?_
  obtain ⟨r1, hr1, h⟩ := mCall_use h
  refine mc_Pi (va_runV (As := [.int x1]) (rest := []) S (c_X10_byteAt l D cA a_this a_bytes a_numbers v_this_size v_this_next v_this_start v_this_value f_bytes x1 hr1) (cwV 1 S.2.2.2.2 gX10_isFigure_X10_byteAt rfl rfl rfl (by decide +kernel) ⟨Nat.le_of_ble_eq_true rfl, Nat.le_of_ble_eq_true rfl⟩) (pre_PV hK hP [0, 1] rfl (ci := 10) (q0 := 0) rfl rfl) rfl rfl hl.1 rfl (lv_room (Nat.le_of_ble_eq_true rfl)) dX10_isFigure_2 ⟨Nat.le_of_ble_eq_true rfl, Nat.le_of_ble_eq_true rfl⟩) ?_
  refine lv_bipush (v := (48 : Int32)) S.1 S.2.1 dX10_isFigure_5 (by decide) ?_
  refine lv_bipush (v := (57 : Int32)) S.1 S.2.1 dX10_isFigure_7 (by decide) ?_
  obtain ⟨r2, hr2, h⟩ := mCall_use h
  refine mc_Pi (va_runSN (As := [.int r1, .int (48 : Int32), .int (57 : Int32)]) (rest := []) S (c_X11_within l D cA r1 (48 : Int32) (57 : Int32) hr2) ⟨va_cnB 3 S.2.2.2.2 gX10_isFigure_X11_within_n19 rfl rfl rfl (hK.2.1 _ nl_X10_isFigure_19) (S.2.2.2.2 _ li_X10_isFigure_X11) (by decide +kernel) ⟨Nat.le_of_ble_eq_true rfl, Nat.le_of_ble_eq_true rfl⟩, S.2.2.2.2 _ ls_X10_isFigure_19, trivial⟩ (pre_PS hK hP [] rfl) rfl rfl hl.1 rfl (lv_room (Nat.le_of_ble_eq_true rfl)) dX10_isFigure_9 ⟨Nat.le_of_ble_eq_true rfl, Nat.le_of_ble_eq_true rfl⟩) ?_
  obtain ⟨hz, h⟩ := mZ_use h
  cases h
  exact mi_zretP S hr hlk rfl hz dX10_isFigure_12
set_option maxHeartbeats 4000000 in
set_option maxRecDepth 100000 in
theorem c_X10_isFigure (l : Launch) (D : va_G) (cA : Nat → ClassId) (a_this a_bytes a_numbers : Nat) (v_this_size : Int32) (v_this_next : Int32) (v_this_start : Int32) (v_this_value : Int32) (f_bytes : Nat → Int32) (x1 : Int32) {r : Int32} (h : m_X10_isFigure v_this_size f_bytes x1 = some r) : MPi l yX10_isFigure wsX10_isFigure { frames := 1, cells := 0, slots := 0, locals := 22 } D cA [.ref a_this, .int x1] [(a_this, .inr (10, [.ref a_bytes, .ref a_numbers, .int v_this_size, .int v_this_next, .int v_this_start, .int v_this_value])), (a_bytes, .inl (cA 1, 150, .inl f_bytes))] r := by
  refine mP_of (cc := cX10_isFigure) (maxL := 2) (ret := (some .boolean)) (by decide) rfl (Nat.le_of_ble_eq_true rfl) ?_
  intro p e s m below meth c S hr hlk hK hP ls hl
  exact w_X10_isFigure_0 S hr hlk hK a_this a_bytes a_numbers v_this_size v_this_next v_this_start v_this_value f_bytes x1 h hP ls (lv_sub hl [0, 1] rfl)

-- X10_takeNumber
theorem in_X10_takeNumber_X10 : ∀ w ∈ u_ws RX10 TX10 6, w ∈ wsX10_takeNumber := by decide +kernel
theorem lk_X10_takeNumber_56 : Cond.fieldLink RX10 56 (TX10 5).1 (TX10 5).2.1 (TX10 5).2.2.1 ∈ wsX10_takeNumber := by decide +kernel
theorem lk_X10_takeNumber_32 : Cond.fieldLink RX10 32 (TX10 3).1 (TX10 3).2.1 (TX10 3).2.2.1 ∈ wsX10_takeNumber := by decide +kernel
theorem lk_X10_takeNumber_23 : Cond.fieldLink RX10 23 (TX10 2).1 (TX10 2).2.1 (TX10 2).2.2.1 ∈ wsX10_takeNumber := by decide +kernel
theorem lk_X10_takeNumber_46 : Cond.fieldLink RX10 46 (TX10 4).1 (TX10 4).2.1 (TX10 4).2.2.1 ∈ wsX10_takeNumber := by decide +kernel
def m_X10_takeNumber_B63 (v_this_size : Int32) (v_this_start : Int32) (f_bytes : Nat → Int32) (k5 : (Int32) → (Int32) → Option (Int32 × (Int32) × (Int32))) (v_this_next : Int32) (v_this_value : Int32) : Option (Int32 × (Int32) × (Int32)) := mLet (v_this_next + (1 : Int32)) (fun (t1 : Int32) => k5 t1 v_this_value)
def m_X10_takeNumber_B76 (v_this_size : Int32) (v_this_start : Int32) (f_bytes : Nat → Int32) (v_this_next : Int32) (v_this_value : Int32) : Option (Int32 × (Int32) × (Int32)) := if (v_this_next - v_this_start) ≤ (2 : Int32) then some ((1 : Int32), v_this_next, v_this_value) else some ((3 : Int32), v_this_next, v_this_value)
def m_X10_takeNumber_L5 (v_this_size : Int32) (v_this_start : Int32) (f_bytes : Nat → Int32) : Nat → (Int32) → (Int32) → Option (Int32 × (Int32) × (Int32))
  | 0, _, _ => none
  | n + 1, v_this_next, v_this_value => if v_this_size ≤ v_this_next then m_X10_takeNumber_B76 v_this_size v_this_start f_bytes v_this_next v_this_value else mCall (m_X10_isFigure v_this_size f_bytes v_this_next) (fun (r1 : Int32) => if r1 = 0 then m_X10_takeNumber_B76 v_this_size v_this_start f_bytes v_this_next v_this_value else if (2 : Int32) ≤ (v_this_next - v_this_start) then m_X10_takeNumber_B63 v_this_size v_this_start f_bytes (m_X10_takeNumber_L5 v_this_size v_this_start f_bytes n) v_this_next v_this_value else mCall (m_X10_byteAt v_this_size f_bytes v_this_next) (fun (r2 : Int32) => mLet ((((10 : Int32) * v_this_value) + r2) - (48 : Int32)) (fun (t3 : Int32) => m_X10_takeNumber_B63 v_this_size v_this_start f_bytes (m_X10_takeNumber_L5 v_this_size v_this_start f_bytes n) v_this_next t3)))
def m_X10_takeNumber (v_this_size : Int32) (v_this_next : Int32) (v_this_start : Int32) (v_this_value : Int32) (f_bytes : Nat → Int32) : Option (Int32 × (Int32) × (Int32)) := m_X10_takeNumber_L5 v_this_size v_this_start f_bytes mFU v_this_next (0 : Int32)
def P_X10_takeNumber_63 (p : Program) (l : Launch) (e : Env) (s : State) (m : MethodId) (args : Array Value) (below : List Frame) (meth : Method) (c : Code) (D : va_G) (cA : Nat → ClassId) (A : Nat → Prop) (r : Int32 × (Int32) × (Int32)) (a_this a_bytes a_numbers : Nat) (v_this_size : Int32) (v_this_next : Int32) (v_this_start : Int32) (v_this_value : Int32) (f_bytes : Nat → Int32) : Prop := ∀ (H : Heap) (locs : List Loc) (ls : Array Slot), va_P D vwCl [(a_this, .inr (10, [.ref a_bytes, .ref a_numbers, .int v_this_size, .int v_this_next, .int v_this_start, .int v_this_value])), (a_bytes, .inl (cA 1, 150, .inl f_bytes))] H → va_D A [(a_this, .inr (10, [.ref a_bytes, .ref a_numbers, .int v_this_size, .int v_this_next, .int v_this_start, .int v_this_value])), (a_bytes, .inl (cA 1, 150, .inl f_bytes))] → va_S A s.heap H locs → lv_has ls 1 [(0, .ref a_this)] → W p l e { frames := 2, cells := 0, slots := 0, locals := 43 } s m args below meth c H locs 0 0 (MQ below (va_Qi (fun (y : Int32) (_ : Unit) => y = r.1) (gPost D A [(a_this, .inr (10, [.ref a_bytes, .ref a_numbers, .int v_this_size, .int r.2.1, .int v_this_start, .int r.2.2])), (a_bytes, .inl (cA 1, 150, .inl f_bytes))]) A) args s 0 0 A) (F0 m 63 ls [])
def P_X10_takeNumber_76 (p : Program) (l : Launch) (e : Env) (s : State) (m : MethodId) (args : Array Value) (below : List Frame) (meth : Method) (c : Code) (D : va_G) (cA : Nat → ClassId) (A : Nat → Prop) (r : Int32 × (Int32) × (Int32)) (a_this a_bytes a_numbers : Nat) (v_this_size : Int32) (v_this_next : Int32) (v_this_start : Int32) (v_this_value : Int32) (f_bytes : Nat → Int32) : Prop := ∀ (H : Heap) (locs : List Loc) (ls : Array Slot), va_P D vwCl [(a_this, .inr (10, [.ref a_bytes, .ref a_numbers, .int v_this_size, .int v_this_next, .int v_this_start, .int v_this_value])), (a_bytes, .inl (cA 1, 150, .inl f_bytes))] H → va_D A [(a_this, .inr (10, [.ref a_bytes, .ref a_numbers, .int v_this_size, .int v_this_next, .int v_this_start, .int v_this_value])), (a_bytes, .inl (cA 1, 150, .inl f_bytes))] → va_S A s.heap H locs → lv_has ls 1 [(0, .ref a_this)] → W p l e { frames := 2, cells := 0, slots := 0, locals := 43 } s m args below meth c H locs 0 0 (MQ below (va_Qi (fun (y : Int32) (_ : Unit) => y = r.1) (gPost D A [(a_this, .inr (10, [.ref a_bytes, .ref a_numbers, .int v_this_size, .int r.2.1, .int v_this_start, .int r.2.2])), (a_bytes, .inl (cA 1, 150, .inl f_bytes))]) A) args s 0 0 A) (F0 m 76 ls [])
def P_X10_takeNumber_5 (p : Program) (l : Launch) (e : Env) (s : State) (m : MethodId) (args : Array Value) (below : List Frame) (meth : Method) (c : Code) (D : va_G) (cA : Nat → ClassId) (A : Nat → Prop) (r : Int32 × (Int32) × (Int32)) (a_this a_bytes a_numbers : Nat) (v_this_size : Int32) (v_this_next : Int32) (v_this_start : Int32) (v_this_value : Int32) (f_bytes : Nat → Int32) : Prop := ∀ (H : Heap) (locs : List Loc) (ls : Array Slot), va_P D vwCl [(a_this, .inr (10, [.ref a_bytes, .ref a_numbers, .int v_this_size, .int v_this_next, .int v_this_start, .int v_this_value])), (a_bytes, .inl (cA 1, 150, .inl f_bytes))] H → va_D A [(a_this, .inr (10, [.ref a_bytes, .ref a_numbers, .int v_this_size, .int v_this_next, .int v_this_start, .int v_this_value])), (a_bytes, .inl (cA 1, 150, .inl f_bytes))] → va_S A s.heap H locs → lv_has ls 1 [(0, .ref a_this)] → W p l e { frames := 2, cells := 0, slots := 0, locals := 43 } s m args below meth c H locs 0 0 (MQ below (va_Qi (fun (y : Int32) (_ : Unit) => y = r.1) (gPost D A [(a_this, .inr (10, [.ref a_bytes, .ref a_numbers, .int v_this_size, .int r.2.1, .int v_this_start, .int r.2.2])), (a_bytes, .inl (cA 1, 150, .inl f_bytes))]) A) args s 0 0 A) (F0 m 5 ls [])
def P_X10_takeNumber_0 (p : Program) (l : Launch) (e : Env) (s : State) (m : MethodId) (args : Array Value) (below : List Frame) (meth : Method) (c : Code) (D : va_G) (cA : Nat → ClassId) (A : Nat → Prop) (r : Int32 × (Int32) × (Int32)) (a_this a_bytes a_numbers : Nat) (v_this_size : Int32) (v_this_next : Int32) (v_this_start : Int32) (v_this_value : Int32) (f_bytes : Nat → Int32) : Prop := ∀ (H : Heap) (locs : List Loc) (ls : Array Slot), va_P D vwCl [(a_this, .inr (10, [.ref a_bytes, .ref a_numbers, .int v_this_size, .int v_this_next, .int v_this_start, .int v_this_value])), (a_bytes, .inl (cA 1, 150, .inl f_bytes))] H → va_D A [(a_this, .inr (10, [.ref a_bytes, .ref a_numbers, .int v_this_size, .int v_this_next, .int v_this_start, .int v_this_value])), (a_bytes, .inl (cA 1, 150, .inl f_bytes))] → va_S A s.heap H locs → lv_has ls 1 [(0, .ref a_this)] → W p l e { frames := 2, cells := 0, slots := 0, locals := 43 } s m args below meth c H locs 0 0 (MQ below (va_Qi (fun (y : Int32) (_ : Unit) => y = r.1) (gPost D A [(a_this, .inr (10, [.ref a_bytes, .ref a_numbers, .int v_this_size, .int r.2.1, .int v_this_start, .int r.2.2])), (a_bytes, .inl (cA 1, 150, .inl f_bytes))]) A) args s 0 0 A) (F0 m 0 ls [])
set_option maxHeartbeats 4000000 in
set_option maxRecDepth 100000 in
theorem w_X10_takeNumber_63 {p : Program} {l : Launch} {e : Env} {s : State} {m : MethodId} {args : Array Value} {below : List Frame} {meth : Method} {c : Code} {D : va_G} {cA : Nat → ClassId} {A : Nat → Prop} {r : Int32 × (Int32) × (Int32)} (S : CallFix p m c cX10_takeNumber 1 s args wsX10_takeNumber RX10) (hr : meth.sig.returnType = some .int) (hlk : meth.locks = false) (hK : gK D cA s) (hA : ∀ q : Nat, s.heap.size ≤ q → A q) (a_this a_bytes a_numbers : Nat) (v_this_size : Int32) (v_this_start : Int32) (f_bytes : Nat → Int32) {k5 : (Int32) → (Int32) → Option (Int32 × (Int32) × (Int32))} (hk5 : ∀ (v_this_next : Int32) (v_this_value : Int32), k5 v_this_next v_this_value = some r → P_X10_takeNumber_5 p l e s m args below meth c D cA A r a_this a_bytes a_numbers v_this_size v_this_next v_this_start v_this_value f_bytes) (v_this_next : Int32) (v_this_value : Int32) (h : m_X10_takeNumber_B63 v_this_size v_this_start f_bytes k5 v_this_next v_this_value = some r) : P_X10_takeNumber_63 p l e s m args below meth c D cA A r a_this a_bytes a_numbers v_this_size v_this_next v_this_start v_this_value f_bytes := by
  intro H locs ls hP hD hS hl
  unfold m_X10_takeNumber_B63 at h
  refine lv_aload_n S.1 S.2.1 dX10_takeNumber_63 rfl (lv_at hl 0 rfl) ?_
  refine lv_dup S.1 S.2.1 dX10_takeNumber_64 rfl ?_
  refine mi_get S hK hP in_X10_takeNumber_X10 0 rfl rfl 3 (by decide) lk_X10_takeNumber_32 rfl dX10_takeNumber_65 ?_
  refine lv_iconst (v := (1 : Int32)) S.1 S.2.1 dX10_takeNumber_68 (by decide) ?_
  refine lv_iadd S.1 S.2.1 dX10_takeNumber_69 ?_
  refine mi_let h (fun t1 h => ?_)
  refine mi_put S hK hP hD hS in_X10_takeNumber_X10 tyX10_ok nmX10 0 rfl rfl 3 (by decide) lk_X10_takeNumber_32 rfl (v := .int t1) rfl rfl (Nat.le_of_ble_eq_true rfl) dX10_takeNumber_70 (fun H locs hP hD hS => ?_)
  have hP : va_P D vwCl [(a_this, .inr (10, [.ref a_bytes, .ref a_numbers, .int v_this_size, .int t1, .int v_this_start, .int v_this_value])), (a_bytes, .inl (cA 1, 150, .inl f_bytes))] H := hP
  have hD : va_D A [(a_this, .inr (10, [.ref a_bytes, .ref a_numbers, .int v_this_size, .int t1, .int v_this_start, .int v_this_value])), (a_bytes, .inl (cA 1, 150, .inl f_bytes))] := hD
  refine lv_goto (tgt := 5) S.1 S.2.1 dX10_takeNumber_73 (by decide) ?_
  exact hk5 t1 v_this_value h H locs ls hP hD hS (lv_sub hl [0] rfl)
set_option maxHeartbeats 4000000 in
set_option maxRecDepth 100000 in
theorem w_X10_takeNumber_76 {p : Program} {l : Launch} {e : Env} {s : State} {m : MethodId} {args : Array Value} {below : List Frame} {meth : Method} {c : Code} {D : va_G} {cA : Nat → ClassId} {A : Nat → Prop} {r : Int32 × (Int32) × (Int32)} (S : CallFix p m c cX10_takeNumber 1 s args wsX10_takeNumber RX10) (hr : meth.sig.returnType = some .int) (hlk : meth.locks = false) (hK : gK D cA s) (hA : ∀ q : Nat, s.heap.size ≤ q → A q) (a_this a_bytes a_numbers : Nat) (v_this_size : Int32) (v_this_start : Int32) (f_bytes : Nat → Int32) (v_this_next : Int32) (v_this_value : Int32) (h : m_X10_takeNumber_B76 v_this_size v_this_start f_bytes v_this_next v_this_value = some r) : P_X10_takeNumber_76 p l e s m args below meth c D cA A r a_this a_bytes a_numbers v_this_size v_this_next v_this_start v_this_value f_bytes := by
  intro H locs ls hP hD hS hl
  unfold m_X10_takeNumber_B76 at h
  refine lv_aload_n S.1 S.2.1 dX10_takeNumber_76 rfl (lv_at hl 0 rfl) ?_
  refine mi_get S hK hP in_X10_takeNumber_X10 0 rfl rfl 3 (by decide) lk_X10_takeNumber_32 rfl dX10_takeNumber_77 ?_
  refine lv_aload_n S.1 S.2.1 dX10_takeNumber_80 rfl (lv_at hl 0 rfl) ?_
  refine mi_get S hK hP in_X10_takeNumber_X10 0 rfl rfl 4 (by decide) lk_X10_takeNumber_46 rfl dX10_takeNumber_81 ?_
  refine lv_isub S.1 S.2.1 dX10_takeNumber_84 ?_
  refine lv_iconst (v := (2 : Int32)) S.1 S.2.1 dX10_takeNumber_85 (by decide) ?_
  refine mi_icmp_le (tgt := 93) S h dX10_takeNumber_86 (by decide) (fun h => ?_) (fun h => ?_)
  · refine lv_iconst (v := (1 : Int32)) S.1 S.2.1 dX10_takeNumber_93 (by decide) ?_
    cases h
    exact mi_iretE S hr hlk rfl hP hD hS dX10_takeNumber_94
  · refine lv_iconst (v := (3 : Int32)) S.1 S.2.1 dX10_takeNumber_89 (by decide) ?_
    refine lv_goto (tgt := 94) S.1 S.2.1 dX10_takeNumber_90 (by decide) ?_
    cases h
    exact mi_iretE S hr hlk rfl hP hD hS dX10_takeNumber_94
set_option maxHeartbeats 4000000 in
set_option maxRecDepth 100000 in
theorem w_X10_takeNumber_5 {p : Program} {l : Launch} {e : Env} {s : State} {m : MethodId} {args : Array Value} {below : List Frame} {meth : Method} {c : Code} {D : va_G} {cA : Nat → ClassId} {A : Nat → Prop} {r : Int32 × (Int32) × (Int32)} (S : CallFix p m c cX10_takeNumber 1 s args wsX10_takeNumber RX10) (hr : meth.sig.returnType = some .int) (hlk : meth.locks = false) (hK : gK D cA s) (hA : ∀ q : Nat, s.heap.size ≤ q → A q) (a_this a_bytes a_numbers : Nat) (v_this_size : Int32) (v_this_start : Int32) (f_bytes : Nat → Int32) : ∀ (n : Nat) (v_this_next : Int32) (v_this_value : Int32), m_X10_takeNumber_L5 v_this_size v_this_start f_bytes n v_this_next v_this_value = some r → P_X10_takeNumber_5 p l e s m args below meth c D cA A r a_this a_bytes a_numbers v_this_size v_this_next v_this_start v_this_value f_bytes := by
  intro n
  induction n with
  | zero =>
    intro v_this_next v_this_value h
    have h : none = some r := h
    cases h
  | succ n ih =>
    intro v_this_next v_this_value h
    intro H locs ls hP hD hS hl
    rw [m_X10_takeNumber_L5] at h
    refine lv_aload_n S.1 S.2.1 dX10_takeNumber_5 rfl (lv_at hl 0 rfl) ?_
    refine mi_get S hK hP in_X10_takeNumber_X10 0 rfl rfl 3 (by decide) lk_X10_takeNumber_32 rfl dX10_takeNumber_6 ?_
    refine lv_aload_n S.1 S.2.1 dX10_takeNumber_9 rfl (lv_at hl 0 rfl) ?_
    refine mi_get S hK hP in_X10_takeNumber_X10 0 rfl rfl 2 (by decide) lk_X10_takeNumber_23 rfl dX10_takeNumber_10 ?_
    refine mi_icmp_ge (tgt := 76) S h dX10_takeNumber_13 (by decide) (fun h => ?_) (fun h => ?_)
    · exact w_X10_takeNumber_76 S hr hlk hK hA a_this a_bytes a_numbers v_this_size v_this_start f_bytes v_this_next v_this_value h H locs ls hP hD hS (lv_sub hl [0] rfl)
    · refine lv_aload_n S.1 S.2.1 dX10_takeNumber_16 rfl (lv_at hl 0 rfl) ?_
      refine lv_aload_n S.1 S.2.1 dX10_takeNumber_17 rfl (lv_at hl 0 rfl) ?_
      refine mi_get S hK hP in_X10_takeNumber_X10 0 rfl rfl 3 (by decide) lk_X10_takeNumber_32 rfl dX10_takeNumber_18 ?_
      obtain ⟨r1, hr1, h⟩ := mCall_use h
      refine mc_Pi (va_runV (As := [.int v_this_next]) (rest := []) S (c_X10_isFigure l D cA a_this a_bytes a_numbers v_this_size v_this_next v_this_start v_this_value f_bytes v_this_next hr1) (cwV 1 S.2.2.2.2 gX10_takeNumber_X10_isFigure rfl rfl rfl (by decide +kernel) ⟨Nat.le_of_ble_eq_true rfl, Nat.le_of_ble_eq_true rfl⟩) (pre_PV hK hP [0, 1] rfl (ci := 10) (q0 := 0) rfl rfl) rfl rfl hl.1 rfl (lv_room (Nat.le_of_ble_eq_true rfl)) dX10_takeNumber_21 ⟨Nat.le_of_ble_eq_true rfl, Nat.le_of_ble_eq_true rfl⟩) ?_
      refine mi_if_eq (tgt := 76) S h dX10_takeNumber_24 (by decide) (fun h => ?_) (fun h => ?_)
      · exact w_X10_takeNumber_76 S hr hlk hK hA a_this a_bytes a_numbers v_this_size v_this_start f_bytes v_this_next v_this_value h H locs ls hP hD hS (lv_sub hl [0] rfl)
      · refine lv_aload_n S.1 S.2.1 dX10_takeNumber_27 rfl (lv_at hl 0 rfl) ?_
        refine mi_get S hK hP in_X10_takeNumber_X10 0 rfl rfl 3 (by decide) lk_X10_takeNumber_32 rfl dX10_takeNumber_28 ?_
        refine lv_aload_n S.1 S.2.1 dX10_takeNumber_31 rfl (lv_at hl 0 rfl) ?_
        refine mi_get S hK hP in_X10_takeNumber_X10 0 rfl rfl 4 (by decide) lk_X10_takeNumber_46 rfl dX10_takeNumber_32 ?_
        refine lv_isub S.1 S.2.1 dX10_takeNumber_35 ?_
        refine lv_iconst (v := (2 : Int32)) S.1 S.2.1 dX10_takeNumber_36 (by decide) ?_
        refine mi_icmp_ge (tgt := 63) S h dX10_takeNumber_37 (by decide) (fun h => ?_) (fun h => ?_)
        · exact w_X10_takeNumber_63 S hr hlk hK hA a_this a_bytes a_numbers v_this_size v_this_start f_bytes ih v_this_next v_this_value h H locs ls hP hD hS (lv_sub hl [0] rfl)
        · refine lv_aload_n S.1 S.2.1 dX10_takeNumber_40 rfl (lv_at hl 0 rfl) ?_
          refine lv_bipush (v := (10 : Int32)) S.1 S.2.1 dX10_takeNumber_41 (by decide) ?_
          refine lv_aload_n S.1 S.2.1 dX10_takeNumber_43 rfl (lv_at hl 0 rfl) ?_
          refine mi_get S hK hP in_X10_takeNumber_X10 0 rfl rfl 5 (by decide) lk_X10_takeNumber_56 rfl dX10_takeNumber_44 ?_
          refine lv_imul S.1 S.2.1 dX10_takeNumber_47 ?_
          refine lv_aload_n S.1 S.2.1 dX10_takeNumber_48 rfl (lv_at hl 0 rfl) ?_
          refine lv_aload_n S.1 S.2.1 dX10_takeNumber_49 rfl (lv_at hl 0 rfl) ?_
          refine mi_get S hK hP in_X10_takeNumber_X10 0 rfl rfl 3 (by decide) lk_X10_takeNumber_32 rfl dX10_takeNumber_50 ?_
          obtain ⟨r2, hr2, h⟩ := mCall_use h
          refine mc_Pi (va_runV (As := [.int v_this_next]) (rest := [.int ((10 : Int32) * v_this_value), .ref a_this]) S (c_X10_byteAt l D cA a_this a_bytes a_numbers v_this_size v_this_next v_this_start v_this_value f_bytes v_this_next hr2) (cwV 1 S.2.2.2.2 gX10_takeNumber_X10_byteAt rfl rfl rfl (by decide +kernel) ⟨Nat.le_of_ble_eq_true rfl, Nat.le_of_ble_eq_true rfl⟩) (pre_PV hK hP [0, 1] rfl (ci := 10) (q0 := 0) rfl rfl) rfl rfl hl.1 rfl (lv_room (Nat.le_of_ble_eq_true rfl)) dX10_takeNumber_53 ⟨Nat.le_of_ble_eq_true rfl, Nat.le_of_ble_eq_true rfl⟩) ?_
          refine lv_iadd S.1 S.2.1 dX10_takeNumber_56 ?_
          refine lv_bipush (v := (48 : Int32)) S.1 S.2.1 dX10_takeNumber_57 (by decide) ?_
          refine lv_isub S.1 S.2.1 dX10_takeNumber_59 ?_
          refine mi_let h (fun t3 h => ?_)
          refine mi_put S hK hP hD hS in_X10_takeNumber_X10 tyX10_ok nmX10 0 rfl rfl 5 (by decide) lk_X10_takeNumber_56 rfl (v := .int t3) rfl rfl (Nat.le_of_ble_eq_true rfl) dX10_takeNumber_60 (fun H locs hP hD hS => ?_)
          have hP : va_P D vwCl [(a_this, .inr (10, [.ref a_bytes, .ref a_numbers, .int v_this_size, .int v_this_next, .int v_this_start, .int t3])), (a_bytes, .inl (cA 1, 150, .inl f_bytes))] H := hP
          have hD : va_D A [(a_this, .inr (10, [.ref a_bytes, .ref a_numbers, .int v_this_size, .int v_this_next, .int v_this_start, .int t3])), (a_bytes, .inl (cA 1, 150, .inl f_bytes))] := hD
          exact w_X10_takeNumber_63 S hr hlk hK hA a_this a_bytes a_numbers v_this_size v_this_start f_bytes ih v_this_next t3 h H locs ls hP hD hS (lv_sub hl [0] rfl)
set_option maxHeartbeats 4000000 in
set_option maxRecDepth 100000 in
theorem w_X10_takeNumber_0 {p : Program} {l : Launch} {e : Env} {s : State} {m : MethodId} {args : Array Value} {below : List Frame} {meth : Method} {c : Code} {D : va_G} {cA : Nat → ClassId} {A : Nat → Prop} {r : Int32 × (Int32) × (Int32)} (S : CallFix p m c cX10_takeNumber 1 s args wsX10_takeNumber RX10) (hr : meth.sig.returnType = some .int) (hlk : meth.locks = false) (hK : gK D cA s) (hA : ∀ q : Nat, s.heap.size ≤ q → A q) (a_this a_bytes a_numbers : Nat) (v_this_size : Int32) (v_this_start : Int32) (f_bytes : Nat → Int32) (v_this_next : Int32) (v_this_value : Int32) (h : m_X10_takeNumber v_this_size v_this_next v_this_start v_this_value f_bytes = some r) : P_X10_takeNumber_0 p l e s m args below meth c D cA A r a_this a_bytes a_numbers v_this_size v_this_next v_this_start v_this_value f_bytes := by
  intro H locs ls hP hD hS hl
  unfold m_X10_takeNumber at h
  refine lv_aload_n S.1 S.2.1 dX10_takeNumber_0 rfl (lv_at hl 0 rfl) ?_
  refine lv_iconst (v := (0 : Int32)) S.1 S.2.1 dX10_takeNumber_1 (by decide) ?_
  refine mi_put S hK hP hD hS in_X10_takeNumber_X10 tyX10_ok nmX10 0 rfl rfl 5 (by decide) lk_X10_takeNumber_56 rfl (v := .int (0 : Int32)) rfl rfl (Nat.le_of_ble_eq_true rfl) dX10_takeNumber_2 (fun H locs hP hD hS => ?_)
  have hP : va_P D vwCl [(a_this, .inr (10, [.ref a_bytes, .ref a_numbers, .int v_this_size, .int v_this_next, .int v_this_start, .int (0 : Int32)])), (a_bytes, .inl (cA 1, 150, .inl f_bytes))] H := hP
  have hD : va_D A [(a_this, .inr (10, [.ref a_bytes, .ref a_numbers, .int v_this_size, .int v_this_next, .int v_this_start, .int (0 : Int32)])), (a_bytes, .inl (cA 1, 150, .inl f_bytes))] := hD
  exact w_X10_takeNumber_5 S hr hlk hK hA a_this a_bytes a_numbers v_this_size v_this_start f_bytes mFU v_this_next (0 : Int32) h H locs ls hP hD hS (lv_sub hl [0] rfl)
set_option maxHeartbeats 4000000 in
set_option maxRecDepth 100000 in
theorem c_X10_takeNumber (l : Launch) (D : va_G) (cA : Nat → ClassId) (a_this a_bytes a_numbers : Nat) (v_this_size : Int32) (v_this_next : Int32) (v_this_start : Int32) (v_this_value : Int32) (f_bytes : Nat → Int32) {r : Int32 × (Int32) × (Int32)} (h : m_X10_takeNumber v_this_size v_this_next v_this_start v_this_value f_bytes = some r) : MEi l yX10_takeNumber wsX10_takeNumber { frames := 2, cells := 0, slots := 0, locals := 43 } D cA [.ref a_this] [(a_this, .inr (10, [.ref a_bytes, .ref a_numbers, .int v_this_size, .int v_this_next, .int v_this_start, .int v_this_value])), (a_bytes, .inl (cA 1, 150, .inl f_bytes))] [(a_this, .inr (10, [.ref a_bytes, .ref a_numbers, .int v_this_size, .int r.2.1, .int v_this_start, .int r.2.2])), (a_bytes, .inl (cA 1, 150, .inl f_bytes))] r.1 := by
  refine mE_of (cc := cX10_takeNumber) (maxL := 1) (ret := (some .int)) (Qc := fun A => va_Qi (fun (y : Int32) (_ : Unit) => y = r.1) (gPost D A [(a_this, .inr (10, [.ref a_bytes, .ref a_numbers, .int v_this_size, .int r.2.1, .int v_this_start, .int r.2.2])), (a_bytes, .inl (cA 1, 150, .inl f_bytes))]) A) (by decide) rfl (Nat.le_of_ble_eq_true rfl) ?_
  intro p e s m below meth c A S hr hlk hK hA hP hD hS ls hl
  exact w_X10_takeNumber_0 S hr hlk hK hA a_this a_bytes a_numbers v_this_size v_this_start f_bytes v_this_next v_this_value h s.heap [] ls hP hD hS (lv_sub hl [0] rfl)

-- X10_nextToken
theorem in_X10_nextToken_X10 : ∀ w ∈ u_ws RX10 TX10 6, w ∈ wsX10_nextToken := by decide +kernel
theorem lk_X10_nextToken_32 : Cond.fieldLink RX10 32 (TX10 3).1 (TX10 3).2.1 (TX10 3).2.2.1 ∈ wsX10_nextToken := by decide +kernel
theorem lk_X10_nextToken_23 : Cond.fieldLink RX10 23 (TX10 2).1 (TX10 2).2.1 (TX10 2).2.2.1 ∈ wsX10_nextToken := by decide +kernel
theorem lk_X10_nextToken_46 : Cond.fieldLink RX10 46 (TX10 4).1 (TX10 4).2.1 (TX10 4).2.2.1 ∈ wsX10_nextToken := by decide +kernel
def m_X10_nextToken_L69 (v_this_size : Int32) (f_bytes : Nat → Int32) : Nat → (Int32) → (Int32) → (Int32) → Option (Int32 × (Int32) × (Int32) × (Int32))
  | 0, _, _, _ => none
  | n + 1, v_this_next, v_this_start, v_this_value => if v_this_size ≤ v_this_next then some ((0 : Int32), v_this_next, v_this_start, v_this_value) else mCall (m_X10_isLetter v_this_size f_bytes v_this_next) (fun (r1 : Int32) => if r1 = 0 then some ((0 : Int32), v_this_next, v_this_start, v_this_value) else mLet (v_this_next + (1 : Int32)) (fun (t2 : Int32) => m_X10_nextToken_L69 v_this_size f_bytes n t2 v_this_start v_this_value))
def m_X10_nextToken_B37 (v_this_size : Int32) (f_bytes : Nat → Int32) (v_this_next : Int32) (v_this_start : Int32) (v_this_value : Int32) : Option (Int32 × (Int32) × (Int32) × (Int32)) := if v_this_next < v_this_size then mCall (m_X10_isLetter v_this_size f_bytes v_this_next) (fun (r1 : Int32) => if r1 = 0 then mCall (m_X10_isFigure v_this_size f_bytes v_this_next) (fun (r2 : Int32) => if r2 = 0 then mLet (v_this_next + (1 : Int32)) (fun (t3 : Int32) => mCall (m_X10_byteAt v_this_size f_bytes v_this_next) (fun (r4 : Int32) => if r4 = (59 : Int32) then some ((2 : Int32), t3, v_this_next, v_this_value) else some ((3 : Int32), t3, v_this_next, v_this_value))) else mCall (m_X10_takeNumber v_this_size v_this_next v_this_next v_this_value f_bytes) (fun (r5 : Int32 × (Int32) × (Int32)) => some (r5.1, r5.2.1, v_this_next, r5.2.2))) else m_X10_nextToken_L69 v_this_size f_bytes mFU v_this_next v_this_next v_this_value) else some ((4 : Int32), v_this_next, v_this_next, v_this_value)
def m_X10_nextToken_L0 (v_this_size : Int32) (f_bytes : Nat → Int32) : Nat → (Int32) → (Int32) → (Int32) → Option (Int32 × (Int32) × (Int32) × (Int32))
  | 0, _, _, _ => none
  | n + 1, v_this_next, v_this_start, v_this_value => if v_this_size ≤ v_this_next then m_X10_nextToken_B37 v_this_size f_bytes v_this_next v_this_start v_this_value else mCall (m_X10_byteAt v_this_size f_bytes v_this_next) (fun (r1 : Int32) => if r1 = (32 : Int32) then mLet (v_this_next + (1 : Int32)) (fun (t2 : Int32) => m_X10_nextToken_L0 v_this_size f_bytes n t2 v_this_start v_this_value) else m_X10_nextToken_B37 v_this_size f_bytes v_this_next v_this_start v_this_value)
def m_X10_nextToken (v_this_size : Int32) (v_this_next : Int32) (v_this_start : Int32) (v_this_value : Int32) (f_bytes : Nat → Int32) : Option (Int32 × (Int32) × (Int32) × (Int32)) := m_X10_nextToken_L0 v_this_size f_bytes mFU v_this_next v_this_start v_this_value
def P_X10_nextToken_69 (p : Program) (l : Launch) (e : Env) (s : State) (m : MethodId) (args : Array Value) (below : List Frame) (meth : Method) (c : Code) (D : va_G) (cA : Nat → ClassId) (A : Nat → Prop) (r : Int32 × (Int32) × (Int32) × (Int32)) (a_this a_bytes a_numbers : Nat) (v_this_size : Int32) (v_this_next : Int32) (v_this_start : Int32) (v_this_value : Int32) (f_bytes : Nat → Int32) : Prop := ∀ (H : Heap) (locs : List Loc) (ls : Array Slot), va_P D vwCl [(a_this, .inr (10, [.ref a_bytes, .ref a_numbers, .int v_this_size, .int v_this_next, .int v_this_start, .int v_this_value])), (a_bytes, .inl (cA 1, 150, .inl f_bytes))] H → va_D A [(a_this, .inr (10, [.ref a_bytes, .ref a_numbers, .int v_this_size, .int v_this_next, .int v_this_start, .int v_this_value])), (a_bytes, .inl (cA 1, 150, .inl f_bytes))] → va_S A s.heap H locs → lv_has ls 1 [(0, .ref a_this)] → W p l e { frames := 3, cells := 0, slots := 0, locals := 63 } s m args below meth c H locs 0 0 (MQ below (va_Qi (fun (y : Int32) (_ : Unit) => y = r.1) (gPost D A [(a_this, .inr (10, [.ref a_bytes, .ref a_numbers, .int v_this_size, .int r.2.1, .int r.2.2.1, .int r.2.2.2])), (a_bytes, .inl (cA 1, 150, .inl f_bytes))]) A) args s 0 0 A) (F0 m 69 ls [])
def P_X10_nextToken_37 (p : Program) (l : Launch) (e : Env) (s : State) (m : MethodId) (args : Array Value) (below : List Frame) (meth : Method) (c : Code) (D : va_G) (cA : Nat → ClassId) (A : Nat → Prop) (r : Int32 × (Int32) × (Int32) × (Int32)) (a_this a_bytes a_numbers : Nat) (v_this_size : Int32) (v_this_next : Int32) (v_this_start : Int32) (v_this_value : Int32) (f_bytes : Nat → Int32) : Prop := ∀ (H : Heap) (locs : List Loc) (ls : Array Slot), va_P D vwCl [(a_this, .inr (10, [.ref a_bytes, .ref a_numbers, .int v_this_size, .int v_this_next, .int v_this_start, .int v_this_value])), (a_bytes, .inl (cA 1, 150, .inl f_bytes))] H → va_D A [(a_this, .inr (10, [.ref a_bytes, .ref a_numbers, .int v_this_size, .int v_this_next, .int v_this_start, .int v_this_value])), (a_bytes, .inl (cA 1, 150, .inl f_bytes))] → va_S A s.heap H locs → lv_has ls 1 [(0, .ref a_this)] → W p l e { frames := 3, cells := 0, slots := 0, locals := 63 } s m args below meth c H locs 0 0 (MQ below (va_Qi (fun (y : Int32) (_ : Unit) => y = r.1) (gPost D A [(a_this, .inr (10, [.ref a_bytes, .ref a_numbers, .int v_this_size, .int r.2.1, .int r.2.2.1, .int r.2.2.2])), (a_bytes, .inl (cA 1, 150, .inl f_bytes))]) A) args s 0 0 A) (F0 m 37 ls [])
def P_X10_nextToken_0 (p : Program) (l : Launch) (e : Env) (s : State) (m : MethodId) (args : Array Value) (below : List Frame) (meth : Method) (c : Code) (D : va_G) (cA : Nat → ClassId) (A : Nat → Prop) (r : Int32 × (Int32) × (Int32) × (Int32)) (a_this a_bytes a_numbers : Nat) (v_this_size : Int32) (v_this_next : Int32) (v_this_start : Int32) (v_this_value : Int32) (f_bytes : Nat → Int32) : Prop := ∀ (H : Heap) (locs : List Loc) (ls : Array Slot), va_P D vwCl [(a_this, .inr (10, [.ref a_bytes, .ref a_numbers, .int v_this_size, .int v_this_next, .int v_this_start, .int v_this_value])), (a_bytes, .inl (cA 1, 150, .inl f_bytes))] H → va_D A [(a_this, .inr (10, [.ref a_bytes, .ref a_numbers, .int v_this_size, .int v_this_next, .int v_this_start, .int v_this_value])), (a_bytes, .inl (cA 1, 150, .inl f_bytes))] → va_S A s.heap H locs → lv_has ls 1 [(0, .ref a_this)] → W p l e { frames := 3, cells := 0, slots := 0, locals := 63 } s m args below meth c H locs 0 0 (MQ below (va_Qi (fun (y : Int32) (_ : Unit) => y = r.1) (gPost D A [(a_this, .inr (10, [.ref a_bytes, .ref a_numbers, .int v_this_size, .int r.2.1, .int r.2.2.1, .int r.2.2.2])), (a_bytes, .inl (cA 1, 150, .inl f_bytes))]) A) args s 0 0 A) (F0 m 0 ls [])
set_option maxHeartbeats 4000000 in
set_option maxRecDepth 100000 in
theorem w_X10_nextToken_69 {p : Program} {l : Launch} {e : Env} {s : State} {m : MethodId} {args : Array Value} {below : List Frame} {meth : Method} {c : Code} {D : va_G} {cA : Nat → ClassId} {A : Nat → Prop} {r : Int32 × (Int32) × (Int32) × (Int32)} (S : CallFix p m c cX10_nextToken 1 s args wsX10_nextToken RX10) (hr : meth.sig.returnType = some .int) (hlk : meth.locks = false) (hK : gK D cA s) (hA : ∀ q : Nat, s.heap.size ≤ q → A q) (a_this a_bytes a_numbers : Nat) (v_this_size : Int32) (f_bytes : Nat → Int32) : ∀ (n : Nat) (v_this_next : Int32) (v_this_start : Int32) (v_this_value : Int32), m_X10_nextToken_L69 v_this_size f_bytes n v_this_next v_this_start v_this_value = some r → P_X10_nextToken_69 p l e s m args below meth c D cA A r a_this a_bytes a_numbers v_this_size v_this_next v_this_start v_this_value f_bytes := by
  intro n
  induction n with
  | zero =>
    intro v_this_next v_this_start v_this_value h
    have h : none = some r := h
    cases h
  | succ n ih =>
    intro v_this_next v_this_start v_this_value h
    intro H locs ls hP hD hS hl
    rw [m_X10_nextToken_L69] at h
    refine lv_aload_n S.1 S.2.1 dX10_nextToken_69 rfl (lv_at hl 0 rfl) ?_
    refine mi_get S hK hP in_X10_nextToken_X10 0 rfl rfl 3 (by decide) lk_X10_nextToken_32 rfl dX10_nextToken_70 ?_
    refine lv_aload_n S.1 S.2.1 dX10_nextToken_73 rfl (lv_at hl 0 rfl) ?_
    refine mi_get S hK hP in_X10_nextToken_X10 0 rfl rfl 2 (by decide) lk_X10_nextToken_23 rfl dX10_nextToken_74 ?_
    refine mi_icmp_ge (tgt := 104) S h dX10_nextToken_77 (by decide) (fun h => ?_) (fun h => ?_)
    · refine lv_iconst (v := (0 : Int32)) S.1 S.2.1 dX10_nextToken_104 (by decide) ?_
      cases h
      exact mi_iretE S hr hlk rfl hP hD hS dX10_nextToken_105
    · refine lv_aload_n S.1 S.2.1 dX10_nextToken_80 rfl (lv_at hl 0 rfl) ?_
      refine lv_aload_n S.1 S.2.1 dX10_nextToken_81 rfl (lv_at hl 0 rfl) ?_
      refine mi_get S hK hP in_X10_nextToken_X10 0 rfl rfl 3 (by decide) lk_X10_nextToken_32 rfl dX10_nextToken_82 ?_
      obtain ⟨r1, hr1, h⟩ := mCall_use h
      refine mc_Pi (va_runV (As := [.int v_this_next]) (rest := []) S (c_X10_isLetter l D cA a_this a_bytes a_numbers v_this_size v_this_next v_this_start v_this_value f_bytes v_this_next hr1) (cwV 1 S.2.2.2.2 gX10_nextToken_X10_isLetter rfl rfl rfl (by decide +kernel) ⟨Nat.le_of_ble_eq_true rfl, Nat.le_of_ble_eq_true rfl⟩) (pre_PV hK hP [0, 1] rfl (ci := 10) (q0 := 0) rfl rfl) rfl rfl hl.1 rfl (lv_room (Nat.le_of_ble_eq_true rfl)) dX10_nextToken_85 ⟨Nat.le_of_ble_eq_true rfl, Nat.le_of_ble_eq_true rfl⟩) ?_
      refine mi_if_eq (tgt := 104) S h dX10_nextToken_88 (by decide) (fun h => ?_) (fun h => ?_)
      · refine lv_iconst (v := (0 : Int32)) S.1 S.2.1 dX10_nextToken_104 (by decide) ?_
        cases h
        exact mi_iretE S hr hlk rfl hP hD hS dX10_nextToken_105
      · refine lv_aload_n S.1 S.2.1 dX10_nextToken_91 rfl (lv_at hl 0 rfl) ?_
        refine lv_dup S.1 S.2.1 dX10_nextToken_92 rfl ?_
        refine mi_get S hK hP in_X10_nextToken_X10 0 rfl rfl 3 (by decide) lk_X10_nextToken_32 rfl dX10_nextToken_93 ?_
        refine lv_iconst (v := (1 : Int32)) S.1 S.2.1 dX10_nextToken_96 (by decide) ?_
        refine lv_iadd S.1 S.2.1 dX10_nextToken_97 ?_
        refine mi_let h (fun t2 h => ?_)
        refine mi_put S hK hP hD hS in_X10_nextToken_X10 tyX10_ok nmX10 0 rfl rfl 3 (by decide) lk_X10_nextToken_32 rfl (v := .int t2) rfl rfl (Nat.le_of_ble_eq_true rfl) dX10_nextToken_98 (fun H locs hP hD hS => ?_)
        have hP : va_P D vwCl [(a_this, .inr (10, [.ref a_bytes, .ref a_numbers, .int v_this_size, .int t2, .int v_this_start, .int v_this_value])), (a_bytes, .inl (cA 1, 150, .inl f_bytes))] H := hP
        have hD : va_D A [(a_this, .inr (10, [.ref a_bytes, .ref a_numbers, .int v_this_size, .int t2, .int v_this_start, .int v_this_value])), (a_bytes, .inl (cA 1, 150, .inl f_bytes))] := hD
        refine lv_goto (tgt := 69) S.1 S.2.1 dX10_nextToken_101 (by decide) ?_
        exact ih t2 v_this_start v_this_value h H locs ls hP hD hS (lv_sub hl [0] rfl)
set_option maxHeartbeats 4000000 in
set_option maxRecDepth 100000 in
theorem w_X10_nextToken_37 {p : Program} {l : Launch} {e : Env} {s : State} {m : MethodId} {args : Array Value} {below : List Frame} {meth : Method} {c : Code} {D : va_G} {cA : Nat → ClassId} {A : Nat → Prop} {r : Int32 × (Int32) × (Int32) × (Int32)} (S : CallFix p m c cX10_nextToken 1 s args wsX10_nextToken RX10) (hr : meth.sig.returnType = some .int) (hlk : meth.locks = false) (hK : gK D cA s) (hA : ∀ q : Nat, s.heap.size ≤ q → A q) (a_this a_bytes a_numbers : Nat) (v_this_size : Int32) (f_bytes : Nat → Int32) (v_this_next : Int32) (v_this_start : Int32) (v_this_value : Int32) (h : m_X10_nextToken_B37 v_this_size f_bytes v_this_next v_this_start v_this_value = some r) : P_X10_nextToken_37 p l e s m args below meth c D cA A r a_this a_bytes a_numbers v_this_size v_this_next v_this_start v_this_value f_bytes := by
  intro H locs ls hP hD hS hl
  unfold m_X10_nextToken_B37 at h
  refine lv_aload_n S.1 S.2.1 dX10_nextToken_37 rfl (lv_at hl 0 rfl) ?_
  refine lv_aload_n S.1 S.2.1 dX10_nextToken_38 rfl (lv_at hl 0 rfl) ?_
  refine mi_get S hK hP in_X10_nextToken_X10 0 rfl rfl 3 (by decide) lk_X10_nextToken_32 rfl dX10_nextToken_39 ?_
  refine mi_put S hK hP hD hS in_X10_nextToken_X10 tyX10_ok nmX10 0 rfl rfl 4 (by decide) lk_X10_nextToken_46 rfl (v := .int v_this_next) rfl rfl (Nat.le_of_ble_eq_true rfl) dX10_nextToken_42 (fun H locs hP hD hS => ?_)
  have hP : va_P D vwCl [(a_this, .inr (10, [.ref a_bytes, .ref a_numbers, .int v_this_size, .int v_this_next, .int v_this_next, .int v_this_value])), (a_bytes, .inl (cA 1, 150, .inl f_bytes))] H := hP
  have hD : va_D A [(a_this, .inr (10, [.ref a_bytes, .ref a_numbers, .int v_this_size, .int v_this_next, .int v_this_next, .int v_this_value])), (a_bytes, .inl (cA 1, 150, .inl f_bytes))] := hD
  refine lv_aload_n S.1 S.2.1 dX10_nextToken_45 rfl (lv_at hl 0 rfl) ?_
  refine mi_get S hK hP in_X10_nextToken_X10 0 rfl rfl 3 (by decide) lk_X10_nextToken_32 rfl dX10_nextToken_46 ?_
  refine lv_aload_n S.1 S.2.1 dX10_nextToken_49 rfl (lv_at hl 0 rfl) ?_
  refine mi_get S hK hP in_X10_nextToken_X10 0 rfl rfl 2 (by decide) lk_X10_nextToken_23 rfl dX10_nextToken_50 ?_
  refine mi_icmp_lt (tgt := 58) S h dX10_nextToken_53 (by decide) (fun h => ?_) (fun h => ?_)
  · refine lv_aload_n S.1 S.2.1 dX10_nextToken_58 rfl (lv_at hl 0 rfl) ?_
    refine lv_aload_n S.1 S.2.1 dX10_nextToken_59 rfl (lv_at hl 0 rfl) ?_
    refine mi_get S hK hP in_X10_nextToken_X10 0 rfl rfl 3 (by decide) lk_X10_nextToken_32 rfl dX10_nextToken_60 ?_
    obtain ⟨r1, hr1, h⟩ := mCall_use h
    refine mc_Pi (va_runV (As := [.int v_this_next]) (rest := []) S (c_X10_isLetter l D cA a_this a_bytes a_numbers v_this_size v_this_next v_this_next v_this_value f_bytes v_this_next hr1) (cwV 1 S.2.2.2.2 gX10_nextToken_X10_isLetter rfl rfl rfl (by decide +kernel) ⟨Nat.le_of_ble_eq_true rfl, Nat.le_of_ble_eq_true rfl⟩) (pre_PV hK hP [0, 1] rfl (ci := 10) (q0 := 0) rfl rfl) rfl rfl hl.1 rfl (lv_room (Nat.le_of_ble_eq_true rfl)) dX10_nextToken_63 ⟨Nat.le_of_ble_eq_true rfl, Nat.le_of_ble_eq_true rfl⟩) ?_
    refine mi_if_eq (tgt := 106) S h dX10_nextToken_66 (by decide) (fun h => ?_) (fun h => ?_)
    · refine lv_aload_n S.1 S.2.1 dX10_nextToken_106 rfl (lv_at hl 0 rfl) ?_
      refine lv_aload_n S.1 S.2.1 dX10_nextToken_107 rfl (lv_at hl 0 rfl) ?_
      refine mi_get S hK hP in_X10_nextToken_X10 0 rfl rfl 3 (by decide) lk_X10_nextToken_32 rfl dX10_nextToken_108 ?_
      obtain ⟨r2, hr2, h⟩ := mCall_use h
      refine mc_Pi (va_runV (As := [.int v_this_next]) (rest := []) S (c_X10_isFigure l D cA a_this a_bytes a_numbers v_this_size v_this_next v_this_next v_this_value f_bytes v_this_next hr2) (cwV 1 S.2.2.2.2 gX10_nextToken_X10_isFigure rfl rfl rfl (by decide +kernel) ⟨Nat.le_of_ble_eq_true rfl, Nat.le_of_ble_eq_true rfl⟩) (pre_PV hK hP [0, 1] rfl (ci := 10) (q0 := 0) rfl rfl) rfl rfl hl.1 rfl (lv_room (Nat.le_of_ble_eq_true rfl)) dX10_nextToken_111 ⟨Nat.le_of_ble_eq_true rfl, Nat.le_of_ble_eq_true rfl⟩) ?_
      refine mi_if_eq (tgt := 122) S h dX10_nextToken_114 (by decide) (fun h => ?_) (fun h => ?_)
      · refine lv_aload_n S.1 S.2.1 dX10_nextToken_122 rfl (lv_at hl 0 rfl) ?_
        refine lv_dup S.1 S.2.1 dX10_nextToken_123 rfl ?_
        refine mi_get S hK hP in_X10_nextToken_X10 0 rfl rfl 3 (by decide) lk_X10_nextToken_32 rfl dX10_nextToken_124 ?_
        refine lv_iconst (v := (1 : Int32)) S.1 S.2.1 dX10_nextToken_127 (by decide) ?_
        refine lv_iadd S.1 S.2.1 dX10_nextToken_128 ?_
        refine mi_let h (fun t3 h => ?_)
        refine mi_put S hK hP hD hS in_X10_nextToken_X10 tyX10_ok nmX10 0 rfl rfl 3 (by decide) lk_X10_nextToken_32 rfl (v := .int t3) rfl rfl (Nat.le_of_ble_eq_true rfl) dX10_nextToken_129 (fun H locs hP hD hS => ?_)
        have hP : va_P D vwCl [(a_this, .inr (10, [.ref a_bytes, .ref a_numbers, .int v_this_size, .int t3, .int v_this_next, .int v_this_value])), (a_bytes, .inl (cA 1, 150, .inl f_bytes))] H := hP
        have hD : va_D A [(a_this, .inr (10, [.ref a_bytes, .ref a_numbers, .int v_this_size, .int t3, .int v_this_next, .int v_this_value])), (a_bytes, .inl (cA 1, 150, .inl f_bytes))] := hD
        refine lv_aload_n S.1 S.2.1 dX10_nextToken_132 rfl (lv_at hl 0 rfl) ?_
        refine lv_aload_n S.1 S.2.1 dX10_nextToken_133 rfl (lv_at hl 0 rfl) ?_
        refine mi_get S hK hP in_X10_nextToken_X10 0 rfl rfl 4 (by decide) lk_X10_nextToken_46 rfl dX10_nextToken_134 ?_
        obtain ⟨r4, hr4, h⟩ := mCall_use h
        refine mc_Pi (va_runV (As := [.int v_this_next]) (rest := []) S (c_X10_byteAt l D cA a_this a_bytes a_numbers v_this_size t3 v_this_next v_this_value f_bytes v_this_next hr4) (cwV 1 S.2.2.2.2 gX10_nextToken_X10_byteAt rfl rfl rfl (by decide +kernel) ⟨Nat.le_of_ble_eq_true rfl, Nat.le_of_ble_eq_true rfl⟩) (pre_PV hK hP [0, 1] rfl (ci := 10) (q0 := 0) rfl rfl) rfl rfl hl.1 rfl (lv_room (Nat.le_of_ble_eq_true rfl)) dX10_nextToken_137 ⟨Nat.le_of_ble_eq_true rfl, Nat.le_of_ble_eq_true rfl⟩) ?_
        refine lv_bipush (v := (59 : Int32)) S.1 S.2.1 dX10_nextToken_140 (by decide) ?_
        refine mi_icmp_ne (tgt := 149) S h dX10_nextToken_142 (by decide) (fun h => ?_) (fun h => ?_)
        · refine lv_iconst (v := (3 : Int32)) S.1 S.2.1 dX10_nextToken_149 (by decide) ?_
          cases h
          exact mi_iretE S hr hlk rfl hP hD hS dX10_nextToken_150
        · refine lv_iconst (v := (2 : Int32)) S.1 S.2.1 dX10_nextToken_145 (by decide) ?_
          refine lv_goto (tgt := 150) S.1 S.2.1 dX10_nextToken_146 (by decide) ?_
          cases h
          exact mi_iretE S hr hlk rfl hP hD hS dX10_nextToken_150
      · refine lv_aload_n S.1 S.2.1 dX10_nextToken_117 rfl (lv_at hl 0 rfl) ?_
        obtain ⟨r5, hr5, h⟩ := mCall_use h
        refine mc_Ei (W1 := [(a_this, .inr (10, [.ref a_bytes, .ref a_numbers, .int v_this_size, .int r5.2.1, .int v_this_next, .int r5.2.2])), (a_bytes, .inl (cA 1, 150, .inl f_bytes))]) (va_runV (As := []) (rest := []) S (c_X10_takeNumber l D cA a_this a_bytes a_numbers v_this_size v_this_next v_this_next v_this_value f_bytes hr5 H.size) (cwV 0 S.2.2.2.2 gX10_nextToken_X10_takeNumber rfl rfl rfl (by decide +kernel) ⟨Nat.le_of_ble_eq_true rfl, Nat.le_of_ble_eq_true rfl⟩) (pre_EV hK hP hD [0, 1] rfl (by decide) (ci := 10) (q0 := 0) rfl rfl) rfl rfl hl.1 rfl (lv_room (Nat.le_of_ble_eq_true rfl)) dX10_nextToken_118 ⟨Nat.le_of_ble_eq_true rfl, Nat.le_of_ble_eq_true rfl⟩) hP hD hS hA [0, 1] rfl [] (wr := []) rfl (by decide) (by decide) [0, 1] rfl (by decide) (fun H locs hP hD hS => ?_)
        cases h
        exact mi_iretE S hr hlk rfl hP hD hS dX10_nextToken_121
    · exact w_X10_nextToken_69 S hr hlk hK hA a_this a_bytes a_numbers v_this_size f_bytes mFU v_this_next v_this_next v_this_value h H locs ls hP hD hS (lv_sub hl [0] rfl)
  · refine lv_iconst (v := (4 : Int32)) S.1 S.2.1 dX10_nextToken_56 (by decide) ?_
    cases h
    exact mi_iretE S hr hlk rfl hP hD hS dX10_nextToken_57
set_option maxHeartbeats 4000000 in
set_option maxRecDepth 100000 in
theorem w_X10_nextToken_0 {p : Program} {l : Launch} {e : Env} {s : State} {m : MethodId} {args : Array Value} {below : List Frame} {meth : Method} {c : Code} {D : va_G} {cA : Nat → ClassId} {A : Nat → Prop} {r : Int32 × (Int32) × (Int32) × (Int32)} (S : CallFix p m c cX10_nextToken 1 s args wsX10_nextToken RX10) (hr : meth.sig.returnType = some .int) (hlk : meth.locks = false) (hK : gK D cA s) (hA : ∀ q : Nat, s.heap.size ≤ q → A q) (a_this a_bytes a_numbers : Nat) (v_this_size : Int32) (f_bytes : Nat → Int32) : ∀ (n : Nat) (v_this_next : Int32) (v_this_start : Int32) (v_this_value : Int32), m_X10_nextToken_L0 v_this_size f_bytes n v_this_next v_this_start v_this_value = some r → P_X10_nextToken_0 p l e s m args below meth c D cA A r a_this a_bytes a_numbers v_this_size v_this_next v_this_start v_this_value f_bytes := by
  intro n
  induction n with
  | zero =>
    intro v_this_next v_this_start v_this_value h
    have h : none = some r := h
    cases h
  | succ n ih =>
    intro v_this_next v_this_start v_this_value h
    intro H locs ls hP hD hS hl
    rw [m_X10_nextToken_L0] at h
    refine lv_aload_n S.1 S.2.1 dX10_nextToken_0 rfl (lv_at hl 0 rfl) ?_
    refine mi_get S hK hP in_X10_nextToken_X10 0 rfl rfl 3 (by decide) lk_X10_nextToken_32 rfl dX10_nextToken_1 ?_
    refine lv_aload_n S.1 S.2.1 dX10_nextToken_4 rfl (lv_at hl 0 rfl) ?_
    refine mi_get S hK hP in_X10_nextToken_X10 0 rfl rfl 2 (by decide) lk_X10_nextToken_23 rfl dX10_nextToken_5 ?_
    refine mi_icmp_ge (tgt := 37) S h dX10_nextToken_8 (by decide) (fun h => ?_) (fun h => ?_)
    · exact w_X10_nextToken_37 S hr hlk hK hA a_this a_bytes a_numbers v_this_size f_bytes v_this_next v_this_start v_this_value h H locs ls hP hD hS (lv_sub hl [0] rfl)
    · refine lv_aload_n S.1 S.2.1 dX10_nextToken_11 rfl (lv_at hl 0 rfl) ?_
      refine lv_aload_n S.1 S.2.1 dX10_nextToken_12 rfl (lv_at hl 0 rfl) ?_
      refine mi_get S hK hP in_X10_nextToken_X10 0 rfl rfl 3 (by decide) lk_X10_nextToken_32 rfl dX10_nextToken_13 ?_
      obtain ⟨r1, hr1, h⟩ := mCall_use h
      refine mc_Pi (va_runV (As := [.int v_this_next]) (rest := []) S (c_X10_byteAt l D cA a_this a_bytes a_numbers v_this_size v_this_next v_this_start v_this_value f_bytes v_this_next hr1) (cwV 1 S.2.2.2.2 gX10_nextToken_X10_byteAt rfl rfl rfl (by decide +kernel) ⟨Nat.le_of_ble_eq_true rfl, Nat.le_of_ble_eq_true rfl⟩) (pre_PV hK hP [0, 1] rfl (ci := 10) (q0 := 0) rfl rfl) rfl rfl hl.1 rfl (lv_room (Nat.le_of_ble_eq_true rfl)) dX10_nextToken_16 ⟨Nat.le_of_ble_eq_true rfl, Nat.le_of_ble_eq_true rfl⟩) ?_
      refine lv_bipush (v := (32 : Int32)) S.1 S.2.1 dX10_nextToken_19 (by decide) ?_
      refine mi_icmp_ne (tgt := 37) S h dX10_nextToken_21 (by decide) (fun h => ?_) (fun h => ?_)
      · exact w_X10_nextToken_37 S hr hlk hK hA a_this a_bytes a_numbers v_this_size f_bytes v_this_next v_this_start v_this_value h H locs ls hP hD hS (lv_sub hl [0] rfl)
      · refine lv_aload_n S.1 S.2.1 dX10_nextToken_24 rfl (lv_at hl 0 rfl) ?_
        refine lv_dup S.1 S.2.1 dX10_nextToken_25 rfl ?_
        refine mi_get S hK hP in_X10_nextToken_X10 0 rfl rfl 3 (by decide) lk_X10_nextToken_32 rfl dX10_nextToken_26 ?_
        refine lv_iconst (v := (1 : Int32)) S.1 S.2.1 dX10_nextToken_29 (by decide) ?_
        refine lv_iadd S.1 S.2.1 dX10_nextToken_30 ?_
        refine mi_let h (fun t2 h => ?_)
        refine mi_put S hK hP hD hS in_X10_nextToken_X10 tyX10_ok nmX10 0 rfl rfl 3 (by decide) lk_X10_nextToken_32 rfl (v := .int t2) rfl rfl (Nat.le_of_ble_eq_true rfl) dX10_nextToken_31 (fun H locs hP hD hS => ?_)
        have hP : va_P D vwCl [(a_this, .inr (10, [.ref a_bytes, .ref a_numbers, .int v_this_size, .int t2, .int v_this_start, .int v_this_value])), (a_bytes, .inl (cA 1, 150, .inl f_bytes))] H := hP
        have hD : va_D A [(a_this, .inr (10, [.ref a_bytes, .ref a_numbers, .int v_this_size, .int t2, .int v_this_start, .int v_this_value])), (a_bytes, .inl (cA 1, 150, .inl f_bytes))] := hD
        refine lv_goto (tgt := 0) S.1 S.2.1 dX10_nextToken_34 (by decide) ?_
        exact ih t2 v_this_start v_this_value h H locs ls hP hD hS (lv_sub hl [0] rfl)
set_option maxHeartbeats 4000000 in
set_option maxRecDepth 100000 in
theorem c_X10_nextToken (l : Launch) (D : va_G) (cA : Nat → ClassId) (a_this a_bytes a_numbers : Nat) (v_this_size : Int32) (v_this_next : Int32) (v_this_start : Int32) (v_this_value : Int32) (f_bytes : Nat → Int32) {r : Int32 × (Int32) × (Int32) × (Int32)} (h : m_X10_nextToken v_this_size v_this_next v_this_start v_this_value f_bytes = some r) : MEi l yX10_nextToken wsX10_nextToken { frames := 3, cells := 0, slots := 0, locals := 63 } D cA [.ref a_this] [(a_this, .inr (10, [.ref a_bytes, .ref a_numbers, .int v_this_size, .int v_this_next, .int v_this_start, .int v_this_value])), (a_bytes, .inl (cA 1, 150, .inl f_bytes))] [(a_this, .inr (10, [.ref a_bytes, .ref a_numbers, .int v_this_size, .int r.2.1, .int r.2.2.1, .int r.2.2.2])), (a_bytes, .inl (cA 1, 150, .inl f_bytes))] r.1 := by
  refine mE_of (cc := cX10_nextToken) (maxL := 1) (ret := (some .int)) (Qc := fun A => va_Qi (fun (y : Int32) (_ : Unit) => y = r.1) (gPost D A [(a_this, .inr (10, [.ref a_bytes, .ref a_numbers, .int v_this_size, .int r.2.1, .int r.2.2.1, .int r.2.2.2])), (a_bytes, .inl (cA 1, 150, .inl f_bytes))]) A) (by decide) rfl (Nat.le_of_ble_eq_true rfl) ?_
  intro p e s m below meth c A S hr hlk hK hA hP hD hS ls hl
  exact w_X10_nextToken_0 S hr hlk hK hA a_this a_bytes a_numbers v_this_size f_bytes mFU v_this_next v_this_start v_this_value h s.heap [] ls hP hD hS (lv_sub hl [0] rfl)

-- X10_apply
theorem in_X10_apply_X10 : ∀ w ∈ u_ws RX10 TX10 6, w ∈ wsX10_apply := by decide +kernel
theorem lk_X10_apply_15 : Cond.fieldLink RX10 15 (TX10 1).1 (TX10 1).2.1 (TX10 1).2.2.1 ∈ wsX10_apply := by decide +kernel
def m_X10_apply (f_numbers : Nat → Int32) (v_p1_lumps_limit : Int32) (v_p1_lumps_size : Int32) (v_p1_past_size : Int32) (f_p1_lumps_cells : Nat → Int32) (f_p1_prices : Nat → Int32) (f_p1_weathers : Nat → Int32) (x2 : Int32) : Option (Int32 × (Int32) × (Int32) × (Nat → Int32) × (Nat → Int32) × (Nat → Int32)) := if x2 = (1 : Int32) then mRd f_numbers 3 (0 : Int32) (fun (t1 : Int32) => mRd f_numbers 3 (1 : Int32) (fun (t2 : Int32) => mCall (m_X4_setWeather f_p1_weathers t1 t2) (fun (r3 : Int32 × (Nat → Int32)) => some (r3.1, v_p1_lumps_size, v_p1_past_size, f_p1_lumps_cells, f_p1_prices, r3.2)))) else if x2 = (2 : Int32) then mRd f_numbers 3 (0 : Int32) (fun (t4 : Int32) => mRd f_numbers 3 (1 : Int32) (fun (t5 : Int32) => mCall (m_X4_setPrice f_p1_prices t4 t5) (fun (r6 : Int32 × (Nat → Int32)) => some (r6.1, v_p1_lumps_size, v_p1_past_size, f_p1_lumps_cells, r6.2, f_p1_weathers)))) else if x2 = (3 : Int32) then mRd f_numbers 3 (0 : Int32) (fun (t7 : Int32) => mRd f_numbers 3 (1 : Int32) (fun (t8 : Int32) => mRd f_numbers 3 (2 : Int32) (fun (t9 : Int32) => mCall (m_X4_addLump v_p1_lumps_limit v_p1_lumps_size v_p1_past_size f_p1_lumps_cells t7 t8 t9) (fun (r10 : Int32 × (Int32) × (Int32) × (Nat → Int32)) => some (r10.1, r10.2.1, r10.2.2.1, r10.2.2.2, f_p1_prices, f_p1_weathers))))) else some ((0 : Int32), v_p1_lumps_size, v_p1_past_size, f_p1_lumps_cells, f_p1_prices, f_p1_weathers)
def P_X10_apply_0 (p : Program) (l : Launch) (e : Env) (s : State) (m : MethodId) (args : Array Value) (below : List Frame) (meth : Method) (c : Code) (D : va_G) (cA : Nat → ClassId) (A : Nat → Prop) (r : Int32 × (Int32) × (Int32) × (Nat → Int32) × (Nat → Int32) × (Nat → Int32)) (a_this a_bytes a_numbers a_p1 a_p1_kinds a_p1_weathers a_p1_prices a_p1_lumps a_p1_past a_p1_evening a_p1_sights a_p1_glimpses a_p1_shown a_p1_lumps_cells a_p1_past_cells : Nat) (v_this_size : Int32) (v_this_next : Int32) (v_this_start : Int32) (v_this_value : Int32) (f_numbers : Nat → Int32) (v_p1_burnt : Int32) (v_p1_money : Int32) (v_p1_clock : Int32) (v_p1_sightSize : Int32) (v_p1_lumps_limit : Int32) (v_p1_lumps_size : Int32) (v_p1_past_limit : Int32) (v_p1_past_size : Int32) (f_p1_lumps_cells : Nat → Int32) (f_p1_prices : Nat → Int32) (f_p1_weathers : Nat → Int32) (x2 : Int32) : Prop := ∀ (H : Heap) (locs : List Loc) (ls : Array Slot), va_P D vwCl [(a_this, .inr (10, [.ref a_bytes, .ref a_numbers, .int v_this_size, .int v_this_next, .int v_this_start, .int v_this_value])), (a_numbers, .inl (cA 0, 3, .inl f_numbers)), (a_p1, .inr (4, [.ref a_p1_kinds, .ref a_p1_weathers, .ref a_p1_prices, .ref a_p1_lumps, .ref a_p1_past, .ref a_p1_evening, .ref a_p1_sights, .ref a_p1_glimpses, .ref a_p1_shown, .int v_p1_burnt, .int v_p1_money, .int v_p1_clock, .int v_p1_sightSize])), (a_p1_lumps, .inr (9, [.ref a_p1_lumps_cells, .int v_p1_lumps_limit, .int v_p1_lumps_size])), (a_p1_past, .inr (9, [.ref a_p1_past_cells, .int v_p1_past_limit, .int v_p1_past_size])), (a_p1_lumps_cells, .inl (cA 0, 30, .inl f_p1_lumps_cells)), (a_p1_prices, .inl (cA 0, 6, .inl f_p1_prices)), (a_p1_weathers, .inl (cA 0, 12, .inl f_p1_weathers))] H → va_D A [(a_this, .inr (10, [.ref a_bytes, .ref a_numbers, .int v_this_size, .int v_this_next, .int v_this_start, .int v_this_value])), (a_numbers, .inl (cA 0, 3, .inl f_numbers)), (a_p1, .inr (4, [.ref a_p1_kinds, .ref a_p1_weathers, .ref a_p1_prices, .ref a_p1_lumps, .ref a_p1_past, .ref a_p1_evening, .ref a_p1_sights, .ref a_p1_glimpses, .ref a_p1_shown, .int v_p1_burnt, .int v_p1_money, .int v_p1_clock, .int v_p1_sightSize])), (a_p1_lumps, .inr (9, [.ref a_p1_lumps_cells, .int v_p1_lumps_limit, .int v_p1_lumps_size])), (a_p1_past, .inr (9, [.ref a_p1_past_cells, .int v_p1_past_limit, .int v_p1_past_size])), (a_p1_lumps_cells, .inl (cA 0, 30, .inl f_p1_lumps_cells)), (a_p1_prices, .inl (cA 0, 6, .inl f_p1_prices)), (a_p1_weathers, .inl (cA 0, 12, .inl f_p1_weathers))] → va_S A s.heap H locs → lv_has ls 3 [(0, .ref a_this), (1, .ref a_p1), (2, .int x2)] → W p l e { frames := 3, cells := 0, slots := 0, locals := 67 } s m args below meth c H locs 0 0 (MQ below (va_Qi (fun (y : Int32) (_ : Unit) => y = r.1) (gPost D A [(a_this, .inr (10, [.ref a_bytes, .ref a_numbers, .int v_this_size, .int v_this_next, .int v_this_start, .int v_this_value])), (a_numbers, .inl (cA 0, 3, .inl f_numbers)), (a_p1, .inr (4, [.ref a_p1_kinds, .ref a_p1_weathers, .ref a_p1_prices, .ref a_p1_lumps, .ref a_p1_past, .ref a_p1_evening, .ref a_p1_sights, .ref a_p1_glimpses, .ref a_p1_shown, .int v_p1_burnt, .int v_p1_money, .int v_p1_clock, .int v_p1_sightSize])), (a_p1_lumps, .inr (9, [.ref a_p1_lumps_cells, .int v_p1_lumps_limit, .int r.2.1])), (a_p1_past, .inr (9, [.ref a_p1_past_cells, .int v_p1_past_limit, .int r.2.2.1])), (a_p1_lumps_cells, .inl (cA 0, 30, .inl r.2.2.2.1)), (a_p1_prices, .inl (cA 0, 6, .inl r.2.2.2.2.1)), (a_p1_weathers, .inl (cA 0, 12, .inl r.2.2.2.2.2))]) A) args s 0 0 A) (F0 m 0 ls [])
set_option maxHeartbeats 4000000 in
set_option maxRecDepth 100000 in
theorem w_X10_apply_0 {p : Program} {l : Launch} {e : Env} {s : State} {m : MethodId} {args : Array Value} {below : List Frame} {meth : Method} {c : Code} {D : va_G} {cA : Nat → ClassId} {A : Nat → Prop} {r : Int32 × (Int32) × (Int32) × (Nat → Int32) × (Nat → Int32) × (Nat → Int32)} (S : CallFix p m c cX10_apply 3 s args wsX10_apply RX10) (hr : meth.sig.returnType = some .int) (hlk : meth.locks = false) (hK : gK D cA s) (hA : ∀ q : Nat, s.heap.size ≤ q → A q) (a_this a_bytes a_numbers a_p1 a_p1_kinds a_p1_weathers a_p1_prices a_p1_lumps a_p1_past a_p1_evening a_p1_sights a_p1_glimpses a_p1_shown a_p1_lumps_cells a_p1_past_cells : Nat) (v_this_size : Int32) (v_this_next : Int32) (v_this_start : Int32) (v_this_value : Int32) (f_numbers : Nat → Int32) (v_p1_burnt : Int32) (v_p1_money : Int32) (v_p1_clock : Int32) (v_p1_sightSize : Int32) (v_p1_lumps_limit : Int32) (v_p1_past_limit : Int32) (v_p1_lumps_size : Int32) (v_p1_past_size : Int32) (f_p1_lumps_cells : Nat → Int32) (f_p1_prices : Nat → Int32) (f_p1_weathers : Nat → Int32) (x2 : Int32) (h : m_X10_apply f_numbers v_p1_lumps_limit v_p1_lumps_size v_p1_past_size f_p1_lumps_cells f_p1_prices f_p1_weathers x2 = some r) : P_X10_apply_0 p l e s m args below meth c D cA A r a_this a_bytes a_numbers a_p1 a_p1_kinds a_p1_weathers a_p1_prices a_p1_lumps a_p1_past a_p1_evening a_p1_sights a_p1_glimpses a_p1_shown a_p1_lumps_cells a_p1_past_cells v_this_size v_this_next v_this_start v_this_value f_numbers v_p1_burnt v_p1_money v_p1_clock v_p1_sightSize v_p1_lumps_limit v_p1_lumps_size v_p1_past_limit v_p1_past_size f_p1_lumps_cells f_p1_prices f_p1_weathers x2 := by
  intro H locs ls hP hD hS hl
  unfold m_X10_apply at h
  refine lv_iload_n S.1 S.2.1 dX10_apply_0 rfl (lv_at hl 2 rfl) ?_
  by_cases q1 : x2 = (1 : Int32)
  · have h := mIf_t h q1
    refine lv_tableIn (tgt := 28) S.1 S.2.1 dX10_apply_1 (by rw [q1]; decide) (by rw [q1]; decide) (by rw [q1]; rfl) (by decide) ?_
    refine lv_aload_n S.1 S.2.1 dX10_apply_28 rfl (lv_at hl 1 rfl) ?_
    refine lv_aload_n S.1 S.2.1 dX10_apply_29 rfl (lv_at hl 0 rfl) ?_
    refine mi_get S hK hP in_X10_apply_X10 0 rfl rfl 1 (by decide) lk_X10_apply_15 rfl dX10_apply_30 ?_
    refine lv_iconst (v := (0 : Int32)) S.1 S.2.1 dX10_apply_33 (by decide) ?_
    refine mi_iald S hK hP 1 rfl h dX10_apply_34 (fun t1 h => ?_)
    refine lv_aload_n S.1 S.2.1 dX10_apply_35 rfl (lv_at hl 0 rfl) ?_
    refine mi_get S hK hP in_X10_apply_X10 0 rfl rfl 1 (by decide) lk_X10_apply_15 rfl dX10_apply_36 ?_
    refine lv_iconst (v := (1 : Int32)) S.1 S.2.1 dX10_apply_39 (by decide) ?_
    refine mi_iald S hK hP 1 rfl h dX10_apply_40 (fun t2 h => ?_)
    obtain ⟨r3, hr3, h⟩ := mCall_use h
    refine mc_Ei (W1 := [(a_this, .inr (10, [.ref a_bytes, .ref a_numbers, .int v_this_size, .int v_this_next, .int v_this_start, .int v_this_value])), (a_numbers, .inl (cA 0, 3, .inl f_numbers)), (a_p1, .inr (4, [.ref a_p1_kinds, .ref a_p1_weathers, .ref a_p1_prices, .ref a_p1_lumps, .ref a_p1_past, .ref a_p1_evening, .ref a_p1_sights, .ref a_p1_glimpses, .ref a_p1_shown, .int v_p1_burnt, .int v_p1_money, .int v_p1_clock, .int v_p1_sightSize])), (a_p1_lumps, .inr (9, [.ref a_p1_lumps_cells, .int v_p1_lumps_limit, .int v_p1_lumps_size])), (a_p1_past, .inr (9, [.ref a_p1_past_cells, .int v_p1_past_limit, .int v_p1_past_size])), (a_p1_lumps_cells, .inl (cA 0, 30, .inl f_p1_lumps_cells)), (a_p1_prices, .inl (cA 0, 6, .inl f_p1_prices)), (a_p1_weathers, .inl (cA 0, 12, .inl r3.2))]) (va_runV (As := [.int t1, .int t2]) (rest := []) S (c_X4_setWeather l D cA a_p1 a_p1_kinds a_p1_weathers a_p1_prices a_p1_lumps a_p1_past a_p1_evening a_p1_sights a_p1_glimpses a_p1_shown v_p1_burnt v_p1_money v_p1_clock v_p1_sightSize f_p1_weathers t1 t2 hr3 H.size) (cwV 2 S.2.2.2.2 gX10_apply_X4_setWeather rfl rfl rfl (by decide +kernel) ⟨Nat.le_of_ble_eq_true rfl, Nat.le_of_ble_eq_true rfl⟩) (pre_EV hK hP hD [2, 7] rfl (by decide) (ci := 4) (q0 := 2) rfl rfl) rfl rfl hl.1 rfl (lv_room (Nat.le_of_ble_eq_true rfl)) dX10_apply_41 ⟨Nat.le_of_ble_eq_true rfl, Nat.le_of_ble_eq_true rfl⟩) hP hD hS hA [2, 7] rfl [0, 1, 3, 4, 5, 6] (wr := [(a_this, .inr (10, [.ref a_bytes, .ref a_numbers, .int v_this_size, .int v_this_next, .int v_this_start, .int v_this_value])), (a_numbers, .inl (cA 0, 3, .inl f_numbers)), (a_p1_lumps, .inr (9, [.ref a_p1_lumps_cells, .int v_p1_lumps_limit, .int v_p1_lumps_size])), (a_p1_past, .inr (9, [.ref a_p1_past_cells, .int v_p1_past_limit, .int v_p1_past_size])), (a_p1_lumps_cells, .inl (cA 0, 30, .inl f_p1_lumps_cells)), (a_p1_prices, .inl (cA 0, 6, .inl f_p1_prices))]) rfl (by decide) (by decide) [0, 1, 6, 2, 3, 4, 5, 7] rfl (by decide) (fun H locs hP hD hS => ?_)
    cases h
    exact mi_iretE S hr hlk rfl hP hD hS dX10_apply_44
  have h := mIf_e h q1
  by_cases q2 : x2 = (2 : Int32)
  · have h := mIf_t h q2
    refine lv_tableIn (tgt := 45) S.1 S.2.1 dX10_apply_1 (by rw [q2]; decide) (by rw [q2]; decide) (by rw [q2]; rfl) (by decide) ?_
    refine lv_aload_n S.1 S.2.1 dX10_apply_45 rfl (lv_at hl 1 rfl) ?_
    refine lv_aload_n S.1 S.2.1 dX10_apply_46 rfl (lv_at hl 0 rfl) ?_
    refine mi_get S hK hP in_X10_apply_X10 0 rfl rfl 1 (by decide) lk_X10_apply_15 rfl dX10_apply_47 ?_
    refine lv_iconst (v := (0 : Int32)) S.1 S.2.1 dX10_apply_50 (by decide) ?_
    refine mi_iald S hK hP 1 rfl h dX10_apply_51 (fun t4 h => ?_)
    refine lv_aload_n S.1 S.2.1 dX10_apply_52 rfl (lv_at hl 0 rfl) ?_
    refine mi_get S hK hP in_X10_apply_X10 0 rfl rfl 1 (by decide) lk_X10_apply_15 rfl dX10_apply_53 ?_
    refine lv_iconst (v := (1 : Int32)) S.1 S.2.1 dX10_apply_56 (by decide) ?_
    refine mi_iald S hK hP 1 rfl h dX10_apply_57 (fun t5 h => ?_)
    obtain ⟨r6, hr6, h⟩ := mCall_use h
    refine mc_Ei (W1 := [(a_this, .inr (10, [.ref a_bytes, .ref a_numbers, .int v_this_size, .int v_this_next, .int v_this_start, .int v_this_value])), (a_numbers, .inl (cA 0, 3, .inl f_numbers)), (a_p1, .inr (4, [.ref a_p1_kinds, .ref a_p1_weathers, .ref a_p1_prices, .ref a_p1_lumps, .ref a_p1_past, .ref a_p1_evening, .ref a_p1_sights, .ref a_p1_glimpses, .ref a_p1_shown, .int v_p1_burnt, .int v_p1_money, .int v_p1_clock, .int v_p1_sightSize])), (a_p1_lumps, .inr (9, [.ref a_p1_lumps_cells, .int v_p1_lumps_limit, .int v_p1_lumps_size])), (a_p1_past, .inr (9, [.ref a_p1_past_cells, .int v_p1_past_limit, .int v_p1_past_size])), (a_p1_lumps_cells, .inl (cA 0, 30, .inl f_p1_lumps_cells)), (a_p1_prices, .inl (cA 0, 6, .inl r6.2)), (a_p1_weathers, .inl (cA 0, 12, .inl f_p1_weathers))]) (va_runV (As := [.int t4, .int t5]) (rest := []) S (c_X4_setPrice l D cA a_p1 a_p1_kinds a_p1_weathers a_p1_prices a_p1_lumps a_p1_past a_p1_evening a_p1_sights a_p1_glimpses a_p1_shown v_p1_burnt v_p1_money v_p1_clock v_p1_sightSize f_p1_prices t4 t5 hr6 H.size) (cwV 2 S.2.2.2.2 gX10_apply_X4_setPrice rfl rfl rfl (by decide +kernel) ⟨Nat.le_of_ble_eq_true rfl, Nat.le_of_ble_eq_true rfl⟩) (pre_EV hK hP hD [2, 6] rfl (by decide) (ci := 4) (q0 := 2) rfl rfl) rfl rfl hl.1 rfl (lv_room (Nat.le_of_ble_eq_true rfl)) dX10_apply_58 ⟨Nat.le_of_ble_eq_true rfl, Nat.le_of_ble_eq_true rfl⟩) hP hD hS hA [2, 6] rfl [0, 1, 3, 4, 5, 7] (wr := [(a_this, .inr (10, [.ref a_bytes, .ref a_numbers, .int v_this_size, .int v_this_next, .int v_this_start, .int v_this_value])), (a_numbers, .inl (cA 0, 3, .inl f_numbers)), (a_p1_lumps, .inr (9, [.ref a_p1_lumps_cells, .int v_p1_lumps_limit, .int v_p1_lumps_size])), (a_p1_past, .inr (9, [.ref a_p1_past_cells, .int v_p1_past_limit, .int v_p1_past_size])), (a_p1_lumps_cells, .inl (cA 0, 30, .inl f_p1_lumps_cells)), (a_p1_weathers, .inl (cA 0, 12, .inl f_p1_weathers))]) rfl (by decide) (by decide) [0, 1, 6, 2, 3, 4, 7, 5] rfl (by decide) (fun H locs hP hD hS => ?_)
    cases h
    exact mi_iretE S hr hlk rfl hP hD hS dX10_apply_61
  have h := mIf_e h q2
  by_cases q3 : x2 = (3 : Int32)
  · have h := mIf_t h q3
    refine lv_tableIn (tgt := 62) S.1 S.2.1 dX10_apply_1 (by rw [q3]; decide) (by rw [q3]; decide) (by rw [q3]; rfl) (by decide) ?_
    refine lv_aload_n S.1 S.2.1 dX10_apply_62 rfl (lv_at hl 1 rfl) ?_
    refine lv_aload_n S.1 S.2.1 dX10_apply_63 rfl (lv_at hl 0 rfl) ?_
    refine mi_get S hK hP in_X10_apply_X10 0 rfl rfl 1 (by decide) lk_X10_apply_15 rfl dX10_apply_64 ?_
    refine lv_iconst (v := (0 : Int32)) S.1 S.2.1 dX10_apply_67 (by decide) ?_
    refine mi_iald S hK hP 1 rfl h dX10_apply_68 (fun t7 h => ?_)
    refine lv_aload_n S.1 S.2.1 dX10_apply_69 rfl (lv_at hl 0 rfl) ?_
    refine mi_get S hK hP in_X10_apply_X10 0 rfl rfl 1 (by decide) lk_X10_apply_15 rfl dX10_apply_70 ?_
    refine lv_iconst (v := (1 : Int32)) S.1 S.2.1 dX10_apply_73 (by decide) ?_
    refine mi_iald S hK hP 1 rfl h dX10_apply_74 (fun t8 h => ?_)
    refine lv_aload_n S.1 S.2.1 dX10_apply_75 rfl (lv_at hl 0 rfl) ?_
    refine mi_get S hK hP in_X10_apply_X10 0 rfl rfl 1 (by decide) lk_X10_apply_15 rfl dX10_apply_76 ?_
    refine lv_iconst (v := (2 : Int32)) S.1 S.2.1 dX10_apply_79 (by decide) ?_
    refine mi_iald S hK hP 1 rfl h dX10_apply_80 (fun t9 h => ?_)
    obtain ⟨r10, hr10, h⟩ := mCall_use h
    refine mc_Ei (W1 := [(a_this, .inr (10, [.ref a_bytes, .ref a_numbers, .int v_this_size, .int v_this_next, .int v_this_start, .int v_this_value])), (a_numbers, .inl (cA 0, 3, .inl f_numbers)), (a_p1, .inr (4, [.ref a_p1_kinds, .ref a_p1_weathers, .ref a_p1_prices, .ref a_p1_lumps, .ref a_p1_past, .ref a_p1_evening, .ref a_p1_sights, .ref a_p1_glimpses, .ref a_p1_shown, .int v_p1_burnt, .int v_p1_money, .int v_p1_clock, .int v_p1_sightSize])), (a_p1_lumps, .inr (9, [.ref a_p1_lumps_cells, .int v_p1_lumps_limit, .int r10.2.1])), (a_p1_past, .inr (9, [.ref a_p1_past_cells, .int v_p1_past_limit, .int r10.2.2.1])), (a_p1_lumps_cells, .inl (cA 0, 30, .inl r10.2.2.2)), (a_p1_prices, .inl (cA 0, 6, .inl f_p1_prices)), (a_p1_weathers, .inl (cA 0, 12, .inl f_p1_weathers))]) (va_runV (As := [.int t7, .int t8, .int t9]) (rest := []) S (c_X4_addLump l D cA a_p1 a_p1_kinds a_p1_weathers a_p1_prices a_p1_lumps a_p1_past a_p1_evening a_p1_sights a_p1_glimpses a_p1_shown a_p1_lumps_cells a_p1_past_cells v_p1_burnt v_p1_money v_p1_clock v_p1_sightSize v_p1_lumps_limit v_p1_lumps_size v_p1_past_limit v_p1_past_size f_p1_lumps_cells t7 t8 t9 hr10 H.size) (cwV 3 S.2.2.2.2 gX10_apply_X4_addLump rfl rfl rfl (by decide +kernel) ⟨Nat.le_of_ble_eq_true rfl, Nat.le_of_ble_eq_true rfl⟩) (pre_EV hK hP hD [2, 3, 4, 5] rfl (by decide) (ci := 4) (q0 := 2) rfl rfl) rfl rfl hl.1 rfl (lv_room (Nat.le_of_ble_eq_true rfl)) dX10_apply_81 ⟨Nat.le_of_ble_eq_true rfl, Nat.le_of_ble_eq_true rfl⟩) hP hD hS hA [2, 3, 4, 5] rfl [0, 1, 6, 7] (wr := [(a_this, .inr (10, [.ref a_bytes, .ref a_numbers, .int v_this_size, .int v_this_next, .int v_this_start, .int v_this_value])), (a_numbers, .inl (cA 0, 3, .inl f_numbers)), (a_p1_prices, .inl (cA 0, 6, .inl f_p1_prices)), (a_p1_weathers, .inl (cA 0, 12, .inl f_p1_weathers))]) rfl (by decide) (by decide) [0, 1, 4, 5, 6, 7, 2, 3] rfl (by decide) (fun H locs hP hD hS => ?_)
    cases h
    exact mi_iretE S hr hlk rfl hP hD hS dX10_apply_84
  have h := mIf_e h q3
  refine lv_tableOut (tgt := 85) S.1 S.2.1 dX10_apply_1 (sw_out (lo := 1) (hi := 3) 3 (by decide) (fun k hk => match k, hk with | 0, _ => q1 | 1, _ => q2 | 2, _ => q3 | k + 3, hk => absurd hk (by omega))) (by decide) ?_
  refine lv_iconst (v := (0 : Int32)) S.1 S.2.1 dX10_apply_85 (by decide) ?_
  cases h
  exact mi_iretE S hr hlk rfl hP hD hS dX10_apply_86
set_option maxHeartbeats 4000000 in
set_option maxRecDepth 100000 in
theorem c_X10_apply (l : Launch) (D : va_G) (cA : Nat → ClassId) (a_this a_bytes a_numbers a_p1 a_p1_kinds a_p1_weathers a_p1_prices a_p1_lumps a_p1_past a_p1_evening a_p1_sights a_p1_glimpses a_p1_shown a_p1_lumps_cells a_p1_past_cells : Nat) (v_this_size : Int32) (v_this_next : Int32) (v_this_start : Int32) (v_this_value : Int32) (f_numbers : Nat → Int32) (v_p1_burnt : Int32) (v_p1_money : Int32) (v_p1_clock : Int32) (v_p1_sightSize : Int32) (v_p1_lumps_limit : Int32) (v_p1_lumps_size : Int32) (v_p1_past_limit : Int32) (v_p1_past_size : Int32) (f_p1_lumps_cells : Nat → Int32) (f_p1_prices : Nat → Int32) (f_p1_weathers : Nat → Int32) (x2 : Int32) {r : Int32 × (Int32) × (Int32) × (Nat → Int32) × (Nat → Int32) × (Nat → Int32)} (h : m_X10_apply f_numbers v_p1_lumps_limit v_p1_lumps_size v_p1_past_size f_p1_lumps_cells f_p1_prices f_p1_weathers x2 = some r) : MEi l yX10_apply wsX10_apply { frames := 3, cells := 0, slots := 0, locals := 67 } D cA [.ref a_this, .ref a_p1, .int x2] [(a_this, .inr (10, [.ref a_bytes, .ref a_numbers, .int v_this_size, .int v_this_next, .int v_this_start, .int v_this_value])), (a_numbers, .inl (cA 0, 3, .inl f_numbers)), (a_p1, .inr (4, [.ref a_p1_kinds, .ref a_p1_weathers, .ref a_p1_prices, .ref a_p1_lumps, .ref a_p1_past, .ref a_p1_evening, .ref a_p1_sights, .ref a_p1_glimpses, .ref a_p1_shown, .int v_p1_burnt, .int v_p1_money, .int v_p1_clock, .int v_p1_sightSize])), (a_p1_lumps, .inr (9, [.ref a_p1_lumps_cells, .int v_p1_lumps_limit, .int v_p1_lumps_size])), (a_p1_past, .inr (9, [.ref a_p1_past_cells, .int v_p1_past_limit, .int v_p1_past_size])), (a_p1_lumps_cells, .inl (cA 0, 30, .inl f_p1_lumps_cells)), (a_p1_prices, .inl (cA 0, 6, .inl f_p1_prices)), (a_p1_weathers, .inl (cA 0, 12, .inl f_p1_weathers))] [(a_this, .inr (10, [.ref a_bytes, .ref a_numbers, .int v_this_size, .int v_this_next, .int v_this_start, .int v_this_value])), (a_numbers, .inl (cA 0, 3, .inl f_numbers)), (a_p1, .inr (4, [.ref a_p1_kinds, .ref a_p1_weathers, .ref a_p1_prices, .ref a_p1_lumps, .ref a_p1_past, .ref a_p1_evening, .ref a_p1_sights, .ref a_p1_glimpses, .ref a_p1_shown, .int v_p1_burnt, .int v_p1_money, .int v_p1_clock, .int v_p1_sightSize])), (a_p1_lumps, .inr (9, [.ref a_p1_lumps_cells, .int v_p1_lumps_limit, .int r.2.1])), (a_p1_past, .inr (9, [.ref a_p1_past_cells, .int v_p1_past_limit, .int r.2.2.1])), (a_p1_lumps_cells, .inl (cA 0, 30, .inl r.2.2.2.1)), (a_p1_prices, .inl (cA 0, 6, .inl r.2.2.2.2.1)), (a_p1_weathers, .inl (cA 0, 12, .inl r.2.2.2.2.2))] r.1 := by
  refine mE_of (cc := cX10_apply) (maxL := 3) (ret := (some .int)) (Qc := fun A => va_Qi (fun (y : Int32) (_ : Unit) => y = r.1) (gPost D A [(a_this, .inr (10, [.ref a_bytes, .ref a_numbers, .int v_this_size, .int v_this_next, .int v_this_start, .int v_this_value])), (a_numbers, .inl (cA 0, 3, .inl f_numbers)), (a_p1, .inr (4, [.ref a_p1_kinds, .ref a_p1_weathers, .ref a_p1_prices, .ref a_p1_lumps, .ref a_p1_past, .ref a_p1_evening, .ref a_p1_sights, .ref a_p1_glimpses, .ref a_p1_shown, .int v_p1_burnt, .int v_p1_money, .int v_p1_clock, .int v_p1_sightSize])), (a_p1_lumps, .inr (9, [.ref a_p1_lumps_cells, .int v_p1_lumps_limit, .int r.2.1])), (a_p1_past, .inr (9, [.ref a_p1_past_cells, .int v_p1_past_limit, .int r.2.2.1])), (a_p1_lumps_cells, .inl (cA 0, 30, .inl r.2.2.2.1)), (a_p1_prices, .inl (cA 0, 6, .inl r.2.2.2.2.1)), (a_p1_weathers, .inl (cA 0, 12, .inl r.2.2.2.2.2))]) A) (by decide) rfl (Nat.le_of_ble_eq_true rfl) ?_
  intro p e s m below meth c A S hr hlk hK hA hP hD hS ls hl
  exact w_X10_apply_0 S hr hlk hK hA a_this a_bytes a_numbers a_p1 a_p1_kinds a_p1_weathers a_p1_prices a_p1_lumps a_p1_past a_p1_evening a_p1_sights a_p1_glimpses a_p1_shown a_p1_lumps_cells a_p1_past_cells v_this_size v_this_next v_this_start v_this_value f_numbers v_p1_burnt v_p1_money v_p1_clock v_p1_sightSize v_p1_lumps_limit v_p1_past_limit v_p1_lumps_size v_p1_past_size f_p1_lumps_cells f_p1_prices f_p1_weathers x2 h s.heap [] ls hP hD hS (lv_sub hl [0, 1, 2] rfl)

