-- X11_within
def m_X11_within (x0 : Int32) (x1 : Int32) (x2 : Int32) : Option (Int32) := if x0 < x1 then some (0 : Int32) else if x2 < x0 then some (0 : Int32) else some (1 : Int32)
def P_X11_within_0 (p : Program) (l : Launch) (e : Env) (s : State) (m : MethodId) (args : Array Value) (below : List Frame) (meth : Method) (c : Code) (D : va_G) (cA : Nat → ClassId) (r : Int32) (x0 : Int32) (x1 : Int32) (x2 : Int32) : Prop := va_P D vwCl [] s.heap → ∀ ls : Array Slot, lv_has ls 3 [(0, .int x0), (1, .int x1), (2, .int x2)] → W p l e { frames := 0, cells := 0, slots := 0, locals := 0 } s m args below meth c s.heap [] 0 0 (MQ below (vp_Si (fun y => y = r)) args s 0 0 (fun _ => False)) (F0 m 0 ls [])
set_option maxHeartbeats 4000000 in
set_option maxRecDepth 100000 in
theorem w_X11_within_0 {p : Program} {l : Launch} {e : Env} {s : State} {m : MethodId} {args : Array Value} {below : List Frame} {meth : Method} {c : Code} {D : va_G} {cA : Nat → ClassId} {r : Int32} (S : CallFix p m c cX11_within 3 s args wsX11_within RX11) (hr : meth.sig.returnType = some .boolean) (hlk : meth.locks = false) (hK : gK D cA s) (x0 : Int32) (x1 : Int32) (x2 : Int32) (h : m_X11_within x0 x1 x2 = some r) : P_X11_within_0 p l e s m args below meth c D cA r x0 x1 x2 := by
  intro hP ls hl
  unfold m_X11_within at h
  refine lv_iload_n S.1 S.2.1 dX11_within_0 rfl (lv_at hl 0 rfl) ?_
  refine lv_iload_n S.1 S.2.1 dX11_within_1 rfl (lv_at hl 1 rfl) ?_
  refine mi_icmp_lt (tgt := 14) S h dX11_within_2 (by decide) (fun h => ?_) (fun h => ?_)
  · refine lv_iconst (v := (0 : Int32)) S.1 S.2.1 dX11_within_14 (by decide) ?_
    cases h
    exact mi_zretP S hr hlk rfl (by decide) dX11_within_15
  · refine lv_iload_n S.1 S.2.1 dX11_within_5 rfl (lv_at hl 0 rfl) ?_
    refine lv_iload_n S.1 S.2.1 dX11_within_6 rfl (lv_at hl 2 rfl) ?_
    refine mi_icmp_gt (tgt := 14) S h dX11_within_7 (by decide) (fun h => ?_) (fun h => ?_)
    · refine lv_iconst (v := (0 : Int32)) S.1 S.2.1 dX11_within_14 (by decide) ?_
      cases h
      exact mi_zretP S hr hlk rfl (by decide) dX11_within_15
    · refine lv_iconst (v := (1 : Int32)) S.1 S.2.1 dX11_within_10 (by decide) ?_
      refine lv_goto (tgt := 15) S.1 S.2.1 dX11_within_11 (by decide) ?_
      cases h
      exact mi_zretP S hr hlk rfl (by decide) dX11_within_15
set_option maxHeartbeats 4000000 in
set_option maxRecDepth 100000 in
theorem c_X11_within (l : Launch) (D : va_G) (cA : Nat → ClassId) (x0 : Int32) (x1 : Int32) (x2 : Int32) {r : Int32} (h : m_X11_within x0 x1 x2 = some r) : MPi l yX11_within wsX11_within { frames := 0, cells := 0, slots := 0, locals := 0 } D cA [.int x0, .int x1, .int x2] [] r := by
  refine mP_of (cc := cX11_within) (maxL := 3) (ret := (some .boolean)) (by decide) rfl (Nat.le_of_ble_eq_true rfl) ?_
  intro p e s m below meth c S hr hlk hK hP ls hl
  exact w_X11_within_0 S hr hlk hK x0 x1 x2 h hP ls (lv_sub hl [0, 1, 2] rfl)

-- X11_isLayer
def m_X11_isLayer (x0 : Int32) : Option (Int32) := mCall (m_X11_within x0 (0 : Int32) (11 : Int32)) (fun (r1 : Int32) => mZ r1 (some r1))
def P_X11_isLayer_0 (p : Program) (l : Launch) (e : Env) (s : State) (m : MethodId) (args : Array Value) (below : List Frame) (meth : Method) (c : Code) (D : va_G) (cA : Nat → ClassId) (r : Int32) (x0 : Int32) : Prop := va_P D vwCl [] s.heap → ∀ ls : Array Slot, lv_has ls 1 [(0, .int x0)] → W p l e { frames := 1, cells := 0, slots := 0, locals := 22 } s m args below meth c s.heap [] 0 0 (MQ below (vp_Si (fun y => y = r)) args s 0 0 (fun _ => False)) (F0 m 0 ls [])
set_option maxHeartbeats 4000000 in
set_option maxRecDepth 100000 in
theorem w_X11_isLayer_0 {p : Program} {l : Launch} {e : Env} {s : State} {m : MethodId} {args : Array Value} {below : List Frame} {meth : Method} {c : Code} {D : va_G} {cA : Nat → ClassId} {r : Int32} (S : CallFix p m c cX11_isLayer 1 s args wsX11_isLayer RX11) (hr : meth.sig.returnType = some .boolean) (hlk : meth.locks = false) (hK : gK D cA s) (x0 : Int32) (h : m_X11_isLayer x0 = some r) : P_X11_isLayer_0 p l e s m args below meth c D cA r x0 := by
  intro hP ls hl
  unfold m_X11_isLayer at h
  refine lv_iload_n S.1 S.2.1 dX11_isLayer_0 rfl (lv_at hl 0 rfl) ?_
  refine lv_iconst (v := (0 : Int32)) S.1 S.2.1 dX11_isLayer_1 (by decide) ?_
  refine lv_bipush (v := (11 : Int32)) S.1 S.2.1 dX11_isLayer_2 (by decide) ?_
  obtain ⟨r1, hr1, h⟩ := mCall_use h
  refine mc_Pi (va_runS (As := [.int x0, .int (0 : Int32), .int (11 : Int32)]) (rest := []) S (c_X11_within l D cA x0 (0 : Int32) (11 : Int32) hr1) (va_cwS 3 S.2.2.2.2 gX11_isLayer_X11_within rfl rfl rfl (by decide +kernel) ⟨Nat.le_of_ble_eq_true rfl, Nat.le_of_ble_eq_true rfl⟩) (pre_PS hK hP [] rfl) rfl rfl hl.1 rfl (lv_room (Nat.le_of_ble_eq_true rfl)) dX11_isLayer_4 ⟨Nat.le_of_ble_eq_true rfl, Nat.le_of_ble_eq_true rfl⟩) ?_
  obtain ⟨hz, h⟩ := mZ_use h
  cases h
  exact mi_zretP S hr hlk rfl hz dX11_isLayer_7
set_option maxHeartbeats 4000000 in
set_option maxRecDepth 100000 in
theorem c_X11_isLayer (l : Launch) (D : va_G) (cA : Nat → ClassId) (x0 : Int32) {r : Int32} (h : m_X11_isLayer x0 = some r) : MPi l yX11_isLayer wsX11_isLayer { frames := 1, cells := 0, slots := 0, locals := 22 } D cA [.int x0] [] r := by
  refine mP_of (cc := cX11_isLayer) (maxL := 1) (ret := (some .boolean)) (by decide) rfl (Nat.le_of_ble_eq_true rfl) ?_
  intro p e s m below meth c S hr hlk hK hP ls hl
  exact w_X11_isLayer_0 S hr hlk hK x0 h hP ls (lv_sub hl [0] rfl)

-- X9_at
theorem in_X9_at_X9 : ∀ w ∈ u_ws RX9 TX9 3, w ∈ wsX9_at := by decide +kernel
theorem lk_X9_at_25 : Cond.fieldLink RX9 25 (TX9 2).1 (TX9 2).2.1 (TX9 2).2.2.1 ∈ wsX9_at := by decide +kernel
theorem lk_X9_at_11 : Cond.fieldLink RX9 11 (TX9 0).1 (TX9 0).2.1 (TX9 0).2.2.1 ∈ wsX9_at := by decide +kernel
def m_X9_at (v_this_size : Int32) (f_cells : Nat → Int32) (x1 : Int32) (x2 : Int32) : Option (Int32) := if x1 < 0 then some (-1 : Int32) else if v_this_size ≤ x1 then some (-1 : Int32) else if (10 : Int32) ≤ x1 then some (-1 : Int32) else if x2 < 0 then some (-1 : Int32) else if x2 < (3 : Int32) then mRd f_cells 30 ((x1 * (3 : Int32)) + x2) (fun (t1 : Int32) => some t1) else some (-1 : Int32)
def P_X9_at_0 (p : Program) (l : Launch) (e : Env) (s : State) (m : MethodId) (args : Array Value) (below : List Frame) (meth : Method) (c : Code) (D : va_G) (cA : Nat → ClassId) (r : Int32) (a_this a_cells : Nat) (v_this_limit : Int32) (v_this_size : Int32) (f_cells : Nat → Int32) (x1 : Int32) (x2 : Int32) : Prop := va_P D vwCl [(a_this, .inr (9, [.ref a_cells, .int v_this_limit, .int v_this_size])), (a_cells, .inl (cA 0, 30, .inl f_cells))] s.heap → ∀ ls : Array Slot, lv_has ls 3 [(0, .ref a_this), (1, .int x1), (2, .int x2)] → W p l e { frames := 0, cells := 0, slots := 0, locals := 0 } s m args below meth c s.heap [] 0 0 (MQ below (vp_Si (fun y => y = r)) args s 0 0 (fun _ => False)) (F0 m 0 ls [])
set_option maxHeartbeats 4000000 in
set_option maxRecDepth 100000 in
theorem w_X9_at_0 {p : Program} {l : Launch} {e : Env} {s : State} {m : MethodId} {args : Array Value} {below : List Frame} {meth : Method} {c : Code} {D : va_G} {cA : Nat → ClassId} {r : Int32} (S : CallFix p m c cX9_at 3 s args wsX9_at RX9) (hr : meth.sig.returnType = some .int) (hlk : meth.locks = false) (hK : gK D cA s) (a_this a_cells : Nat) (v_this_limit : Int32) (v_this_size : Int32) (f_cells : Nat → Int32) (x1 : Int32) (x2 : Int32) (h : m_X9_at v_this_size f_cells x1 x2 = some r) : P_X9_at_0 p l e s m args below meth c D cA r a_this a_cells v_this_limit v_this_size f_cells x1 x2 := by
  intro hP ls hl
  unfold m_X9_at at h
  refine lv_iload_n S.1 S.2.1 dX9_at_0 rfl (lv_at hl 1 rfl) ?_
  refine mi_if_lt (tgt := 27) S h dX9_at_1 (by decide) (fun h => ?_) (fun h => ?_)
  · refine lv_iconst (v := (-1 : Int32)) S.1 S.2.1 dX9_at_27 (by decide) ?_
    cases h
    exact mi_iretP S hr hlk rfl dX9_at_28
  · refine lv_iload_n S.1 S.2.1 dX9_at_4 rfl (lv_at hl 1 rfl) ?_
    refine lv_aload_n S.1 S.2.1 dX9_at_5 rfl (lv_at hl 0 rfl) ?_
    refine mi_get S hK hP in_X9_at_X9 0 rfl rfl 2 (by decide) lk_X9_at_25 rfl dX9_at_6 ?_
    refine mi_icmp_ge (tgt := 27) S h dX9_at_9 (by decide) (fun h => ?_) (fun h => ?_)
    · refine lv_iconst (v := (-1 : Int32)) S.1 S.2.1 dX9_at_27 (by decide) ?_
      cases h
      exact mi_iretP S hr hlk rfl dX9_at_28
    · refine lv_iload_n S.1 S.2.1 dX9_at_12 rfl (lv_at hl 1 rfl) ?_
      refine lv_bipush (v := (10 : Int32)) S.1 S.2.1 dX9_at_13 (by decide) ?_
      refine mi_icmp_ge (tgt := 27) S h dX9_at_15 (by decide) (fun h => ?_) (fun h => ?_)
      · refine lv_iconst (v := (-1 : Int32)) S.1 S.2.1 dX9_at_27 (by decide) ?_
        cases h
        exact mi_iretP S hr hlk rfl dX9_at_28
      · refine lv_iload_n S.1 S.2.1 dX9_at_18 rfl (lv_at hl 2 rfl) ?_
        refine mi_if_lt (tgt := 27) S h dX9_at_19 (by decide) (fun h => ?_) (fun h => ?_)
        · refine lv_iconst (v := (-1 : Int32)) S.1 S.2.1 dX9_at_27 (by decide) ?_
          cases h
          exact mi_iretP S hr hlk rfl dX9_at_28
        · refine lv_iload_n S.1 S.2.1 dX9_at_22 rfl (lv_at hl 2 rfl) ?_
          refine lv_iconst (v := (3 : Int32)) S.1 S.2.1 dX9_at_23 (by decide) ?_
          refine mi_icmp_lt (tgt := 29) S h dX9_at_24 (by decide) (fun h => ?_) (fun h => ?_)
          · refine lv_aload_n S.1 S.2.1 dX9_at_29 rfl (lv_at hl 0 rfl) ?_
            refine mi_get S hK hP in_X9_at_X9 0 rfl rfl 0 (by decide) lk_X9_at_11 rfl dX9_at_30 ?_
            refine lv_iload_n S.1 S.2.1 dX9_at_33 rfl (lv_at hl 1 rfl) ?_
            refine lv_iconst (v := (3 : Int32)) S.1 S.2.1 dX9_at_34 (by decide) ?_
            refine lv_imul S.1 S.2.1 dX9_at_35 ?_
            refine lv_iload_n S.1 S.2.1 dX9_at_36 rfl (lv_at hl 2 rfl) ?_
            refine lv_iadd S.1 S.2.1 dX9_at_37 ?_
            refine mi_iald S hK hP 1 rfl h dX9_at_38 (fun t1 h => ?_)
            cases h
            exact mi_iretP S hr hlk rfl dX9_at_39
          · refine lv_iconst (v := (-1 : Int32)) S.1 S.2.1 dX9_at_27 (by decide) ?_
            cases h
            exact mi_iretP S hr hlk rfl dX9_at_28
set_option maxHeartbeats 4000000 in
set_option maxRecDepth 100000 in
theorem c_X9_at (l : Launch) (D : va_G) (cA : Nat → ClassId) (a_this a_cells : Nat) (v_this_limit : Int32) (v_this_size : Int32) (f_cells : Nat → Int32) (x1 : Int32) (x2 : Int32) {r : Int32} (h : m_X9_at v_this_size f_cells x1 x2 = some r) : MPi l yX9_at wsX9_at { frames := 0, cells := 0, slots := 0, locals := 0 } D cA [.ref a_this, .int x1, .int x2] [(a_this, .inr (9, [.ref a_cells, .int v_this_limit, .int v_this_size])), (a_cells, .inl (cA 0, 30, .inl f_cells))] r := by
  refine mP_of (cc := cX9_at) (maxL := 3) (ret := (some .int)) (by decide) rfl (Nat.le_of_ble_eq_true rfl) ?_
  intro p e s m below meth c S hr hlk hK hP ls hl
  exact w_X9_at_0 S hr hlk hK a_this a_cells v_this_limit v_this_size f_cells x1 x2 h hP ls (lv_sub hl [0, 1, 2] rfl)

-- X9_isFull
theorem in_X9_isFull_X9 : ∀ w ∈ u_ws RX9 TX9 3, w ∈ wsX9_isFull := by decide +kernel
theorem lk_X9_isFull_25 : Cond.fieldLink RX9 25 (TX9 2).1 (TX9 2).2.1 (TX9 2).2.2.1 ∈ wsX9_isFull := by decide +kernel
theorem lk_X9_isFull_21 : Cond.fieldLink RX9 21 (TX9 1).1 (TX9 1).2.1 (TX9 1).2.2.1 ∈ wsX9_isFull := by decide +kernel
def m_X9_isFull (v_this_limit : Int32) (v_this_size : Int32) : Option (Int32) := if v_this_size < v_this_limit then some (0 : Int32) else some (1 : Int32)
def P_X9_isFull_0 (p : Program) (l : Launch) (e : Env) (s : State) (m : MethodId) (args : Array Value) (below : List Frame) (meth : Method) (c : Code) (D : va_G) (cA : Nat → ClassId) (r : Int32) (a_this a_cells : Nat) (v_this_limit : Int32) (v_this_size : Int32) : Prop := va_P D vwCl [(a_this, .inr (9, [.ref a_cells, .int v_this_limit, .int v_this_size]))] s.heap → ∀ ls : Array Slot, lv_has ls 1 [(0, .ref a_this)] → W p l e { frames := 0, cells := 0, slots := 0, locals := 0 } s m args below meth c s.heap [] 0 0 (MQ below (vp_Si (fun y => y = r)) args s 0 0 (fun _ => False)) (F0 m 0 ls [])
set_option maxHeartbeats 4000000 in
set_option maxRecDepth 100000 in
theorem w_X9_isFull_0 {p : Program} {l : Launch} {e : Env} {s : State} {m : MethodId} {args : Array Value} {below : List Frame} {meth : Method} {c : Code} {D : va_G} {cA : Nat → ClassId} {r : Int32} (S : CallFix p m c cX9_isFull 1 s args wsX9_isFull RX9) (hr : meth.sig.returnType = some .boolean) (hlk : meth.locks = false) (hK : gK D cA s) (a_this a_cells : Nat) (v_this_limit : Int32) (v_this_size : Int32) (h : m_X9_isFull v_this_limit v_this_size = some r) : P_X9_isFull_0 p l e s m args below meth c D cA r a_this a_cells v_this_limit v_this_size := by
  intro hP ls hl
  unfold m_X9_isFull at h
  refine lv_aload_n S.1 S.2.1 dX9_isFull_0 rfl (lv_at hl 0 rfl) ?_
  refine mi_get S hK hP in_X9_isFull_X9 0 rfl rfl 2 (by decide) lk_X9_isFull_25 rfl dX9_isFull_1 ?_
  refine lv_aload_n S.1 S.2.1 dX9_isFull_4 rfl (lv_at hl 0 rfl) ?_
  refine mi_get S hK hP in_X9_isFull_X9 0 rfl rfl 1 (by decide) lk_X9_isFull_21 rfl dX9_isFull_5 ?_
  refine mi_icmp_lt (tgt := 15) S h dX9_isFull_8 (by decide) (fun h => ?_) (fun h => ?_)
  · refine lv_iconst (v := (0 : Int32)) S.1 S.2.1 dX9_isFull_15 (by decide) ?_
    cases h
    exact mi_zretP S hr hlk rfl (by decide) dX9_isFull_16
  · refine lv_iconst (v := (1 : Int32)) S.1 S.2.1 dX9_isFull_11 (by decide) ?_
    refine lv_goto (tgt := 16) S.1 S.2.1 dX9_isFull_12 (by decide) ?_
    cases h
    exact mi_zretP S hr hlk rfl (by decide) dX9_isFull_16
set_option maxHeartbeats 4000000 in
set_option maxRecDepth 100000 in
theorem c_X9_isFull (l : Launch) (D : va_G) (cA : Nat → ClassId) (a_this a_cells : Nat) (v_this_limit : Int32) (v_this_size : Int32) {r : Int32} (h : m_X9_isFull v_this_limit v_this_size = some r) : MPi l yX9_isFull wsX9_isFull { frames := 0, cells := 0, slots := 0, locals := 0 } D cA [.ref a_this] [(a_this, .inr (9, [.ref a_cells, .int v_this_limit, .int v_this_size]))] r := by
  refine mP_of (cc := cX9_isFull) (maxL := 1) (ret := (some .boolean)) (by decide) rfl (Nat.le_of_ble_eq_true rfl) ?_
  intro p e s m below meth c S hr hlk hK hP ls hl
  exact w_X9_isFull_0 S hr hlk hK a_this a_cells v_this_limit v_this_size h hP ls (lv_sub hl [0] rfl)

-- X9_add
theorem in_X9_add_X9 : ∀ w ∈ u_ws RX9 TX9 3, w ∈ wsX9_add := by decide +kernel
theorem lk_X9_add_25 : Cond.fieldLink RX9 25 (TX9 2).1 (TX9 2).2.1 (TX9 2).2.2.1 ∈ wsX9_add := by decide +kernel
theorem lk_X9_add_11 : Cond.fieldLink RX9 11 (TX9 0).1 (TX9 0).2.1 (TX9 0).2.2.1 ∈ wsX9_add := by decide +kernel
def m_X9_add (v_this_limit : Int32) (v_this_size : Int32) (f_cells : Nat → Int32) (x1 : Int32) (x2 : Int32) (x3 : Int32) : Option (Int32 × (Int32) × (Nat → Int32)) := mCall (m_X9_isFull v_this_limit v_this_size) (fun (r1 : Int32) => if r1 = 0 then mLet (v_this_size * (3 : Int32)) (fun (t2 : Int32) => mWr f_cells 30 t2 x1 (fun (f3 : Nat → Int32) => mWr f3 30 (t2 + (1 : Int32)) x2 (fun (f4 : Nat → Int32) => mWr f4 30 (t2 + (2 : Int32)) x3 (fun (f5 : Nat → Int32) => mLet (v_this_size + (1 : Int32)) (fun (t6 : Int32) => some (t6, t6, f5)))))) else some ((-4 : Int32), v_this_size, f_cells))
def P_X9_add_0 (p : Program) (l : Launch) (e : Env) (s : State) (m : MethodId) (args : Array Value) (below : List Frame) (meth : Method) (c : Code) (D : va_G) (cA : Nat → ClassId) (A : Nat → Prop) (r : Int32 × (Int32) × (Nat → Int32)) (a_this a_cells : Nat) (v_this_limit : Int32) (v_this_size : Int32) (f_cells : Nat → Int32) (x1 : Int32) (x2 : Int32) (x3 : Int32) : Prop := ∀ (H : Heap) (locs : List Loc) (ls : Array Slot), va_P D vwCl [(a_this, .inr (9, [.ref a_cells, .int v_this_limit, .int v_this_size])), (a_cells, .inl (cA 0, 30, .inl f_cells))] H → va_D A [(a_this, .inr (9, [.ref a_cells, .int v_this_limit, .int v_this_size])), (a_cells, .inl (cA 0, 30, .inl f_cells))] → va_S A s.heap H locs → lv_has ls 5 [(0, .ref a_this), (1, .int x1), (2, .int x2), (3, .int x3)] → W p l e { frames := 1, cells := 0, slots := 0, locals := 20 } s m args below meth c H locs 0 0 (MQ below (va_Qi (fun (y : Int32) (_ : Unit) => y = r.1) (gPost D A [(a_this, .inr (9, [.ref a_cells, .int v_this_limit, .int r.2.1])), (a_cells, .inl (cA 0, 30, .inl r.2.2))]) A) args s 0 0 A) (F0 m 0 ls [])
set_option maxHeartbeats 4000000 in
set_option maxRecDepth 100000 in
theorem w_X9_add_0 {p : Program} {l : Launch} {e : Env} {s : State} {m : MethodId} {args : Array Value} {below : List Frame} {meth : Method} {c : Code} {D : va_G} {cA : Nat → ClassId} {A : Nat → Prop} {r : Int32 × (Int32) × (Nat → Int32)} (S : CallFix p m c cX9_add 5 s args wsX9_add RX9) (hr : meth.sig.returnType = some .int) (hlk : meth.locks = false) (hK : gK D cA s) (hA : ∀ q : Nat, s.heap.size ≤ q → A q) (a_this a_cells : Nat) (v_this_limit : Int32) (v_this_size : Int32) (f_cells : Nat → Int32) (x1 : Int32) (x2 : Int32) (x3 : Int32) (h : m_X9_add v_this_limit v_this_size f_cells x1 x2 x3 = some r) : P_X9_add_0 p l e s m args below meth c D cA A r a_this a_cells v_this_limit v_this_size f_cells x1 x2 x3 := by
  intro H locs ls hP hD hS hl
  unfold m_X9_add at h
  refine lv_aload_n S.1 S.2.1 dX9_add_0 rfl (lv_at hl 0 rfl) ?_
  obtain ⟨r1, hr1, h⟩ := mCall_use h
  refine mc_Pi (va_runV (As := []) (rest := []) S (c_X9_isFull l D cA a_this a_cells v_this_limit v_this_size hr1) (cwV 0 S.2.2.2.2 gX9_add_X9_isFull rfl rfl rfl (by decide +kernel) ⟨Nat.le_of_ble_eq_true rfl, Nat.le_of_ble_eq_true rfl⟩) (pre_PV hK hP [0] rfl (ci := 9) (q0 := 0) rfl rfl) rfl rfl hl.1 rfl (lv_room (Nat.le_of_ble_eq_true rfl)) dX9_add_1 ⟨Nat.le_of_ble_eq_true rfl, Nat.le_of_ble_eq_true rfl⟩) ?_
  refine mi_if_eq (tgt := 10) S h dX9_add_4 (by decide) (fun h => ?_) (fun h => ?_)
  · refine lv_aload_n S.1 S.2.1 dX9_add_10 rfl (lv_at hl 0 rfl) ?_
    refine mi_get S hK hP in_X9_add_X9 0 rfl rfl 2 (by decide) lk_X9_add_25 rfl dX9_add_11 ?_
    refine lv_iconst (v := (3 : Int32)) S.1 S.2.1 dX9_add_14 (by decide) ?_
    refine lv_imul S.1 S.2.1 dX9_add_15 ?_
    refine mi_let h (fun t2 h => ?_)
    refine lv_istore (lv' := [(4, .int t2), (0, .ref a_this), (1, .int x1), (2, .int x2), (3, .int x3)]) S.1 S.2.1 dX9_add_16 hl (by decide) rfl (fun ls hl => ?_)
    refine lv_aload_n S.1 S.2.1 dX9_add_18 rfl (lv_at hl 1 rfl) ?_
    refine mi_get S hK hP in_X9_add_X9 0 rfl rfl 0 (by decide) lk_X9_add_11 rfl dX9_add_19 ?_
    refine lv_iload S.1 S.2.1 dX9_add_22 (lv_at hl 0 rfl) ?_
    refine lv_iload_n S.1 S.2.1 dX9_add_24 rfl (lv_at hl 2 rfl) ?_
    refine mi_iast S hK hP hD hS 1 rfl h dX9_add_25 (fun f3 H locs h hP hD hS => ?_)
    have hP : va_P D vwCl [(a_this, .inr (9, [.ref a_cells, .int v_this_limit, .int v_this_size])), (a_cells, .inl (cA 0, 30, .inl f3))] H := hP
    have hD : va_D A [(a_this, .inr (9, [.ref a_cells, .int v_this_limit, .int v_this_size])), (a_cells, .inl (cA 0, 30, .inl f3))] := hD
    refine lv_aload_n S.1 S.2.1 dX9_add_26 rfl (lv_at hl 1 rfl) ?_
    refine mi_get S hK hP in_X9_add_X9 0 rfl rfl 0 (by decide) lk_X9_add_11 rfl dX9_add_27 ?_
    refine lv_iload S.1 S.2.1 dX9_add_30 (lv_at hl 0 rfl) ?_
    refine lv_iconst (v := (1 : Int32)) S.1 S.2.1 dX9_add_32 (by decide) ?_
    refine lv_iadd S.1 S.2.1 dX9_add_33 ?_
    refine lv_iload_n S.1 S.2.1 dX9_add_34 rfl (lv_at hl 3 rfl) ?_
    refine mi_iast S hK hP hD hS 1 rfl h dX9_add_35 (fun f4 H locs h hP hD hS => ?_)
    have hP : va_P D vwCl [(a_this, .inr (9, [.ref a_cells, .int v_this_limit, .int v_this_size])), (a_cells, .inl (cA 0, 30, .inl f4))] H := hP
    have hD : va_D A [(a_this, .inr (9, [.ref a_cells, .int v_this_limit, .int v_this_size])), (a_cells, .inl (cA 0, 30, .inl f4))] := hD
    refine lv_aload_n S.1 S.2.1 dX9_add_36 rfl (lv_at hl 1 rfl) ?_
    refine mi_get S hK hP in_X9_add_X9 0 rfl rfl 0 (by decide) lk_X9_add_11 rfl dX9_add_37 ?_
    refine lv_iload S.1 S.2.1 dX9_add_40 (lv_at hl 0 rfl) ?_
    refine lv_iconst (v := (2 : Int32)) S.1 S.2.1 dX9_add_42 (by decide) ?_
    refine lv_iadd S.1 S.2.1 dX9_add_43 ?_
    refine lv_iload_n S.1 S.2.1 dX9_add_44 rfl (lv_at hl 4 rfl) ?_
    refine mi_iast S hK hP hD hS 1 rfl h dX9_add_45 (fun f5 H locs h hP hD hS => ?_)
    have hP : va_P D vwCl [(a_this, .inr (9, [.ref a_cells, .int v_this_limit, .int v_this_size])), (a_cells, .inl (cA 0, 30, .inl f5))] H := hP
    have hD : va_D A [(a_this, .inr (9, [.ref a_cells, .int v_this_limit, .int v_this_size])), (a_cells, .inl (cA 0, 30, .inl f5))] := hD
    refine lv_aload_n S.1 S.2.1 dX9_add_46 rfl (lv_at hl 1 rfl) ?_
    refine lv_dup S.1 S.2.1 dX9_add_47 rfl ?_
    refine mi_get S hK hP in_X9_add_X9 0 rfl rfl 2 (by decide) lk_X9_add_25 rfl dX9_add_48 ?_
    refine lv_iconst (v := (1 : Int32)) S.1 S.2.1 dX9_add_51 (by decide) ?_
    refine lv_iadd S.1 S.2.1 dX9_add_52 ?_
    refine mi_let h (fun t6 h => ?_)
    refine mi_put S hK hP hD hS in_X9_add_X9 tyX9_ok nmX9 0 rfl rfl 2 (by decide) lk_X9_add_25 rfl (v := .int t6) rfl rfl (Nat.le_of_ble_eq_true rfl) dX9_add_53 (fun H locs hP hD hS => ?_)
    have hP : va_P D vwCl [(a_this, .inr (9, [.ref a_cells, .int v_this_limit, .int t6])), (a_cells, .inl (cA 0, 30, .inl f5))] H := hP
    have hD : va_D A [(a_this, .inr (9, [.ref a_cells, .int v_this_limit, .int t6])), (a_cells, .inl (cA 0, 30, .inl f5))] := hD
    refine lv_aload_n S.1 S.2.1 dX9_add_56 rfl (lv_at hl 1 rfl) ?_
    refine mi_get S hK hP in_X9_add_X9 0 rfl rfl 2 (by decide) lk_X9_add_25 rfl dX9_add_57 ?_
    cases h
    exact mi_iretE S hr hlk rfl hP hD hS dX9_add_60
  · refine lv_bipush (v := (-4 : Int32)) S.1 S.2.1 dX9_add_7 (by decide) ?_
    cases h
    exact mi_iretE S hr hlk rfl hP hD hS dX9_add_9
set_option maxHeartbeats 4000000 in
set_option maxRecDepth 100000 in
theorem c_X9_add (l : Launch) (D : va_G) (cA : Nat → ClassId) (a_this a_cells : Nat) (v_this_limit : Int32) (v_this_size : Int32) (f_cells : Nat → Int32) (x1 : Int32) (x2 : Int32) (x3 : Int32) {r : Int32 × (Int32) × (Nat → Int32)} (h : m_X9_add v_this_limit v_this_size f_cells x1 x2 x3 = some r) : MEi l yX9_add wsX9_add { frames := 1, cells := 0, slots := 0, locals := 20 } D cA [.ref a_this, .int x1, .int x2, .int x3] [(a_this, .inr (9, [.ref a_cells, .int v_this_limit, .int v_this_size])), (a_cells, .inl (cA 0, 30, .inl f_cells))] [(a_this, .inr (9, [.ref a_cells, .int v_this_limit, .int r.2.1])), (a_cells, .inl (cA 0, 30, .inl r.2.2))] r.1 := by
  refine mE_of (cc := cX9_add) (maxL := 5) (ret := (some .int)) (Qc := fun A => va_Qi (fun (y : Int32) (_ : Unit) => y = r.1) (gPost D A [(a_this, .inr (9, [.ref a_cells, .int v_this_limit, .int r.2.1])), (a_cells, .inl (cA 0, 30, .inl r.2.2))]) A) (by decide) rfl (Nat.le_of_ble_eq_true rfl) ?_
  intro p e s m below meth c A S hr hlk hK hA hP hD hS ls hl
  exact w_X9_add_0 S hr hlk hK hA a_this a_cells v_this_limit v_this_size f_cells x1 x2 x3 h s.heap [] ls hP hD hS (lv_sub hl [0, 1, 2, 3] rfl)

-- X11_counted
theorem in_X11_counted_X11 : ∀ w ∈ u_ws RX11 TX11 12, w ∈ wsX11_counted := by decide +kernel
theorem lk_X11_counted_232 : Cond.fieldLink RX11 232 (TX11 11).1 (TX11 11).2.1 (TX11 11).2.2.1 ∈ wsX11_counted := by decide +kernel
theorem lk_X11_counted_229 : Cond.fieldLink RX11 229 (TX11 10).1 (TX11 10).2.1 (TX11 10).2.2.1 ∈ wsX11_counted := by decide +kernel
theorem lk_X11_counted_226 : Cond.fieldLink RX11 226 (TX11 9).1 (TX11 9).2.1 (TX11 9).2.2.1 ∈ wsX11_counted := by decide +kernel
def m_X11_counted (v_this_badCalls : Int32) (v_this_noCalls : Int32) (v_this_fullCalls : Int32) (x1 : Int32) : Option (Int32 × (Int32) × (Int32) × (Int32)) := if x1 = (-2 : Int32) then mLet (v_this_badCalls + (1 : Int32)) (fun (t3 : Int32) => some (x1, t3, v_this_noCalls, v_this_fullCalls)) else if x1 = (-3 : Int32) then mLet (v_this_noCalls + (1 : Int32)) (fun (t2 : Int32) => some (x1, v_this_badCalls, t2, v_this_fullCalls)) else if x1 = (-4 : Int32) then mLet (v_this_fullCalls + (1 : Int32)) (fun (t1 : Int32) => some (x1, v_this_badCalls, v_this_noCalls, t1)) else some (x1, v_this_badCalls, v_this_noCalls, v_this_fullCalls)
def P_X11_counted_0 (p : Program) (l : Launch) (e : Env) (s : State) (m : MethodId) (args : Array Value) (below : List Frame) (meth : Method) (c : Code) (D : va_G) (cA : Nat → ClassId) (A : Nat → Prop) (r : Int32 × (Int32) × (Int32) × (Int32)) (a_this a_pit a_trial a_images a_kept a_text a_plans a_clues : Nat) (v_this_above : Int64) (v_this_below : Int64) (v_this_badCalls : Int32) (v_this_noCalls : Int32) (v_this_fullCalls : Int32) (x1 : Int32) : Prop := ∀ (H : Heap) (locs : List Loc) (ls : Array Slot), va_P D vwCl [(a_this, .inr (11, [.ref a_pit, .ref a_trial, .ref a_images, .ref a_kept, .ref a_text, .ref a_plans, .ref a_clues, .long v_this_above, .long v_this_below, .int v_this_badCalls, .int v_this_noCalls, .int v_this_fullCalls]))] H → va_D A [(a_this, .inr (11, [.ref a_pit, .ref a_trial, .ref a_images, .ref a_kept, .ref a_text, .ref a_plans, .ref a_clues, .long v_this_above, .long v_this_below, .int v_this_badCalls, .int v_this_noCalls, .int v_this_fullCalls]))] → va_S A s.heap H locs → lv_has ls 2 [(0, .ref a_this), (1, .int x1)] → W p l e { frames := 0, cells := 0, slots := 0, locals := 0 } s m args below meth c H locs 0 0 (MQ below (va_Qi (fun (y : Int32) (_ : Unit) => y = r.1) (gPost D A [(a_this, .inr (11, [.ref a_pit, .ref a_trial, .ref a_images, .ref a_kept, .ref a_text, .ref a_plans, .ref a_clues, .long v_this_above, .long v_this_below, .int r.2.1, .int r.2.2.1, .int r.2.2.2]))]) A) args s 0 0 A) (F0 m 0 ls [])
set_option maxHeartbeats 4000000 in
set_option maxRecDepth 100000 in
theorem w_X11_counted_0 {p : Program} {l : Launch} {e : Env} {s : State} {m : MethodId} {args : Array Value} {below : List Frame} {meth : Method} {c : Code} {D : va_G} {cA : Nat → ClassId} {A : Nat → Prop} {r : Int32 × (Int32) × (Int32) × (Int32)} (S : CallFix p m c cX11_counted 2 s args wsX11_counted RX11) (hr : meth.sig.returnType = some .int) (hlk : meth.locks = false) (hK : gK D cA s) (hA : ∀ q : Nat, s.heap.size ≤ q → A q) (a_this a_pit a_trial a_images a_kept a_text a_plans a_clues : Nat) (v_this_above : Int64) (v_this_below : Int64) (v_this_badCalls : Int32) (v_this_noCalls : Int32) (v_this_fullCalls : Int32) (x1 : Int32) (h : m_X11_counted v_this_badCalls v_this_noCalls v_this_fullCalls x1 = some r) : P_X11_counted_0 p l e s m args below meth c D cA A r a_this a_pit a_trial a_images a_kept a_text a_plans a_clues v_this_above v_this_below v_this_badCalls v_this_noCalls v_this_fullCalls x1 := by
  intro H locs ls hP hD hS hl
  unfold m_X11_counted at h
  refine lv_iload_n S.1 S.2.1 dX11_counted_0 rfl (lv_at hl 1 rfl) ?_
  refine lv_bipush (v := (-2 : Int32)) S.1 S.2.1 dX11_counted_1 (by decide) ?_
  refine mi_icmp_ne (tgt := 19) S h dX11_counted_3 (by decide) (fun h => ?_) (fun h => ?_)
  · refine lv_iload_n S.1 S.2.1 dX11_counted_19 rfl (lv_at hl 1 rfl) ?_
    refine lv_bipush (v := (-3 : Int32)) S.1 S.2.1 dX11_counted_20 (by decide) ?_
    refine mi_icmp_ne (tgt := 38) S h dX11_counted_22 (by decide) (fun h => ?_) (fun h => ?_)
    · refine lv_iload_n S.1 S.2.1 dX11_counted_38 rfl (lv_at hl 1 rfl) ?_
      refine lv_bipush (v := (-4 : Int32)) S.1 S.2.1 dX11_counted_39 (by decide) ?_
      refine mi_icmp_ne (tgt := 54) S h dX11_counted_41 (by decide) (fun h => ?_) (fun h => ?_)
      · refine lv_iload_n S.1 S.2.1 dX11_counted_54 rfl (lv_at hl 1 rfl) ?_
        cases h
        exact mi_iretE S hr hlk rfl hP hD hS dX11_counted_55
      · refine lv_aload_n S.1 S.2.1 dX11_counted_44 rfl (lv_at hl 0 rfl) ?_
        refine lv_dup S.1 S.2.1 dX11_counted_45 rfl ?_
        refine mi_get S hK hP in_X11_counted_X11 0 rfl rfl 11 (by decide) lk_X11_counted_232 rfl dX11_counted_46 ?_
        refine lv_iconst (v := (1 : Int32)) S.1 S.2.1 dX11_counted_49 (by decide) ?_
        refine lv_iadd S.1 S.2.1 dX11_counted_50 ?_
        refine mi_let h (fun t1 h => ?_)
        refine mi_put S hK hP hD hS in_X11_counted_X11 tyX11_ok nmX11 0 rfl rfl 11 (by decide) lk_X11_counted_232 rfl (v := .int t1) rfl rfl (Nat.le_of_ble_eq_true rfl) dX11_counted_51 (fun H locs hP hD hS => ?_)
        have hP : va_P D vwCl [(a_this, .inr (11, [.ref a_pit, .ref a_trial, .ref a_images, .ref a_kept, .ref a_text, .ref a_plans, .ref a_clues, .long v_this_above, .long v_this_below, .int v_this_badCalls, .int v_this_noCalls, .int t1]))] H := hP
        have hD : va_D A [(a_this, .inr (11, [.ref a_pit, .ref a_trial, .ref a_images, .ref a_kept, .ref a_text, .ref a_plans, .ref a_clues, .long v_this_above, .long v_this_below, .int v_this_badCalls, .int v_this_noCalls, .int t1]))] := hD
        refine lv_iload_n S.1 S.2.1 dX11_counted_54 rfl (lv_at hl 1 rfl) ?_
        cases h
        exact mi_iretE S hr hlk rfl hP hD hS dX11_counted_55
    · refine lv_aload_n S.1 S.2.1 dX11_counted_25 rfl (lv_at hl 0 rfl) ?_
      refine lv_dup S.1 S.2.1 dX11_counted_26 rfl ?_
      refine mi_get S hK hP in_X11_counted_X11 0 rfl rfl 10 (by decide) lk_X11_counted_229 rfl dX11_counted_27 ?_
      refine lv_iconst (v := (1 : Int32)) S.1 S.2.1 dX11_counted_30 (by decide) ?_
      refine lv_iadd S.1 S.2.1 dX11_counted_31 ?_
      refine mi_let h (fun t2 h => ?_)
      refine mi_put S hK hP hD hS in_X11_counted_X11 tyX11_ok nmX11 0 rfl rfl 10 (by decide) lk_X11_counted_229 rfl (v := .int t2) rfl rfl (Nat.le_of_ble_eq_true rfl) dX11_counted_32 (fun H locs hP hD hS => ?_)
      have hP : va_P D vwCl [(a_this, .inr (11, [.ref a_pit, .ref a_trial, .ref a_images, .ref a_kept, .ref a_text, .ref a_plans, .ref a_clues, .long v_this_above, .long v_this_below, .int v_this_badCalls, .int t2, .int v_this_fullCalls]))] H := hP
      have hD : va_D A [(a_this, .inr (11, [.ref a_pit, .ref a_trial, .ref a_images, .ref a_kept, .ref a_text, .ref a_plans, .ref a_clues, .long v_this_above, .long v_this_below, .int v_this_badCalls, .int t2, .int v_this_fullCalls]))] := hD
      refine lv_goto (tgt := 54) S.1 S.2.1 dX11_counted_35 (by decide) ?_
      refine lv_iload_n S.1 S.2.1 dX11_counted_54 rfl (lv_at hl 1 rfl) ?_
      cases h
      exact mi_iretE S hr hlk rfl hP hD hS dX11_counted_55
  · refine lv_aload_n S.1 S.2.1 dX11_counted_6 rfl (lv_at hl 0 rfl) ?_
    refine lv_dup S.1 S.2.1 dX11_counted_7 rfl ?_
    refine mi_get S hK hP in_X11_counted_X11 0 rfl rfl 9 (by decide) lk_X11_counted_226 rfl dX11_counted_8 ?_
    refine lv_iconst (v := (1 : Int32)) S.1 S.2.1 dX11_counted_11 (by decide) ?_
    refine lv_iadd S.1 S.2.1 dX11_counted_12 ?_
    refine mi_let h (fun t3 h => ?_)
    refine mi_put S hK hP hD hS in_X11_counted_X11 tyX11_ok nmX11 0 rfl rfl 9 (by decide) lk_X11_counted_226 rfl (v := .int t3) rfl rfl (Nat.le_of_ble_eq_true rfl) dX11_counted_13 (fun H locs hP hD hS => ?_)
    have hP : va_P D vwCl [(a_this, .inr (11, [.ref a_pit, .ref a_trial, .ref a_images, .ref a_kept, .ref a_text, .ref a_plans, .ref a_clues, .long v_this_above, .long v_this_below, .int t3, .int v_this_noCalls, .int v_this_fullCalls]))] H := hP
    have hD : va_D A [(a_this, .inr (11, [.ref a_pit, .ref a_trial, .ref a_images, .ref a_kept, .ref a_text, .ref a_plans, .ref a_clues, .long v_this_above, .long v_this_below, .int t3, .int v_this_noCalls, .int v_this_fullCalls]))] := hD
    refine lv_goto (tgt := 54) S.1 S.2.1 dX11_counted_16 (by decide) ?_
    refine lv_iload_n S.1 S.2.1 dX11_counted_54 rfl (lv_at hl 1 rfl) ?_
    cases h
    exact mi_iretE S hr hlk rfl hP hD hS dX11_counted_55
set_option maxHeartbeats 4000000 in
set_option maxRecDepth 100000 in
theorem c_X11_counted (l : Launch) (D : va_G) (cA : Nat → ClassId) (a_this a_pit a_trial a_images a_kept a_text a_plans a_clues : Nat) (v_this_above : Int64) (v_this_below : Int64) (v_this_badCalls : Int32) (v_this_noCalls : Int32) (v_this_fullCalls : Int32) (x1 : Int32) {r : Int32 × (Int32) × (Int32) × (Int32)} (h : m_X11_counted v_this_badCalls v_this_noCalls v_this_fullCalls x1 = some r) : MEi l yX11_counted wsX11_counted { frames := 0, cells := 0, slots := 0, locals := 0 } D cA [.ref a_this, .int x1] [(a_this, .inr (11, [.ref a_pit, .ref a_trial, .ref a_images, .ref a_kept, .ref a_text, .ref a_plans, .ref a_clues, .long v_this_above, .long v_this_below, .int v_this_badCalls, .int v_this_noCalls, .int v_this_fullCalls]))] [(a_this, .inr (11, [.ref a_pit, .ref a_trial, .ref a_images, .ref a_kept, .ref a_text, .ref a_plans, .ref a_clues, .long v_this_above, .long v_this_below, .int r.2.1, .int r.2.2.1, .int r.2.2.2]))] r.1 := by
  refine mE_of (cc := cX11_counted) (maxL := 2) (ret := (some .int)) (Qc := fun A => va_Qi (fun (y : Int32) (_ : Unit) => y = r.1) (gPost D A [(a_this, .inr (11, [.ref a_pit, .ref a_trial, .ref a_images, .ref a_kept, .ref a_text, .ref a_plans, .ref a_clues, .long v_this_above, .long v_this_below, .int r.2.1, .int r.2.2.1, .int r.2.2.2]))]) A) (by decide) rfl (Nat.le_of_ble_eq_true rfl) ?_
  intro p e s m below meth c A S hr hlk hK hA hP hD hS ls hl
  exact w_X11_counted_0 S hr hlk hK hA a_this a_pit a_trial a_images a_kept a_text a_plans a_clues v_this_above v_this_below v_this_badCalls v_this_noCalls v_this_fullCalls x1 h s.heap [] ls hP hD hS (lv_sub hl [0, 1] rfl)

-- X12_in
def m_X12_in (x0 : Int32) (x1 : Int32) (x2 : Int32) : Option (Int32) := if x0 < x1 then some (0 : Int32) else if x2 < x0 then some (0 : Int32) else some (1 : Int32)
def P_X12_in_0 (p : Program) (l : Launch) (e : Env) (s : State) (m : MethodId) (args : Array Value) (below : List Frame) (meth : Method) (c : Code) (D : va_G) (cA : Nat → ClassId) (r : Int32) (x0 : Int32) (x1 : Int32) (x2 : Int32) : Prop := va_P D vwCl [] s.heap → ∀ ls : Array Slot, lv_has ls 3 [(0, .int x0), (1, .int x1), (2, .int x2)] → W p l e { frames := 0, cells := 0, slots := 0, locals := 0 } s m args below meth c s.heap [] 0 0 (MQ below (vp_Si (fun y => y = r)) args s 0 0 (fun _ => False)) (F0 m 0 ls [])
set_option maxHeartbeats 4000000 in
set_option maxRecDepth 100000 in
theorem w_X12_in_0 {p : Program} {l : Launch} {e : Env} {s : State} {m : MethodId} {args : Array Value} {below : List Frame} {meth : Method} {c : Code} {D : va_G} {cA : Nat → ClassId} {r : Int32} (S : CallFix p m c cX12_in 3 s args wsX12_in RX12) (hr : meth.sig.returnType = some .boolean) (hlk : meth.locks = false) (hK : gK D cA s) (x0 : Int32) (x1 : Int32) (x2 : Int32) (h : m_X12_in x0 x1 x2 = some r) : P_X12_in_0 p l e s m args below meth c D cA r x0 x1 x2 := by
  intro hP ls hl
  unfold m_X12_in at h
  refine lv_iload_n S.1 S.2.1 dX12_in_0 rfl (lv_at hl 0 rfl) ?_
  refine lv_iload_n S.1 S.2.1 dX12_in_1 rfl (lv_at hl 1 rfl) ?_
  refine mi_icmp_lt (tgt := 14) S h dX12_in_2 (by decide) (fun h => ?_) (fun h => ?_)
  · refine lv_iconst (v := (0 : Int32)) S.1 S.2.1 dX12_in_14 (by decide) ?_
    cases h
    exact mi_zretP S hr hlk rfl (by decide) dX12_in_15
  · refine lv_iload_n S.1 S.2.1 dX12_in_5 rfl (lv_at hl 0 rfl) ?_
    refine lv_iload_n S.1 S.2.1 dX12_in_6 rfl (lv_at hl 2 rfl) ?_
    refine mi_icmp_gt (tgt := 14) S h dX12_in_7 (by decide) (fun h => ?_) (fun h => ?_)
    · refine lv_iconst (v := (0 : Int32)) S.1 S.2.1 dX12_in_14 (by decide) ?_
      cases h
      exact mi_zretP S hr hlk rfl (by decide) dX12_in_15
    · refine lv_iconst (v := (1 : Int32)) S.1 S.2.1 dX12_in_10 (by decide) ?_
      refine lv_goto (tgt := 15) S.1 S.2.1 dX12_in_11 (by decide) ?_
      cases h
      exact mi_zretP S hr hlk rfl (by decide) dX12_in_15
set_option maxHeartbeats 4000000 in
set_option maxRecDepth 100000 in
theorem c_X12_in (l : Launch) (D : va_G) (cA : Nat → ClassId) (x0 : Int32) (x1 : Int32) (x2 : Int32) {r : Int32} (h : m_X12_in x0 x1 x2 = some r) : MPi l yX12_in wsX12_in { frames := 0, cells := 0, slots := 0, locals := 0 } D cA [.int x0, .int x1, .int x2] [] r := by
  refine mP_of (cc := cX12_in) (maxL := 3) (ret := (some .boolean)) (by decide) rfl (Nat.le_of_ble_eq_true rfl) ?_
  intro p e s m below meth c S hr hlk hK hP ls hl
  exact w_X12_in_0 S hr hlk hK x0 x1 x2 h hP ls (lv_sub hl [0, 1, 2] rfl)

-- X12_bad
theorem in_X12_bad_X12 : ∀ w ∈ u_ws RX12 TX12 25, w ∈ wsX12_bad := by decide +kernel
theorem lk_X12_bad_7 : Cond.fieldLink RX12 7 (TX12 0).1 (TX12 0).2.1 (TX12 0).2.2.1 ∈ wsX12_bad := by decide +kernel
def m_X12_bad (f_refusals : Nat → Int32) : Option (Int32 × (Nat → Int32)) := mRd f_refusals 3 (0 : Int32) (fun (t1 : Int32) => mWr f_refusals 3 (0 : Int32) (t1 + (1 : Int32)) (fun (f2 : Nat → Int32) => some ((-2 : Int32), f2)))
def P_X12_bad_0 (p : Program) (l : Launch) (e : Env) (s : State) (m : MethodId) (args : Array Value) (below : List Frame) (meth : Method) (c : Code) (D : va_G) (cA : Nat → ClassId) (A : Nat → Prop) (r : Int32 × (Nat → Int32)) (a_this a_refusals a_now a_tried a_text a_numbers a_shown a_ways a_yet a_afternoons a_pieces a_sizes a_alike a_forth a_back a_isKept a_kept : Nat) (v_this_above : Int64) (v_this_below : Int64) (v_this_byteMany : Int32) (v_this_tokenAt : Int32) (v_this_tokenEnd : Int32) (v_this_token : Int32) (v_this_value : Int32) (v_this_word : Int32) (v_this_hash : Int64) (f_refusals : Nat → Int32) : Prop := ∀ (H : Heap) (locs : List Loc) (ls : Array Slot), va_P D vwCl [(a_this, .inr (12, [.ref a_refusals, .long v_this_above, .long v_this_below, .ref a_now, .ref a_tried, .int v_this_byteMany, .ref a_text, .int v_this_tokenAt, .int v_this_tokenEnd, .int v_this_token, .int v_this_value, .int v_this_word, .ref a_numbers, .ref a_shown, .ref a_ways, .ref a_yet, .ref a_afternoons, .ref a_pieces, .ref a_sizes, .ref a_alike, .ref a_forth, .ref a_back, .ref a_isKept, .ref a_kept, .long v_this_hash])), (a_refusals, .inl (cA 0, 3, .inl f_refusals))] H → va_D A [(a_this, .inr (12, [.ref a_refusals, .long v_this_above, .long v_this_below, .ref a_now, .ref a_tried, .int v_this_byteMany, .ref a_text, .int v_this_tokenAt, .int v_this_tokenEnd, .int v_this_token, .int v_this_value, .int v_this_word, .ref a_numbers, .ref a_shown, .ref a_ways, .ref a_yet, .ref a_afternoons, .ref a_pieces, .ref a_sizes, .ref a_alike, .ref a_forth, .ref a_back, .ref a_isKept, .ref a_kept, .long v_this_hash])), (a_refusals, .inl (cA 0, 3, .inl f_refusals))] → va_S A s.heap H locs → lv_has ls 1 [(0, .ref a_this)] → W p l e { frames := 0, cells := 0, slots := 0, locals := 0 } s m args below meth c H locs 0 0 (MQ below (va_Qi (fun (y : Int32) (_ : Unit) => y = r.1) (gPost D A [(a_this, .inr (12, [.ref a_refusals, .long v_this_above, .long v_this_below, .ref a_now, .ref a_tried, .int v_this_byteMany, .ref a_text, .int v_this_tokenAt, .int v_this_tokenEnd, .int v_this_token, .int v_this_value, .int v_this_word, .ref a_numbers, .ref a_shown, .ref a_ways, .ref a_yet, .ref a_afternoons, .ref a_pieces, .ref a_sizes, .ref a_alike, .ref a_forth, .ref a_back, .ref a_isKept, .ref a_kept, .long v_this_hash])), (a_refusals, .inl (cA 0, 3, .inl r.2))]) A) args s 0 0 A) (F0 m 0 ls [])
set_option maxHeartbeats 4000000 in
set_option maxRecDepth 100000 in
theorem w_X12_bad_0 {p : Program} {l : Launch} {e : Env} {s : State} {m : MethodId} {args : Array Value} {below : List Frame} {meth : Method} {c : Code} {D : va_G} {cA : Nat → ClassId} {A : Nat → Prop} {r : Int32 × (Nat → Int32)} (S : CallFix p m c cX12_bad 1 s args wsX12_bad RX12) (hr : meth.sig.returnType = some .int) (hlk : meth.locks = false) (hK : gK D cA s) (hA : ∀ q : Nat, s.heap.size ≤ q → A q) (a_this a_refusals a_now a_tried a_text a_numbers a_shown a_ways a_yet a_afternoons a_pieces a_sizes a_alike a_forth a_back a_isKept a_kept : Nat) (v_this_above : Int64) (v_this_below : Int64) (v_this_byteMany : Int32) (v_this_tokenAt : Int32) (v_this_tokenEnd : Int32) (v_this_token : Int32) (v_this_value : Int32) (v_this_word : Int32) (v_this_hash : Int64) (f_refusals : Nat → Int32) (h : m_X12_bad f_refusals = some r) : P_X12_bad_0 p l e s m args below meth c D cA A r a_this a_refusals a_now a_tried a_text a_numbers a_shown a_ways a_yet a_afternoons a_pieces a_sizes a_alike a_forth a_back a_isKept a_kept v_this_above v_this_below v_this_byteMany v_this_tokenAt v_this_tokenEnd v_this_token v_this_value v_this_word v_this_hash f_refusals := by
  intro H locs ls hP hD hS hl
  unfold m_X12_bad at h
  refine lv_aload_n S.1 S.2.1 dX12_bad_0 rfl (lv_at hl 0 rfl) ?_
  refine mi_get S hK hP in_X12_bad_X12 0 rfl rfl 0 (by decide) lk_X12_bad_7 rfl dX12_bad_1 ?_
  refine lv_iconst (v := (0 : Int32)) S.1 S.2.1 dX12_bad_4 (by decide) ?_
  refine lv_dup2_11 S.1 S.2.1 dX12_bad_5 rfl rfl ?_
  refine mi_iald S hK hP 1 rfl h dX12_bad_6 (fun t1 h => ?_)
  refine lv_iconst (v := (1 : Int32)) S.1 S.2.1 dX12_bad_7 (by decide) ?_
  refine lv_iadd S.1 S.2.1 dX12_bad_8 ?_
  refine mi_iast S hK hP hD hS 1 rfl h dX12_bad_9 (fun f2 H locs h hP hD hS => ?_)
  have hP : va_P D vwCl [(a_this, .inr (12, [.ref a_refusals, .long v_this_above, .long v_this_below, .ref a_now, .ref a_tried, .int v_this_byteMany, .ref a_text, .int v_this_tokenAt, .int v_this_tokenEnd, .int v_this_token, .int v_this_value, .int v_this_word, .ref a_numbers, .ref a_shown, .ref a_ways, .ref a_yet, .ref a_afternoons, .ref a_pieces, .ref a_sizes, .ref a_alike, .ref a_forth, .ref a_back, .ref a_isKept, .ref a_kept, .long v_this_hash])), (a_refusals, .inl (cA 0, 3, .inl f2))] H := hP
  have hD : va_D A [(a_this, .inr (12, [.ref a_refusals, .long v_this_above, .long v_this_below, .ref a_now, .ref a_tried, .int v_this_byteMany, .ref a_text, .int v_this_tokenAt, .int v_this_tokenEnd, .int v_this_token, .int v_this_value, .int v_this_word, .ref a_numbers, .ref a_shown, .ref a_ways, .ref a_yet, .ref a_afternoons, .ref a_pieces, .ref a_sizes, .ref a_alike, .ref a_forth, .ref a_back, .ref a_isKept, .ref a_kept, .long v_this_hash])), (a_refusals, .inl (cA 0, 3, .inl f2))] := hD
  refine lv_bipush (v := (-2 : Int32)) S.1 S.2.1 dX12_bad_10 (by decide) ?_
  cases h
  exact mi_iretE S hr hlk rfl hP hD hS dX12_bad_12
set_option maxHeartbeats 4000000 in
set_option maxRecDepth 100000 in
theorem c_X12_bad (l : Launch) (D : va_G) (cA : Nat → ClassId) (a_this a_refusals a_now a_tried a_text a_numbers a_shown a_ways a_yet a_afternoons a_pieces a_sizes a_alike a_forth a_back a_isKept a_kept : Nat) (v_this_above : Int64) (v_this_below : Int64) (v_this_byteMany : Int32) (v_this_tokenAt : Int32) (v_this_tokenEnd : Int32) (v_this_token : Int32) (v_this_value : Int32) (v_this_word : Int32) (v_this_hash : Int64) (f_refusals : Nat → Int32) {r : Int32 × (Nat → Int32)} (h : m_X12_bad f_refusals = some r) : MEi l yX12_bad wsX12_bad { frames := 0, cells := 0, slots := 0, locals := 0 } D cA [.ref a_this] [(a_this, .inr (12, [.ref a_refusals, .long v_this_above, .long v_this_below, .ref a_now, .ref a_tried, .int v_this_byteMany, .ref a_text, .int v_this_tokenAt, .int v_this_tokenEnd, .int v_this_token, .int v_this_value, .int v_this_word, .ref a_numbers, .ref a_shown, .ref a_ways, .ref a_yet, .ref a_afternoons, .ref a_pieces, .ref a_sizes, .ref a_alike, .ref a_forth, .ref a_back, .ref a_isKept, .ref a_kept, .long v_this_hash])), (a_refusals, .inl (cA 0, 3, .inl f_refusals))] [(a_this, .inr (12, [.ref a_refusals, .long v_this_above, .long v_this_below, .ref a_now, .ref a_tried, .int v_this_byteMany, .ref a_text, .int v_this_tokenAt, .int v_this_tokenEnd, .int v_this_token, .int v_this_value, .int v_this_word, .ref a_numbers, .ref a_shown, .ref a_ways, .ref a_yet, .ref a_afternoons, .ref a_pieces, .ref a_sizes, .ref a_alike, .ref a_forth, .ref a_back, .ref a_isKept, .ref a_kept, .long v_this_hash])), (a_refusals, .inl (cA 0, 3, .inl r.2))] r.1 := by
  refine mE_of (cc := cX12_bad) (maxL := 1) (ret := (some .int)) (Qc := fun A => va_Qi (fun (y : Int32) (_ : Unit) => y = r.1) (gPost D A [(a_this, .inr (12, [.ref a_refusals, .long v_this_above, .long v_this_below, .ref a_now, .ref a_tried, .int v_this_byteMany, .ref a_text, .int v_this_tokenAt, .int v_this_tokenEnd, .int v_this_token, .int v_this_value, .int v_this_word, .ref a_numbers, .ref a_shown, .ref a_ways, .ref a_yet, .ref a_afternoons, .ref a_pieces, .ref a_sizes, .ref a_alike, .ref a_forth, .ref a_back, .ref a_isKept, .ref a_kept, .long v_this_hash])), (a_refusals, .inl (cA 0, 3, .inl r.2))]) A) (by decide) rfl (Nat.le_of_ble_eq_true rfl) ?_
  intro p e s m below meth c A S hr hlk hK hA hP hD hS ls hl
  exact w_X12_bad_0 S hr hlk hK hA a_this a_refusals a_now a_tried a_text a_numbers a_shown a_ways a_yet a_afternoons a_pieces a_sizes a_alike a_forth a_back a_isKept a_kept v_this_above v_this_below v_this_byteMany v_this_tokenAt v_this_tokenEnd v_this_token v_this_value v_this_word v_this_hash f_refusals h s.heap [] ls hP hD hS (lv_sub hl [0] rfl)

-- X12_bits
def m_X12_bits_L4 : Nat → Int32 → Int32 → Option (Int32)
  | 0, _, _ => none
  | n + 1, x1, x2 => if x2 = 0 then some x1 else mLet (x1 + (1 : Int32)) (fun (t1 : Int32) => mLet (x2 &&& (x2 - (1 : Int32))) (fun (t2 : Int32) => m_X12_bits_L4 n t1 t2))
def m_X12_bits (x0 : Int32) : Option (Int32) := m_X12_bits_L4 mFU (0 : Int32) x0
def P_X12_bits_4 (p : Program) (l : Launch) (e : Env) (s : State) (m : MethodId) (args : Array Value) (below : List Frame) (meth : Method) (c : Code) (D : va_G) (cA : Nat → ClassId) (r : Int32) (x1 : Int32) (x2 : Int32) : Prop := va_P D vwCl [] s.heap → ∀ ls : Array Slot, lv_has ls 3 [(1, .int x1), (2, .int x2)] → W p l e { frames := 0, cells := 0, slots := 0, locals := 0 } s m args below meth c s.heap [] 0 0 (MQ below (vp_Si (fun y => y = r)) args s 0 0 (fun _ => False)) (F0 m 4 ls [])
def P_X12_bits_0 (p : Program) (l : Launch) (e : Env) (s : State) (m : MethodId) (args : Array Value) (below : List Frame) (meth : Method) (c : Code) (D : va_G) (cA : Nat → ClassId) (r : Int32) (x0 : Int32) : Prop := va_P D vwCl [] s.heap → ∀ ls : Array Slot, lv_has ls 3 [(0, .int x0)] → W p l e { frames := 0, cells := 0, slots := 0, locals := 0 } s m args below meth c s.heap [] 0 0 (MQ below (vp_Si (fun y => y = r)) args s 0 0 (fun _ => False)) (F0 m 0 ls [])
set_option maxHeartbeats 4000000 in
set_option maxRecDepth 100000 in
theorem w_X12_bits_4 {p : Program} {l : Launch} {e : Env} {s : State} {m : MethodId} {args : Array Value} {below : List Frame} {meth : Method} {c : Code} {D : va_G} {cA : Nat → ClassId} {r : Int32} (S : CallFix p m c cX12_bits 3 s args wsX12_bits RX12) (hr : meth.sig.returnType = some .int) (hlk : meth.locks = false) (hK : gK D cA s) : ∀ (n : Nat) (x1 : Int32) (x2 : Int32), m_X12_bits_L4 n x1 x2 = some r → P_X12_bits_4 p l e s m args below meth c D cA r x1 x2 := by
  intro n
  induction n with
  | zero =>
    intro x1 x2 h
    have h : none = some r := h
    cases h
  | succ n ih =>
    intro x1 x2 h
    intro hP ls hl
    rw [m_X12_bits_L4] at h
    refine lv_iload_n S.1 S.2.1 dX12_bits_4 rfl (lv_at hl 1 rfl) ?_
    refine mi_if_eq (tgt := 20) S h dX12_bits_5 (by decide) (fun h => ?_) (fun h => ?_)
    · refine lv_iload_n S.1 S.2.1 dX12_bits_20 rfl (lv_at hl 0 rfl) ?_
      cases h
      exact mi_iretP S hr hlk rfl dX12_bits_21
    · obtain ⟨t1, et1, h⟩ := mLet_use h
      refine lv_iinc (v := t1) (lv' := [(1, .int t1), (2, .int x2)]) S.1 S.2.1 dX12_bits_8 hl (k := 0) rfl (by rw [et1]; rfl) (by decide) rfl (fun ls hl => ?_)
      clear et1
      refine lv_iload_n S.1 S.2.1 dX12_bits_11 rfl (lv_at hl 1 rfl) ?_
      refine lv_iload_n S.1 S.2.1 dX12_bits_12 rfl (lv_at hl 1 rfl) ?_
      refine lv_iconst (v := (1 : Int32)) S.1 S.2.1 dX12_bits_13 (by decide) ?_
      refine lv_isub S.1 S.2.1 dX12_bits_14 ?_
      refine lv_iand S.1 S.2.1 dX12_bits_15 ?_
      refine mi_let h (fun t2 h => ?_)
      refine lv_istore_n (lv' := [(2, .int t2), (1, .int t1)]) S.1 S.2.1 dX12_bits_16 rfl hl (by decide) rfl (fun ls hl => ?_)
      refine lv_goto (tgt := 4) S.1 S.2.1 dX12_bits_17 (by decide) ?_
      exact ih t1 t2 h hP ls (lv_sub hl [1, 0] rfl)
set_option maxHeartbeats 4000000 in
set_option maxRecDepth 100000 in
theorem w_X12_bits_0 {p : Program} {l : Launch} {e : Env} {s : State} {m : MethodId} {args : Array Value} {below : List Frame} {meth : Method} {c : Code} {D : va_G} {cA : Nat → ClassId} {r : Int32} (S : CallFix p m c cX12_bits 3 s args wsX12_bits RX12) (hr : meth.sig.returnType = some .int) (hlk : meth.locks = false) (hK : gK D cA s) (x0 : Int32) (h : m_X12_bits x0 = some r) : P_X12_bits_0 p l e s m args below meth c D cA r x0 := by
  intro hP ls hl
  unfold m_X12_bits at h
  refine lv_iconst (v := (0 : Int32)) S.1 S.2.1 dX12_bits_0 (by decide) ?_
  refine lv_istore_n (lv' := [(1, .int (0 : Int32)), (0, .int x0)]) S.1 S.2.1 dX12_bits_1 rfl hl (by decide) rfl (fun ls hl => ?_)
  refine lv_iload_n S.1 S.2.1 dX12_bits_2 rfl (lv_at hl 1 rfl) ?_
  refine lv_istore_n (lv' := [(2, .int x0), (1, .int (0 : Int32)), (0, .int x0)]) S.1 S.2.1 dX12_bits_3 rfl hl (by decide) rfl (fun ls hl => ?_)
  exact w_X12_bits_4 S hr hlk hK mFU (0 : Int32) x0 h hP ls (lv_sub hl [1, 0] rfl)
set_option maxHeartbeats 4000000 in
set_option maxRecDepth 100000 in
theorem c_X12_bits (l : Launch) (D : va_G) (cA : Nat → ClassId) (x0 : Int32) {r : Int32} (h : m_X12_bits x0 = some r) : MPi l yX12_bits wsX12_bits { frames := 0, cells := 0, slots := 0, locals := 0 } D cA [.int x0] [] r := by
  refine mP_of (cc := cX12_bits) (maxL := 3) (ret := (some .int)) (by decide) rfl (Nat.le_of_ble_eq_true rfl) ?_
  intro p e s m below meth c S hr hlk hK hP ls hl
  exact w_X12_bits_0 S hr hlk hK x0 h hP ls (lv_sub hl [0] rfl)

-- X11_status
theorem in_X11_status_X11 : ∀ w ∈ u_ws RX11 TX11 12, w ∈ wsX11_status := by decide +kernel
theorem lk_X11_status_226 : Cond.fieldLink RX11 226 (TX11 9).1 (TX11 9).2.1 (TX11 9).2.2.1 ∈ wsX11_status := by decide +kernel
theorem lk_X11_status_229 : Cond.fieldLink RX11 229 (TX11 10).1 (TX11 10).2.1 (TX11 10).2.2.1 ∈ wsX11_status := by decide +kernel
theorem lk_X11_status_232 : Cond.fieldLink RX11 232 (TX11 11).1 (TX11 11).2.1 (TX11 11).2.2.1 ∈ wsX11_status := by decide +kernel
def m_X11_status (v_this_badCalls : Int32) (v_this_noCalls : Int32) (v_this_fullCalls : Int32) (x1 : Int32) : Option (Int32 × (Int32)) := if x1 = (0 : Int32) then some (v_this_badCalls, v_this_badCalls) else if x1 = (1 : Int32) then some (v_this_noCalls, v_this_badCalls) else if x1 = (2 : Int32) then some (v_this_fullCalls, v_this_badCalls) else mLet (v_this_badCalls + (1 : Int32)) (fun (t1 : Int32) => some ((-1 : Int32), t1))
def P_X11_status_0 (p : Program) (l : Launch) (e : Env) (s : State) (m : MethodId) (args : Array Value) (below : List Frame) (meth : Method) (c : Code) (D : va_G) (cA : Nat → ClassId) (A : Nat → Prop) (r : Int32 × (Int32)) (a_this a_pit a_trial a_images a_kept a_text a_plans a_clues : Nat) (v_this_above : Int64) (v_this_below : Int64) (v_this_badCalls : Int32) (v_this_noCalls : Int32) (v_this_fullCalls : Int32) (x1 : Int32) : Prop := ∀ (H : Heap) (locs : List Loc) (ls : Array Slot), va_P D vwCl [(a_this, .inr (11, [.ref a_pit, .ref a_trial, .ref a_images, .ref a_kept, .ref a_text, .ref a_plans, .ref a_clues, .long v_this_above, .long v_this_below, .int v_this_badCalls, .int v_this_noCalls, .int v_this_fullCalls]))] H → va_D A [(a_this, .inr (11, [.ref a_pit, .ref a_trial, .ref a_images, .ref a_kept, .ref a_text, .ref a_plans, .ref a_clues, .long v_this_above, .long v_this_below, .int v_this_badCalls, .int v_this_noCalls, .int v_this_fullCalls]))] → va_S A s.heap H locs → lv_has ls 2 [(0, .ref a_this), (1, .int x1)] → W p l e { frames := 0, cells := 0, slots := 0, locals := 0 } s m args below meth c H locs 0 0 (MQ below (va_Qi (fun (y : Int32) (_ : Unit) => y = r.1) (gPost D A [(a_this, .inr (11, [.ref a_pit, .ref a_trial, .ref a_images, .ref a_kept, .ref a_text, .ref a_plans, .ref a_clues, .long v_this_above, .long v_this_below, .int r.2, .int v_this_noCalls, .int v_this_fullCalls]))]) A) args s 0 0 A) (F0 m 0 ls [])
set_option maxHeartbeats 4000000 in
set_option maxRecDepth 100000 in
theorem w_X11_status_0 {p : Program} {l : Launch} {e : Env} {s : State} {m : MethodId} {args : Array Value} {below : List Frame} {meth : Method} {c : Code} {D : va_G} {cA : Nat → ClassId} {A : Nat → Prop} {r : Int32 × (Int32)} (S : CallFix p m c cX11_status 2 s args wsX11_status RX11) (hr : meth.sig.returnType = some .int) (hlk : meth.locks = false) (hK : gK D cA s) (hA : ∀ q : Nat, s.heap.size ≤ q → A q) (a_this a_pit a_trial a_images a_kept a_text a_plans a_clues : Nat) (v_this_above : Int64) (v_this_below : Int64) (v_this_noCalls : Int32) (v_this_fullCalls : Int32) (v_this_badCalls : Int32) (x1 : Int32) (h : m_X11_status v_this_badCalls v_this_noCalls v_this_fullCalls x1 = some r) : P_X11_status_0 p l e s m args below meth c D cA A r a_this a_pit a_trial a_images a_kept a_text a_plans a_clues v_this_above v_this_below v_this_badCalls v_this_noCalls v_this_fullCalls x1 := by
  intro H locs ls hP hD hS hl
  unfold m_X11_status at h
  refine lv_iload_n S.1 S.2.1 dX11_status_0 rfl (lv_at hl 1 rfl) ?_
  by_cases q0 : x1 = (0 : Int32)
  · have h := mIf_t h q0
    refine lv_tableIn (tgt := 28) S.1 S.2.1 dX11_status_1 (by rw [q0]; decide) (by rw [q0]; decide) (by rw [q0]; rfl) (by decide) ?_
    refine lv_aload_n S.1 S.2.1 dX11_status_28 rfl (lv_at hl 0 rfl) ?_
    refine mi_get S hK hP in_X11_status_X11 0 rfl rfl 9 (by decide) lk_X11_status_226 rfl dX11_status_29 ?_
    cases h
    exact mi_iretE S hr hlk rfl hP hD hS dX11_status_32
  have h := mIf_e h q0
  by_cases q1 : x1 = (1 : Int32)
  · have h := mIf_t h q1
    refine lv_tableIn (tgt := 33) S.1 S.2.1 dX11_status_1 (by rw [q1]; decide) (by rw [q1]; decide) (by rw [q1]; rfl) (by decide) ?_
    refine lv_aload_n S.1 S.2.1 dX11_status_33 rfl (lv_at hl 0 rfl) ?_
    refine mi_get S hK hP in_X11_status_X11 0 rfl rfl 10 (by decide) lk_X11_status_229 rfl dX11_status_34 ?_
    cases h
    exact mi_iretE S hr hlk rfl hP hD hS dX11_status_37
  have h := mIf_e h q1
  by_cases q2 : x1 = (2 : Int32)
  · have h := mIf_t h q2
    refine lv_tableIn (tgt := 38) S.1 S.2.1 dX11_status_1 (by rw [q2]; decide) (by rw [q2]; decide) (by rw [q2]; rfl) (by decide) ?_
    refine lv_aload_n S.1 S.2.1 dX11_status_38 rfl (lv_at hl 0 rfl) ?_
    refine mi_get S hK hP in_X11_status_X11 0 rfl rfl 11 (by decide) lk_X11_status_232 rfl dX11_status_39 ?_
    cases h
    exact mi_iretE S hr hlk rfl hP hD hS dX11_status_42
  have h := mIf_e h q2
  refine lv_tableOut (tgt := 43) S.1 S.2.1 dX11_status_1 (sw_out (lo := 0) (hi := 2) 3 (by decide) (fun k hk => match k, hk with | 0, _ => q0 | 1, _ => q1 | 2, _ => q2 | k + 3, hk => absurd hk (by omega))) (by decide) ?_
  refine lv_aload_n S.1 S.2.1 dX11_status_43 rfl (lv_at hl 0 rfl) ?_
  refine lv_dup S.1 S.2.1 dX11_status_44 rfl ?_
  refine mi_get S hK hP in_X11_status_X11 0 rfl rfl 9 (by decide) lk_X11_status_226 rfl dX11_status_45 ?_
  refine lv_iconst (v := (1 : Int32)) S.1 S.2.1 dX11_status_48 (by decide) ?_
  refine lv_iadd S.1 S.2.1 dX11_status_49 ?_
  refine mi_let h (fun t1 h => ?_)
  refine mi_put S hK hP hD hS in_X11_status_X11 tyX11_ok nmX11 0 rfl rfl 9 (by decide) lk_X11_status_226 rfl (v := .int t1) rfl rfl (Nat.le_of_ble_eq_true rfl) dX11_status_50 (fun H locs hP hD hS => ?_)
  have hP : va_P D vwCl [(a_this, .inr (11, [.ref a_pit, .ref a_trial, .ref a_images, .ref a_kept, .ref a_text, .ref a_plans, .ref a_clues, .long v_this_above, .long v_this_below, .int t1, .int v_this_noCalls, .int v_this_fullCalls]))] H := hP
  have hD : va_D A [(a_this, .inr (11, [.ref a_pit, .ref a_trial, .ref a_images, .ref a_kept, .ref a_text, .ref a_plans, .ref a_clues, .long v_this_above, .long v_this_below, .int t1, .int v_this_noCalls, .int v_this_fullCalls]))] := hD
  refine lv_iconst (v := (-1 : Int32)) S.1 S.2.1 dX11_status_53 (by decide) ?_
  cases h
  exact mi_iretE S hr hlk rfl hP hD hS dX11_status_54
set_option maxHeartbeats 4000000 in
set_option maxRecDepth 100000 in
theorem c_X11_status (l : Launch) (D : va_G) (cA : Nat → ClassId) (a_this a_pit a_trial a_images a_kept a_text a_plans a_clues : Nat) (v_this_above : Int64) (v_this_below : Int64) (v_this_badCalls : Int32) (v_this_noCalls : Int32) (v_this_fullCalls : Int32) (x1 : Int32) {r : Int32 × (Int32)} (h : m_X11_status v_this_badCalls v_this_noCalls v_this_fullCalls x1 = some r) : MEi l yX11_status wsX11_status { frames := 0, cells := 0, slots := 0, locals := 0 } D cA [.ref a_this, .int x1] [(a_this, .inr (11, [.ref a_pit, .ref a_trial, .ref a_images, .ref a_kept, .ref a_text, .ref a_plans, .ref a_clues, .long v_this_above, .long v_this_below, .int v_this_badCalls, .int v_this_noCalls, .int v_this_fullCalls]))] [(a_this, .inr (11, [.ref a_pit, .ref a_trial, .ref a_images, .ref a_kept, .ref a_text, .ref a_plans, .ref a_clues, .long v_this_above, .long v_this_below, .int r.2, .int v_this_noCalls, .int v_this_fullCalls]))] r.1 := by
  refine mE_of (cc := cX11_status) (maxL := 2) (ret := (some .int)) (Qc := fun A => va_Qi (fun (y : Int32) (_ : Unit) => y = r.1) (gPost D A [(a_this, .inr (11, [.ref a_pit, .ref a_trial, .ref a_images, .ref a_kept, .ref a_text, .ref a_plans, .ref a_clues, .long v_this_above, .long v_this_below, .int r.2, .int v_this_noCalls, .int v_this_fullCalls]))]) A) (by decide) rfl (Nat.le_of_ble_eq_true rfl) ?_
  intro p e s m below meth c A S hr hlk hK hA hP hD hS ls hl
  exact w_X11_status_0 S hr hlk hK hA a_this a_pit a_trial a_images a_kept a_text a_plans a_clues v_this_above v_this_below v_this_noCalls v_this_fullCalls v_this_badCalls x1 h s.heap [] ls hP hD hS (lv_sub hl [0, 1] rfl)

-- X12_status
theorem in_X12_status_X12 : ∀ w ∈ u_ws RX12 TX12 25, w ∈ wsX12_status := by decide +kernel
theorem lk_X12_status_7 : Cond.fieldLink RX12 7 (TX12 0).1 (TX12 0).2.1 (TX12 0).2.2.1 ∈ wsX12_status := by decide +kernel
def m_X12_status (f_refusals : Nat → Int32) (x1 : Int32) : Option (Int32 × (Nat → Int32)) := mCall (m_X12_in x1 (0 : Int32) (2 : Int32)) (fun (r1 : Int32) => if r1 = 0 then mRd f_refusals 3 (0 : Int32) (fun (t3 : Int32) => mWr f_refusals 3 (0 : Int32) (t3 + (1 : Int32)) (fun (f4 : Nat → Int32) => some ((-1 : Int32), f4))) else mRd f_refusals 3 x1 (fun (t2 : Int32) => some (t2, f_refusals)))
def P_X12_status_0 (p : Program) (l : Launch) (e : Env) (s : State) (m : MethodId) (args : Array Value) (below : List Frame) (meth : Method) (c : Code) (D : va_G) (cA : Nat → ClassId) (A : Nat → Prop) (r : Int32 × (Nat → Int32)) (a_this a_refusals a_now a_tried a_text a_numbers a_shown a_ways a_yet a_afternoons a_pieces a_sizes a_alike a_forth a_back a_isKept a_kept : Nat) (v_this_above : Int64) (v_this_below : Int64) (v_this_byteMany : Int32) (v_this_tokenAt : Int32) (v_this_tokenEnd : Int32) (v_this_token : Int32) (v_this_value : Int32) (v_this_word : Int32) (v_this_hash : Int64) (f_refusals : Nat → Int32) (x1 : Int32) : Prop := ∀ (H : Heap) (locs : List Loc) (ls : Array Slot), va_P D vwCl [(a_this, .inr (12, [.ref a_refusals, .long v_this_above, .long v_this_below, .ref a_now, .ref a_tried, .int v_this_byteMany, .ref a_text, .int v_this_tokenAt, .int v_this_tokenEnd, .int v_this_token, .int v_this_value, .int v_this_word, .ref a_numbers, .ref a_shown, .ref a_ways, .ref a_yet, .ref a_afternoons, .ref a_pieces, .ref a_sizes, .ref a_alike, .ref a_forth, .ref a_back, .ref a_isKept, .ref a_kept, .long v_this_hash])), (a_refusals, .inl (cA 0, 3, .inl f_refusals))] H → va_D A [(a_this, .inr (12, [.ref a_refusals, .long v_this_above, .long v_this_below, .ref a_now, .ref a_tried, .int v_this_byteMany, .ref a_text, .int v_this_tokenAt, .int v_this_tokenEnd, .int v_this_token, .int v_this_value, .int v_this_word, .ref a_numbers, .ref a_shown, .ref a_ways, .ref a_yet, .ref a_afternoons, .ref a_pieces, .ref a_sizes, .ref a_alike, .ref a_forth, .ref a_back, .ref a_isKept, .ref a_kept, .long v_this_hash])), (a_refusals, .inl (cA 0, 3, .inl f_refusals))] → va_S A s.heap H locs → lv_has ls 2 [(0, .ref a_this), (1, .int x1)] → W p l e { frames := 1, cells := 0, slots := 0, locals := 22 } s m args below meth c H locs 0 0 (MQ below (va_Qi (fun (y : Int32) (_ : Unit) => y = r.1) (gPost D A [(a_this, .inr (12, [.ref a_refusals, .long v_this_above, .long v_this_below, .ref a_now, .ref a_tried, .int v_this_byteMany, .ref a_text, .int v_this_tokenAt, .int v_this_tokenEnd, .int v_this_token, .int v_this_value, .int v_this_word, .ref a_numbers, .ref a_shown, .ref a_ways, .ref a_yet, .ref a_afternoons, .ref a_pieces, .ref a_sizes, .ref a_alike, .ref a_forth, .ref a_back, .ref a_isKept, .ref a_kept, .long v_this_hash])), (a_refusals, .inl (cA 0, 3, .inl r.2))]) A) args s 0 0 A) (F0 m 0 ls [])
set_option maxHeartbeats 4000000 in
set_option maxRecDepth 100000 in
theorem w_X12_status_0 {p : Program} {l : Launch} {e : Env} {s : State} {m : MethodId} {args : Array Value} {below : List Frame} {meth : Method} {c : Code} {D : va_G} {cA : Nat → ClassId} {A : Nat → Prop} {r : Int32 × (Nat → Int32)} (S : CallFix p m c cX12_status 2 s args wsX12_status RX12) (hr : meth.sig.returnType = some .int) (hlk : meth.locks = false) (hK : gK D cA s) (hA : ∀ q : Nat, s.heap.size ≤ q → A q) (a_this a_refusals a_now a_tried a_text a_numbers a_shown a_ways a_yet a_afternoons a_pieces a_sizes a_alike a_forth a_back a_isKept a_kept : Nat) (v_this_above : Int64) (v_this_below : Int64) (v_this_byteMany : Int32) (v_this_tokenAt : Int32) (v_this_tokenEnd : Int32) (v_this_token : Int32) (v_this_value : Int32) (v_this_word : Int32) (v_this_hash : Int64) (f_refusals : Nat → Int32) (x1 : Int32) (h : m_X12_status f_refusals x1 = some r) : P_X12_status_0 p l e s m args below meth c D cA A r a_this a_refusals a_now a_tried a_text a_numbers a_shown a_ways a_yet a_afternoons a_pieces a_sizes a_alike a_forth a_back a_isKept a_kept v_this_above v_this_below v_this_byteMany v_this_tokenAt v_this_tokenEnd v_this_token v_this_value v_this_word v_this_hash f_refusals x1 := by
  intro H locs ls hP hD hS hl
  unfold m_X12_status at h
  refine lv_iload_n S.1 S.2.1 dX12_status_0 rfl (lv_at hl 1 rfl) ?_
  refine lv_iconst (v := (0 : Int32)) S.1 S.2.1 dX12_status_1 (by decide) ?_
  refine lv_iconst (v := (2 : Int32)) S.1 S.2.1 dX12_status_2 (by decide) ?_
  obtain ⟨r1, hr1, h⟩ := mCall_use h
  refine mc_Pi (va_runS (As := [.int x1, .int (0 : Int32), .int (2 : Int32)]) (rest := []) S (c_X12_in l D cA x1 (0 : Int32) (2 : Int32) hr1) (va_cwS 3 S.2.2.2.2 gX12_status_X12_in rfl rfl rfl (by decide +kernel) ⟨Nat.le_of_ble_eq_true rfl, Nat.le_of_ble_eq_true rfl⟩) (pre_PS hK hP [] rfl) rfl rfl hl.1 rfl (lv_room (Nat.le_of_ble_eq_true rfl)) dX12_status_3 ⟨Nat.le_of_ble_eq_true rfl, Nat.le_of_ble_eq_true rfl⟩) ?_
  refine mi_if_ne (tgt := 21) S h dX12_status_6 (by decide) (fun h => ?_) (fun h => ?_)
  · refine lv_aload_n S.1 S.2.1 dX12_status_21 rfl (lv_at hl 0 rfl) ?_
    refine mi_get S hK hP in_X12_status_X12 0 rfl rfl 0 (by decide) lk_X12_status_7 rfl dX12_status_22 ?_
    refine lv_iload_n S.1 S.2.1 dX12_status_25 rfl (lv_at hl 1 rfl) ?_
    refine mi_iald S hK hP 1 rfl h dX12_status_26 (fun t2 h => ?_)
    cases h
    exact mi_iretE S hr hlk rfl hP hD hS dX12_status_27
  · refine lv_aload_n S.1 S.2.1 dX12_status_9 rfl (lv_at hl 0 rfl) ?_
    refine mi_get S hK hP in_X12_status_X12 0 rfl rfl 0 (by decide) lk_X12_status_7 rfl dX12_status_10 ?_
    refine lv_iconst (v := (0 : Int32)) S.1 S.2.1 dX12_status_13 (by decide) ?_
    refine lv_dup2_11 S.1 S.2.1 dX12_status_14 rfl rfl ?_
    refine mi_iald S hK hP 1 rfl h dX12_status_15 (fun t3 h => ?_)
    refine lv_iconst (v := (1 : Int32)) S.1 S.2.1 dX12_status_16 (by decide) ?_
    refine lv_iadd S.1 S.2.1 dX12_status_17 ?_
    refine mi_iast S hK hP hD hS 1 rfl h dX12_status_18 (fun f4 H locs h hP hD hS => ?_)
    have hP : va_P D vwCl [(a_this, .inr (12, [.ref a_refusals, .long v_this_above, .long v_this_below, .ref a_now, .ref a_tried, .int v_this_byteMany, .ref a_text, .int v_this_tokenAt, .int v_this_tokenEnd, .int v_this_token, .int v_this_value, .int v_this_word, .ref a_numbers, .ref a_shown, .ref a_ways, .ref a_yet, .ref a_afternoons, .ref a_pieces, .ref a_sizes, .ref a_alike, .ref a_forth, .ref a_back, .ref a_isKept, .ref a_kept, .long v_this_hash])), (a_refusals, .inl (cA 0, 3, .inl f4))] H := hP
    have hD : va_D A [(a_this, .inr (12, [.ref a_refusals, .long v_this_above, .long v_this_below, .ref a_now, .ref a_tried, .int v_this_byteMany, .ref a_text, .int v_this_tokenAt, .int v_this_tokenEnd, .int v_this_token, .int v_this_value, .int v_this_word, .ref a_numbers, .ref a_shown, .ref a_ways, .ref a_yet, .ref a_afternoons, .ref a_pieces, .ref a_sizes, .ref a_alike, .ref a_forth, .ref a_back, .ref a_isKept, .ref a_kept, .long v_this_hash])), (a_refusals, .inl (cA 0, 3, .inl f4))] := hD
    refine lv_iconst (v := (-1 : Int32)) S.1 S.2.1 dX12_status_19 (by decide) ?_
    cases h
    exact mi_iretE S hr hlk rfl hP hD hS dX12_status_20
set_option maxHeartbeats 4000000 in
set_option maxRecDepth 100000 in
theorem c_X12_status (l : Launch) (D : va_G) (cA : Nat → ClassId) (a_this a_refusals a_now a_tried a_text a_numbers a_shown a_ways a_yet a_afternoons a_pieces a_sizes a_alike a_forth a_back a_isKept a_kept : Nat) (v_this_above : Int64) (v_this_below : Int64) (v_this_byteMany : Int32) (v_this_tokenAt : Int32) (v_this_tokenEnd : Int32) (v_this_token : Int32) (v_this_value : Int32) (v_this_word : Int32) (v_this_hash : Int64) (f_refusals : Nat → Int32) (x1 : Int32) {r : Int32 × (Nat → Int32)} (h : m_X12_status f_refusals x1 = some r) : MEi l yX12_status wsX12_status { frames := 1, cells := 0, slots := 0, locals := 22 } D cA [.ref a_this, .int x1] [(a_this, .inr (12, [.ref a_refusals, .long v_this_above, .long v_this_below, .ref a_now, .ref a_tried, .int v_this_byteMany, .ref a_text, .int v_this_tokenAt, .int v_this_tokenEnd, .int v_this_token, .int v_this_value, .int v_this_word, .ref a_numbers, .ref a_shown, .ref a_ways, .ref a_yet, .ref a_afternoons, .ref a_pieces, .ref a_sizes, .ref a_alike, .ref a_forth, .ref a_back, .ref a_isKept, .ref a_kept, .long v_this_hash])), (a_refusals, .inl (cA 0, 3, .inl f_refusals))] [(a_this, .inr (12, [.ref a_refusals, .long v_this_above, .long v_this_below, .ref a_now, .ref a_tried, .int v_this_byteMany, .ref a_text, .int v_this_tokenAt, .int v_this_tokenEnd, .int v_this_token, .int v_this_value, .int v_this_word, .ref a_numbers, .ref a_shown, .ref a_ways, .ref a_yet, .ref a_afternoons, .ref a_pieces, .ref a_sizes, .ref a_alike, .ref a_forth, .ref a_back, .ref a_isKept, .ref a_kept, .long v_this_hash])), (a_refusals, .inl (cA 0, 3, .inl r.2))] r.1 := by
  refine mE_of (cc := cX12_status) (maxL := 2) (ret := (some .int)) (Qc := fun A => va_Qi (fun (y : Int32) (_ : Unit) => y = r.1) (gPost D A [(a_this, .inr (12, [.ref a_refusals, .long v_this_above, .long v_this_below, .ref a_now, .ref a_tried, .int v_this_byteMany, .ref a_text, .int v_this_tokenAt, .int v_this_tokenEnd, .int v_this_token, .int v_this_value, .int v_this_word, .ref a_numbers, .ref a_shown, .ref a_ways, .ref a_yet, .ref a_afternoons, .ref a_pieces, .ref a_sizes, .ref a_alike, .ref a_forth, .ref a_back, .ref a_isKept, .ref a_kept, .long v_this_hash])), (a_refusals, .inl (cA 0, 3, .inl r.2))]) A) (by decide) rfl (Nat.le_of_ble_eq_true rfl) ?_
  intro p e s m below meth c A S hr hlk hK hA hP hD hS ls hl
  exact w_X12_status_0 S hr hlk hK hA a_this a_refusals a_now a_tried a_text a_numbers a_shown a_ways a_yet a_afternoons a_pieces a_sizes a_alike a_forth a_back a_isKept a_kept v_this_above v_this_below v_this_byteMany v_this_tokenAt v_this_tokenEnd v_this_token v_this_value v_this_word v_this_hash f_refusals x1 h s.heap [] ls hP hD hS (lv_sub hl [0, 1] rfl)

-- X11_isWeather
def m_X11_isWeather (x0 : Int32) : Option (Int32) := mCall (m_X11_within x0 (0 : Int32) (5 : Int32)) (fun (r1 : Int32) => mZ r1 (some r1))
def P_X11_isWeather_0 (p : Program) (l : Launch) (e : Env) (s : State) (m : MethodId) (args : Array Value) (below : List Frame) (meth : Method) (c : Code) (D : va_G) (cA : Nat → ClassId) (r : Int32) (x0 : Int32) : Prop := va_P D vwCl [] s.heap → ∀ ls : Array Slot, lv_has ls 1 [(0, .int x0)] → W p l e { frames := 1, cells := 0, slots := 0, locals := 22 } s m args below meth c s.heap [] 0 0 (MQ below (vp_Si (fun y => y = r)) args s 0 0 (fun _ => False)) (F0 m 0 ls [])
set_option maxHeartbeats 4000000 in
set_option maxRecDepth 100000 in
theorem w_X11_isWeather_0 {p : Program} {l : Launch} {e : Env} {s : State} {m : MethodId} {args : Array Value} {below : List Frame} {meth : Method} {c : Code} {D : va_G} {cA : Nat → ClassId} {r : Int32} (S : CallFix p m c cX11_isWeather 1 s args wsX11_isWeather RX11) (hr : meth.sig.returnType = some .boolean) (hlk : meth.locks = false) (hK : gK D cA s) (x0 : Int32) (h : m_X11_isWeather x0 = some r) : P_X11_isWeather_0 p l e s m args below meth c D cA r x0 := by
  intro hP ls hl
  unfold m_X11_isWeather at h
  refine lv_iload_n S.1 S.2.1 dX11_isWeather_0 rfl (lv_at hl 0 rfl) ?_
  refine lv_iconst (v := (0 : Int32)) S.1 S.2.1 dX11_isWeather_1 (by decide) ?_
  refine lv_iconst (v := (5 : Int32)) S.1 S.2.1 dX11_isWeather_2 (by decide) ?_
  obtain ⟨r1, hr1, h⟩ := mCall_use h
  refine mc_Pi (va_runS (As := [.int x0, .int (0 : Int32), .int (5 : Int32)]) (rest := []) S (c_X11_within l D cA x0 (0 : Int32) (5 : Int32) hr1) (va_cwS 3 S.2.2.2.2 gX11_isWeather_X11_within rfl rfl rfl (by decide +kernel) ⟨Nat.le_of_ble_eq_true rfl, Nat.le_of_ble_eq_true rfl⟩) (pre_PS hK hP [] rfl) rfl rfl hl.1 rfl (lv_room (Nat.le_of_ble_eq_true rfl)) dX11_isWeather_3 ⟨Nat.le_of_ble_eq_true rfl, Nat.le_of_ble_eq_true rfl⟩) ?_
  obtain ⟨hz, h⟩ := mZ_use h
  cases h
  exact mi_zretP S hr hlk rfl hz dX11_isWeather_6
set_option maxHeartbeats 4000000 in
set_option maxRecDepth 100000 in
theorem c_X11_isWeather (l : Launch) (D : va_G) (cA : Nat → ClassId) (x0 : Int32) {r : Int32} (h : m_X11_isWeather x0 = some r) : MPi l yX11_isWeather wsX11_isWeather { frames := 1, cells := 0, slots := 0, locals := 22 } D cA [.int x0] [] r := by
  refine mP_of (cc := cX11_isWeather) (maxL := 1) (ret := (some .boolean)) (by decide) rfl (Nat.le_of_ble_eq_true rfl) ?_
  intro p e s m below meth c S hr hlk hK hP ls hl
  exact w_X11_isWeather_0 S hr hlk hK x0 h hP ls (lv_sub hl [0] rfl)

-- X4_setWeather
theorem nl_X4_setWeather_100 : ((RX4, 100, yX11_isLayer, "CoalWood") : String × Nat × MethodName × String) ∈ nestL := by decide +kernel
theorem li_X4_setWeather_X11 : Cond.initialized RX11 ∈ wsX4_setWeather := by decide +kernel
theorem ls_X4_setWeather_100 : Cond.static yX11_isLayer ∈ wsX4_setWeather := by decide +kernel
theorem nl_X4_setWeather_104 : ((RX4, 104, yX11_isWeather, "CoalWood") : String × Nat × MethodName × String) ∈ nestL := by decide +kernel
theorem ls_X4_setWeather_104 : Cond.static yX11_isWeather ∈ wsX4_setWeather := by decide +kernel
theorem in_X4_setWeather_X4 : ∀ w ∈ u_ws RX4 TX4 13, w ∈ wsX4_setWeather := by decide +kernel
theorem lk_X4_setWeather_33 : Cond.fieldLink RX4 33 (TX4 1).1 (TX4 1).2.1 (TX4 1).2.2.1 ∈ wsX4_setWeather := by decide +kernel
def m_X4_setWeather (f_weathers : Nat → Int32) (x1 : Int32) (x2 : Int32) : Option (Int32 × (Nat → Int32)) := mCall (m_X11_isLayer x1) (fun (r1 : Int32) => if r1 = 0 then some ((-2 : Int32), f_weathers) else mCall (m_X11_isWeather x2) (fun (r2 : Int32) => if r2 = 0 then some ((-2 : Int32), f_weathers) else mRd f_weathers 12 x1 (fun (t3 : Int32) => mWr f_weathers 12 x1 x2 (fun (f4 : Nat → Int32) => some (t3, f4)))))
def P_X4_setWeather_0 (p : Program) (l : Launch) (e : Env) (s : State) (m : MethodId) (args : Array Value) (below : List Frame) (meth : Method) (c : Code) (D : va_G) (cA : Nat → ClassId) (A : Nat → Prop) (r : Int32 × (Nat → Int32)) (a_this a_kinds a_weathers a_prices a_lumps a_past a_evening a_sights a_glimpses a_shown : Nat) (v_this_burnt : Int32) (v_this_money : Int32) (v_this_clock : Int32) (v_this_sightSize : Int32) (f_weathers : Nat → Int32) (x1 : Int32) (x2 : Int32) : Prop := ∀ (H : Heap) (locs : List Loc) (ls : Array Slot), va_P D vwCl [(a_this, .inr (4, [.ref a_kinds, .ref a_weathers, .ref a_prices, .ref a_lumps, .ref a_past, .ref a_evening, .ref a_sights, .ref a_glimpses, .ref a_shown, .int v_this_burnt, .int v_this_money, .int v_this_clock, .int v_this_sightSize])), (a_weathers, .inl (cA 0, 12, .inl f_weathers))] H → va_D A [(a_this, .inr (4, [.ref a_kinds, .ref a_weathers, .ref a_prices, .ref a_lumps, .ref a_past, .ref a_evening, .ref a_sights, .ref a_glimpses, .ref a_shown, .int v_this_burnt, .int v_this_money, .int v_this_clock, .int v_this_sightSize])), (a_weathers, .inl (cA 0, 12, .inl f_weathers))] → va_S A s.heap H locs → lv_has ls 4 [(0, .ref a_this), (1, .int x1), (2, .int x2)] → W p l e { frames := 2, cells := 0, slots := 0, locals := 42 } s m args below meth c H locs 0 0 (MQ below (va_Qi (fun (y : Int32) (_ : Unit) => y = r.1) (gPost D A [(a_this, .inr (4, [.ref a_kinds, .ref a_weathers, .ref a_prices, .ref a_lumps, .ref a_past, .ref a_evening, .ref a_sights, .ref a_glimpses, .ref a_shown, .int v_this_burnt, .int v_this_money, .int v_this_clock, .int v_this_sightSize])), (a_weathers, .inl (cA 0, 12, .inl r.2))]) A) args s 0 0 A) (F0 m 0 ls [])
set_option maxHeartbeats 4000000 in
set_option maxRecDepth 100000 in
theorem w_X4_setWeather_0 {p : Program} {l : Launch} {e : Env} {s : State} {m : MethodId} {args : Array Value} {below : List Frame} {meth : Method} {c : Code} {D : va_G} {cA : Nat → ClassId} {A : Nat → Prop} {r : Int32 × (Nat → Int32)} (S : CallFix p m c cX4_setWeather 4 s args wsX4_setWeather RX4) (hr : meth.sig.returnType = some .int) (hlk : meth.locks = false) (hK : gK D cA s) (hA : ∀ q : Nat, s.heap.size ≤ q → A q) (a_this a_kinds a_weathers a_prices a_lumps a_past a_evening a_sights a_glimpses a_shown : Nat) (v_this_burnt : Int32) (v_this_money : Int32) (v_this_clock : Int32) (v_this_sightSize : Int32) (f_weathers : Nat → Int32) (x1 : Int32) (x2 : Int32) (h : m_X4_setWeather f_weathers x1 x2 = some r) : P_X4_setWeather_0 p l e s m args below meth c D cA A r a_this a_kinds a_weathers a_prices a_lumps a_past a_evening a_sights a_glimpses a_shown v_this_burnt v_this_money v_this_clock v_this_sightSize f_weathers x1 x2 := by
  intro H locs ls hP hD hS hl
  unfold m_X4_setWeather at h
  refine lv_iload_n S.1 S.2.1 dX4_setWeather_0 rfl (lv_at hl 1 rfl) ?_
  obtain ⟨r1, hr1, h⟩ := mCall_use h
  refine mc_Pi (va_runSN (As := [.int x1]) (rest := []) S (c_X11_isLayer l D cA x1 hr1) ⟨va_cnB 1 S.2.2.2.2 gX4_setWeather_X11_isLayer_n100 rfl rfl rfl (hK.2.1 _ nl_X4_setWeather_100) (S.2.2.2.2 _ li_X4_setWeather_X11) (by decide +kernel) ⟨Nat.le_of_ble_eq_true rfl, Nat.le_of_ble_eq_true rfl⟩, S.2.2.2.2 _ ls_X4_setWeather_100, trivial⟩ (pre_PS hK hP [] rfl) rfl rfl hl.1 rfl (lv_room (Nat.le_of_ble_eq_true rfl)) dX4_setWeather_1 ⟨Nat.le_of_ble_eq_true rfl, Nat.le_of_ble_eq_true rfl⟩) ?_
  refine mi_if_eq (tgt := 14) S h dX4_setWeather_4 (by decide) (fun h => ?_) (fun h => ?_)
  · refine lv_bipush (v := (-2 : Int32)) S.1 S.2.1 dX4_setWeather_14 (by decide) ?_
    cases h
    exact mi_iretE S hr hlk rfl hP hD hS dX4_setWeather_16
  · refine lv_iload_n S.1 S.2.1 dX4_setWeather_7 rfl (lv_at hl 2 rfl) ?_
    obtain ⟨r2, hr2, h⟩ := mCall_use h
    refine mc_Pi (va_runSN (As := [.int x2]) (rest := []) S (c_X11_isWeather l D cA x2 hr2) ⟨va_cnB 1 S.2.2.2.2 gX4_setWeather_X11_isWeather_n104 rfl rfl rfl (hK.2.1 _ nl_X4_setWeather_104) (S.2.2.2.2 _ li_X4_setWeather_X11) (by decide +kernel) ⟨Nat.le_of_ble_eq_true rfl, Nat.le_of_ble_eq_true rfl⟩, S.2.2.2.2 _ ls_X4_setWeather_104, trivial⟩ (pre_PS hK hP [] rfl) rfl rfl hl.1 rfl (lv_room (Nat.le_of_ble_eq_true rfl)) dX4_setWeather_8 ⟨Nat.le_of_ble_eq_true rfl, Nat.le_of_ble_eq_true rfl⟩) ?_
    refine mi_if_ne (tgt := 17) S h dX4_setWeather_11 (by decide) (fun h => ?_) (fun h => ?_)
    · refine lv_aload_n S.1 S.2.1 dX4_setWeather_17 rfl (lv_at hl 0 rfl) ?_
      refine mi_get S hK hP in_X4_setWeather_X4 0 rfl rfl 1 (by decide) lk_X4_setWeather_33 rfl dX4_setWeather_18 ?_
      refine lv_iload_n S.1 S.2.1 dX4_setWeather_21 rfl (lv_at hl 1 rfl) ?_
      refine mi_iald S hK hP 1 rfl h dX4_setWeather_22 (fun t3 h => ?_)
      refine lv_istore_n (lv' := [(3, .int t3), (0, .ref a_this), (1, .int x1), (2, .int x2)]) S.1 S.2.1 dX4_setWeather_23 rfl hl (by decide) rfl (fun ls hl => ?_)
      refine lv_aload_n S.1 S.2.1 dX4_setWeather_24 rfl (lv_at hl 1 rfl) ?_
      refine mi_get S hK hP in_X4_setWeather_X4 0 rfl rfl 1 (by decide) lk_X4_setWeather_33 rfl dX4_setWeather_25 ?_
      refine lv_iload_n S.1 S.2.1 dX4_setWeather_28 rfl (lv_at hl 2 rfl) ?_
      refine lv_iload_n S.1 S.2.1 dX4_setWeather_29 rfl (lv_at hl 3 rfl) ?_
      refine mi_iast S hK hP hD hS 1 rfl h dX4_setWeather_30 (fun f4 H locs h hP hD hS => ?_)
      have hP : va_P D vwCl [(a_this, .inr (4, [.ref a_kinds, .ref a_weathers, .ref a_prices, .ref a_lumps, .ref a_past, .ref a_evening, .ref a_sights, .ref a_glimpses, .ref a_shown, .int v_this_burnt, .int v_this_money, .int v_this_clock, .int v_this_sightSize])), (a_weathers, .inl (cA 0, 12, .inl f4))] H := hP
      have hD : va_D A [(a_this, .inr (4, [.ref a_kinds, .ref a_weathers, .ref a_prices, .ref a_lumps, .ref a_past, .ref a_evening, .ref a_sights, .ref a_glimpses, .ref a_shown, .int v_this_burnt, .int v_this_money, .int v_this_clock, .int v_this_sightSize])), (a_weathers, .inl (cA 0, 12, .inl f4))] := hD
      refine lv_iload_n S.1 S.2.1 dX4_setWeather_31 rfl (lv_at hl 0 rfl) ?_
      cases h
      exact mi_iretE S hr hlk rfl hP hD hS dX4_setWeather_32
    · refine lv_bipush (v := (-2 : Int32)) S.1 S.2.1 dX4_setWeather_14 (by decide) ?_
      cases h
      exact mi_iretE S hr hlk rfl hP hD hS dX4_setWeather_16
set_option maxHeartbeats 4000000 in
set_option maxRecDepth 100000 in
theorem c_X4_setWeather (l : Launch) (D : va_G) (cA : Nat → ClassId) (a_this a_kinds a_weathers a_prices a_lumps a_past a_evening a_sights a_glimpses a_shown : Nat) (v_this_burnt : Int32) (v_this_money : Int32) (v_this_clock : Int32) (v_this_sightSize : Int32) (f_weathers : Nat → Int32) (x1 : Int32) (x2 : Int32) {r : Int32 × (Nat → Int32)} (h : m_X4_setWeather f_weathers x1 x2 = some r) : MEi l yX4_setWeather wsX4_setWeather { frames := 2, cells := 0, slots := 0, locals := 42 } D cA [.ref a_this, .int x1, .int x2] [(a_this, .inr (4, [.ref a_kinds, .ref a_weathers, .ref a_prices, .ref a_lumps, .ref a_past, .ref a_evening, .ref a_sights, .ref a_glimpses, .ref a_shown, .int v_this_burnt, .int v_this_money, .int v_this_clock, .int v_this_sightSize])), (a_weathers, .inl (cA 0, 12, .inl f_weathers))] [(a_this, .inr (4, [.ref a_kinds, .ref a_weathers, .ref a_prices, .ref a_lumps, .ref a_past, .ref a_evening, .ref a_sights, .ref a_glimpses, .ref a_shown, .int v_this_burnt, .int v_this_money, .int v_this_clock, .int v_this_sightSize])), (a_weathers, .inl (cA 0, 12, .inl r.2))] r.1 := by
  refine mE_of (cc := cX4_setWeather) (maxL := 4) (ret := (some .int)) (Qc := fun A => va_Qi (fun (y : Int32) (_ : Unit) => y = r.1) (gPost D A [(a_this, .inr (4, [.ref a_kinds, .ref a_weathers, .ref a_prices, .ref a_lumps, .ref a_past, .ref a_evening, .ref a_sights, .ref a_glimpses, .ref a_shown, .int v_this_burnt, .int v_this_money, .int v_this_clock, .int v_this_sightSize])), (a_weathers, .inl (cA 0, 12, .inl r.2))]) A) (by decide) rfl (Nat.le_of_ble_eq_true rfl) ?_
  intro p e s m below meth c A S hr hlk hK hA hP hD hS ls hl
  exact w_X4_setWeather_0 S hr hlk hK hA a_this a_kinds a_weathers a_prices a_lumps a_past a_evening a_sights a_glimpses a_shown v_this_burnt v_this_money v_this_clock v_this_sightSize f_weathers x1 x2 h s.heap [] ls hP hD hS (lv_sub hl [0, 1, 2] rfl)

-- X11_layer
theorem in_X11_layer_X11 : ∀ w ∈ u_ws RX11 TX11 12, w ∈ wsX11_layer := by decide +kernel
theorem lk_X11_layer_12 : Cond.fieldLink RX11 12 (TX11 0).1 (TX11 0).2.1 (TX11 0).2.2.1 ∈ wsX11_layer := by decide +kernel
def m_X11_layer (v_this_badCalls : Int32) (v_this_noCalls : Int32) (v_this_fullCalls : Int32) (f_pit_weathers : Nat → Int32) (x1 : Int32) (x2 : Int32) : Option (Int32 × (Int32) × (Int32) × (Int32) × (Nat → Int32)) := mCall (m_X4_setWeather f_pit_weathers x1 x2) (fun (r1 : Int32 × (Nat → Int32)) => mCall (m_X11_counted v_this_badCalls v_this_noCalls v_this_fullCalls r1.1) (fun (r2 : Int32 × (Int32) × (Int32) × (Int32)) => some (r2.1, r2.2.1, r2.2.2.1, r2.2.2.2, r1.2)))
def P_X11_layer_0 (p : Program) (l : Launch) (e : Env) (s : State) (m : MethodId) (args : Array Value) (below : List Frame) (meth : Method) (c : Code) (D : va_G) (cA : Nat → ClassId) (A : Nat → Prop) (r : Int32 × (Int32) × (Int32) × (Int32) × (Nat → Int32)) (a_this a_pit a_trial a_images a_kept a_text a_plans a_clues a_pit_kinds a_pit_weathers a_pit_prices a_pit_lumps a_pit_past a_pit_evening a_pit_sights a_pit_glimpses a_pit_shown : Nat) (v_this_above : Int64) (v_this_below : Int64) (v_this_badCalls : Int32) (v_this_noCalls : Int32) (v_this_fullCalls : Int32) (v_pit_burnt : Int32) (v_pit_money : Int32) (v_pit_clock : Int32) (v_pit_sightSize : Int32) (f_pit_weathers : Nat → Int32) (x1 : Int32) (x2 : Int32) : Prop := ∀ (H : Heap) (locs : List Loc) (ls : Array Slot), va_P D vwCl [(a_this, .inr (11, [.ref a_pit, .ref a_trial, .ref a_images, .ref a_kept, .ref a_text, .ref a_plans, .ref a_clues, .long v_this_above, .long v_this_below, .int v_this_badCalls, .int v_this_noCalls, .int v_this_fullCalls])), (a_pit, .inr (4, [.ref a_pit_kinds, .ref a_pit_weathers, .ref a_pit_prices, .ref a_pit_lumps, .ref a_pit_past, .ref a_pit_evening, .ref a_pit_sights, .ref a_pit_glimpses, .ref a_pit_shown, .int v_pit_burnt, .int v_pit_money, .int v_pit_clock, .int v_pit_sightSize])), (a_pit_weathers, .inl (cA 0, 12, .inl f_pit_weathers))] H → va_D A [(a_this, .inr (11, [.ref a_pit, .ref a_trial, .ref a_images, .ref a_kept, .ref a_text, .ref a_plans, .ref a_clues, .long v_this_above, .long v_this_below, .int v_this_badCalls, .int v_this_noCalls, .int v_this_fullCalls])), (a_pit, .inr (4, [.ref a_pit_kinds, .ref a_pit_weathers, .ref a_pit_prices, .ref a_pit_lumps, .ref a_pit_past, .ref a_pit_evening, .ref a_pit_sights, .ref a_pit_glimpses, .ref a_pit_shown, .int v_pit_burnt, .int v_pit_money, .int v_pit_clock, .int v_pit_sightSize])), (a_pit_weathers, .inl (cA 0, 12, .inl f_pit_weathers))] → va_S A s.heap H locs → lv_has ls 3 [(0, .ref a_this), (1, .int x1), (2, .int x2)] → W p l e { frames := 3, cells := 0, slots := 0, locals := 65 } s m args below meth c H locs 0 0 (MQ below (va_Qi (fun (y : Int32) (_ : Unit) => y = r.1) (gPost D A [(a_this, .inr (11, [.ref a_pit, .ref a_trial, .ref a_images, .ref a_kept, .ref a_text, .ref a_plans, .ref a_clues, .long v_this_above, .long v_this_below, .int r.2.1, .int r.2.2.1, .int r.2.2.2.1])), (a_pit, .inr (4, [.ref a_pit_kinds, .ref a_pit_weathers, .ref a_pit_prices, .ref a_pit_lumps, .ref a_pit_past, .ref a_pit_evening, .ref a_pit_sights, .ref a_pit_glimpses, .ref a_pit_shown, .int v_pit_burnt, .int v_pit_money, .int v_pit_clock, .int v_pit_sightSize])), (a_pit_weathers, .inl (cA 0, 12, .inl r.2.2.2.2))]) A) args s 0 0 A) (F0 m 0 ls [])
set_option maxHeartbeats 4000000 in
set_option maxRecDepth 100000 in
theorem w_X11_layer_0 {p : Program} {l : Launch} {e : Env} {s : State} {m : MethodId} {args : Array Value} {below : List Frame} {meth : Method} {c : Code} {D : va_G} {cA : Nat → ClassId} {A : Nat → Prop} {r : Int32 × (Int32) × (Int32) × (Int32) × (Nat → Int32)} (S : CallFix p m c cX11_layer 3 s args wsX11_layer RX11) (hr : meth.sig.returnType = some .int) (hlk : meth.locks = false) (hK : gK D cA s) (hA : ∀ q : Nat, s.heap.size ≤ q → A q) (a_this a_pit a_trial a_images a_kept a_text a_plans a_clues a_pit_kinds a_pit_weathers a_pit_prices a_pit_lumps a_pit_past a_pit_evening a_pit_sights a_pit_glimpses a_pit_shown : Nat) (v_this_above : Int64) (v_this_below : Int64) (v_pit_burnt : Int32) (v_pit_money : Int32) (v_pit_clock : Int32) (v_pit_sightSize : Int32) (v_this_badCalls : Int32) (v_this_noCalls : Int32) (v_this_fullCalls : Int32) (f_pit_weathers : Nat → Int32) (x1 : Int32) (x2 : Int32) (h : m_X11_layer v_this_badCalls v_this_noCalls v_this_fullCalls f_pit_weathers x1 x2 = some r) : P_X11_layer_0 p l e s m args below meth c D cA A r a_this a_pit a_trial a_images a_kept a_text a_plans a_clues a_pit_kinds a_pit_weathers a_pit_prices a_pit_lumps a_pit_past a_pit_evening a_pit_sights a_pit_glimpses a_pit_shown v_this_above v_this_below v_this_badCalls v_this_noCalls v_this_fullCalls v_pit_burnt v_pit_money v_pit_clock v_pit_sightSize f_pit_weathers x1 x2 := by
  intro H locs ls hP hD hS hl
  unfold m_X11_layer at h
  refine lv_aload_n S.1 S.2.1 dX11_layer_0 rfl (lv_at hl 0 rfl) ?_
  refine lv_aload_n S.1 S.2.1 dX11_layer_1 rfl (lv_at hl 0 rfl) ?_
  refine mi_get S hK hP in_X11_layer_X11 0 rfl rfl 0 (by decide) lk_X11_layer_12 rfl dX11_layer_2 ?_
  refine lv_iload_n S.1 S.2.1 dX11_layer_5 rfl (lv_at hl 1 rfl) ?_
  refine lv_iload_n S.1 S.2.1 dX11_layer_6 rfl (lv_at hl 2 rfl) ?_
  obtain ⟨r1, hr1, h⟩ := mCall_use h
  refine mc_Ei (W1 := [(a_this, .inr (11, [.ref a_pit, .ref a_trial, .ref a_images, .ref a_kept, .ref a_text, .ref a_plans, .ref a_clues, .long v_this_above, .long v_this_below, .int v_this_badCalls, .int v_this_noCalls, .int v_this_fullCalls])), (a_pit, .inr (4, [.ref a_pit_kinds, .ref a_pit_weathers, .ref a_pit_prices, .ref a_pit_lumps, .ref a_pit_past, .ref a_pit_evening, .ref a_pit_sights, .ref a_pit_glimpses, .ref a_pit_shown, .int v_pit_burnt, .int v_pit_money, .int v_pit_clock, .int v_pit_sightSize])), (a_pit_weathers, .inl (cA 0, 12, .inl r1.2))]) (va_runV (As := [.int x1, .int x2]) (rest := [.ref a_this]) S (c_X4_setWeather l D cA a_pit a_pit_kinds a_pit_weathers a_pit_prices a_pit_lumps a_pit_past a_pit_evening a_pit_sights a_pit_glimpses a_pit_shown v_pit_burnt v_pit_money v_pit_clock v_pit_sightSize f_pit_weathers x1 x2 hr1 H.size) (cwV 2 S.2.2.2.2 gX11_layer_X4_setWeather rfl rfl rfl (by decide +kernel) ⟨Nat.le_of_ble_eq_true rfl, Nat.le_of_ble_eq_true rfl⟩) (pre_EV hK hP hD [1, 2] rfl (by decide) (ci := 4) (q0 := 1) rfl rfl) rfl rfl hl.1 rfl (lv_room (Nat.le_of_ble_eq_true rfl)) dX11_layer_7 ⟨Nat.le_of_ble_eq_true rfl, Nat.le_of_ble_eq_true rfl⟩) hP hD hS hA [1, 2] rfl [0] (wr := [(a_this, .inr (11, [.ref a_pit, .ref a_trial, .ref a_images, .ref a_kept, .ref a_text, .ref a_plans, .ref a_clues, .long v_this_above, .long v_this_below, .int v_this_badCalls, .int v_this_noCalls, .int v_this_fullCalls]))]) rfl (by decide) (by decide) [0, 1, 2] rfl (by decide) (fun H locs hP hD hS => ?_)
  obtain ⟨r2, hr2, h⟩ := mCall_use h
  refine mc_Ei (W1 := [(a_this, .inr (11, [.ref a_pit, .ref a_trial, .ref a_images, .ref a_kept, .ref a_text, .ref a_plans, .ref a_clues, .long v_this_above, .long v_this_below, .int r2.2.1, .int r2.2.2.1, .int r2.2.2.2])), (a_pit, .inr (4, [.ref a_pit_kinds, .ref a_pit_weathers, .ref a_pit_prices, .ref a_pit_lumps, .ref a_pit_past, .ref a_pit_evening, .ref a_pit_sights, .ref a_pit_glimpses, .ref a_pit_shown, .int v_pit_burnt, .int v_pit_money, .int v_pit_clock, .int v_pit_sightSize])), (a_pit_weathers, .inl (cA 0, 12, .inl r1.2))]) (va_runV (As := [.int r1.1]) (rest := []) S (c_X11_counted l D cA a_this a_pit a_trial a_images a_kept a_text a_plans a_clues v_this_above v_this_below v_this_badCalls v_this_noCalls v_this_fullCalls r1.1 hr2 H.size) (cwV 1 S.2.2.2.2 gX11_layer_X11_counted rfl rfl rfl (by decide +kernel) ⟨Nat.le_of_ble_eq_true rfl, Nat.le_of_ble_eq_true rfl⟩) (pre_EV hK hP hD [0] rfl (by decide) (ci := 11) (q0 := 0) rfl rfl) rfl rfl hl.1 rfl (lv_room (Nat.le_of_ble_eq_true rfl)) dX11_layer_10 ⟨Nat.le_of_ble_eq_true rfl, Nat.le_of_ble_eq_true rfl⟩) hP hD hS hA [0] rfl [1, 2] (wr := [(a_pit, .inr (4, [.ref a_pit_kinds, .ref a_pit_weathers, .ref a_pit_prices, .ref a_pit_lumps, .ref a_pit_past, .ref a_pit_evening, .ref a_pit_sights, .ref a_pit_glimpses, .ref a_pit_shown, .int v_pit_burnt, .int v_pit_money, .int v_pit_clock, .int v_pit_sightSize])), (a_pit_weathers, .inl (cA 0, 12, .inl r1.2))]) rfl (by decide) (by decide) [2, 0, 1] rfl (by decide) (fun H locs hP hD hS => ?_)
  cases h
  exact mi_iretE S hr hlk rfl hP hD hS dX11_layer_13
set_option maxHeartbeats 4000000 in
set_option maxRecDepth 100000 in
theorem c_X11_layer (l : Launch) (D : va_G) (cA : Nat → ClassId) (a_this a_pit a_trial a_images a_kept a_text a_plans a_clues a_pit_kinds a_pit_weathers a_pit_prices a_pit_lumps a_pit_past a_pit_evening a_pit_sights a_pit_glimpses a_pit_shown : Nat) (v_this_above : Int64) (v_this_below : Int64) (v_this_badCalls : Int32) (v_this_noCalls : Int32) (v_this_fullCalls : Int32) (v_pit_burnt : Int32) (v_pit_money : Int32) (v_pit_clock : Int32) (v_pit_sightSize : Int32) (f_pit_weathers : Nat → Int32) (x1 : Int32) (x2 : Int32) {r : Int32 × (Int32) × (Int32) × (Int32) × (Nat → Int32)} (h : m_X11_layer v_this_badCalls v_this_noCalls v_this_fullCalls f_pit_weathers x1 x2 = some r) : MEi l yX11_layer wsX11_layer { frames := 3, cells := 0, slots := 0, locals := 65 } D cA [.ref a_this, .int x1, .int x2] [(a_this, .inr (11, [.ref a_pit, .ref a_trial, .ref a_images, .ref a_kept, .ref a_text, .ref a_plans, .ref a_clues, .long v_this_above, .long v_this_below, .int v_this_badCalls, .int v_this_noCalls, .int v_this_fullCalls])), (a_pit, .inr (4, [.ref a_pit_kinds, .ref a_pit_weathers, .ref a_pit_prices, .ref a_pit_lumps, .ref a_pit_past, .ref a_pit_evening, .ref a_pit_sights, .ref a_pit_glimpses, .ref a_pit_shown, .int v_pit_burnt, .int v_pit_money, .int v_pit_clock, .int v_pit_sightSize])), (a_pit_weathers, .inl (cA 0, 12, .inl f_pit_weathers))] [(a_this, .inr (11, [.ref a_pit, .ref a_trial, .ref a_images, .ref a_kept, .ref a_text, .ref a_plans, .ref a_clues, .long v_this_above, .long v_this_below, .int r.2.1, .int r.2.2.1, .int r.2.2.2.1])), (a_pit, .inr (4, [.ref a_pit_kinds, .ref a_pit_weathers, .ref a_pit_prices, .ref a_pit_lumps, .ref a_pit_past, .ref a_pit_evening, .ref a_pit_sights, .ref a_pit_glimpses, .ref a_pit_shown, .int v_pit_burnt, .int v_pit_money, .int v_pit_clock, .int v_pit_sightSize])), (a_pit_weathers, .inl (cA 0, 12, .inl r.2.2.2.2))] r.1 := by
  refine mE_of (cc := cX11_layer) (maxL := 3) (ret := (some .int)) (Qc := fun A => va_Qi (fun (y : Int32) (_ : Unit) => y = r.1) (gPost D A [(a_this, .inr (11, [.ref a_pit, .ref a_trial, .ref a_images, .ref a_kept, .ref a_text, .ref a_plans, .ref a_clues, .long v_this_above, .long v_this_below, .int r.2.1, .int r.2.2.1, .int r.2.2.2.1])), (a_pit, .inr (4, [.ref a_pit_kinds, .ref a_pit_weathers, .ref a_pit_prices, .ref a_pit_lumps, .ref a_pit_past, .ref a_pit_evening, .ref a_pit_sights, .ref a_pit_glimpses, .ref a_pit_shown, .int v_pit_burnt, .int v_pit_money, .int v_pit_clock, .int v_pit_sightSize])), (a_pit_weathers, .inl (cA 0, 12, .inl r.2.2.2.2))]) A) (by decide) rfl (Nat.le_of_ble_eq_true rfl) ?_
  intro p e s m below meth c A S hr hlk hK hA hP hD hS ls hl
  exact w_X11_layer_0 S hr hlk hK hA a_this a_pit a_trial a_images a_kept a_text a_plans a_clues a_pit_kinds a_pit_weathers a_pit_prices a_pit_lumps a_pit_past a_pit_evening a_pit_sights a_pit_glimpses a_pit_shown v_this_above v_this_below v_pit_burnt v_pit_money v_pit_clock v_pit_sightSize v_this_badCalls v_this_noCalls v_this_fullCalls f_pit_weathers x1 x2 h s.heap [] ls hP hD hS (lv_sub hl [0, 1, 2] rfl)

-- X12_lumpOn
def m_X12_lumpOn (f_p0 : Nat → Int32) (x1 : Int32) (x2 : Int32) (x3 : Int32) : Option (Int32 × (Nat → Int32)) := mCall (m_X12_in x1 (0 : Int32) (5 : Int32)) (fun (r1 : Int32) => if r1 = 0 then some ((-2 : Int32), f_p0) else mCall (m_X12_in x2 (0 : Int32) (11 : Int32)) (fun (r2 : Int32) => if r2 = 0 then some ((-2 : Int32), f_p0) else mCall (m_X12_in x3 (1 : Int32) (6 : Int32)) (fun (r3 : Int32) => if r3 = 0 then some ((-2 : Int32), f_p0) else if (x2 + x3) ≤ (12 : Int32) then mRd f_p0 126 (50 : Int32) (fun (t4 : Int32) => if t4 = (8 : Int32) then some ((-4 : Int32), f_p0) else mRd f_p0 126 (50 : Int32) (fun (t5 : Int32) => mLet ((18 : Int32) + ((4 : Int32) * t5)) (fun (t6 : Int32) => mWr f_p0 126 t6 x1 (fun (f7 : Nat → Int32) => mWr f7 126 (t6 + (1 : Int32)) x2 (fun (f8 : Nat → Int32) => mWr f8 126 (t6 + (2 : Int32)) x3 (fun (f9 : Nat → Int32) => mWr f9 126 (t6 + (3 : Int32)) (0 : Int32) (fun (f10 : Nat → Int32) => mWr f10 126 (53 : Int32) (0 : Int32) (fun (f11 : Nat → Int32) => mRd f11 126 (50 : Int32) (fun (t12 : Int32) => mWr f11 126 (50 : Int32) (t12 + (1 : Int32)) (fun (f13 : Nat → Int32) => mRd f13 126 (50 : Int32) (fun (t14 : Int32) => some ((t14 - (1 : Int32)), f13)))))))))))) else some ((-2 : Int32), f_p0))))
def P_X12_lumpOn_0 (p : Program) (l : Launch) (e : Env) (s : State) (m : MethodId) (args : Array Value) (below : List Frame) (meth : Method) (c : Code) (D : va_G) (cA : Nat → ClassId) (A : Nat → Prop) (r : Int32 × (Nat → Int32)) (a_p0 : Nat) (f_p0 : Nat → Int32) (x1 : Int32) (x2 : Int32) (x3 : Int32) : Prop := ∀ (H : Heap) (locs : List Loc) (ls : Array Slot), va_P D vwCl [(a_p0, .inl (cA 0, 126, .inl f_p0))] H → va_D A [(a_p0, .inl (cA 0, 126, .inl f_p0))] → va_S A s.heap H locs → lv_has ls 5 [(0, .ref a_p0), (1, .int x1), (2, .int x2), (3, .int x3)] → W p l e { frames := 1, cells := 0, slots := 0, locals := 22 } s m args below meth c H locs 0 0 (MQ below (va_Qi (fun (y : Int32) (_ : Unit) => y = r.1) (gPost D A [(a_p0, .inl (cA 0, 126, .inl r.2))]) A) args s 0 0 A) (F0 m 0 ls [])
set_option maxHeartbeats 4000000 in
set_option maxRecDepth 100000 in
theorem w_X12_lumpOn_0 {p : Program} {l : Launch} {e : Env} {s : State} {m : MethodId} {args : Array Value} {below : List Frame} {meth : Method} {c : Code} {D : va_G} {cA : Nat → ClassId} {A : Nat → Prop} {r : Int32 × (Nat → Int32)} (S : CallFix p m c cX12_lumpOn 5 s args wsX12_lumpOn RX12) (hr : meth.sig.returnType = some .int) (hlk : meth.locks = false) (hK : gK D cA s) (hA : ∀ q : Nat, s.heap.size ≤ q → A q) (a_p0 : Nat) (f_p0 : Nat → Int32) (x1 : Int32) (x2 : Int32) (x3 : Int32) (h : m_X12_lumpOn f_p0 x1 x2 x3 = some r) : P_X12_lumpOn_0 p l e s m args below meth c D cA A r a_p0 f_p0 x1 x2 x3 := by
  intro H locs ls hP hD hS hl
  unfold m_X12_lumpOn at h
  refine lv_iload_n S.1 S.2.1 dX12_lumpOn_0 rfl (lv_at hl 1 rfl) ?_
  refine lv_iconst (v := (0 : Int32)) S.1 S.2.1 dX12_lumpOn_1 (by decide) ?_
  refine lv_iconst (v := (5 : Int32)) S.1 S.2.1 dX12_lumpOn_2 (by decide) ?_
  obtain ⟨r1, hr1, h⟩ := mCall_use h
  refine mc_Pi (va_runS (As := [.int x1, .int (0 : Int32), .int (5 : Int32)]) (rest := []) S (c_X12_in l D cA x1 (0 : Int32) (5 : Int32) hr1) (va_cwS 3 S.2.2.2.2 gX12_lumpOn_X12_in rfl rfl rfl (by decide +kernel) ⟨Nat.le_of_ble_eq_true rfl, Nat.le_of_ble_eq_true rfl⟩) (pre_PS hK hP [] rfl) rfl rfl hl.1 rfl (lv_room (Nat.le_of_ble_eq_true rfl)) dX12_lumpOn_3 ⟨Nat.le_of_ble_eq_true rfl, Nat.le_of_ble_eq_true rfl⟩) ?_
  refine mi_if_eq (tgt := 37) S h dX12_lumpOn_6 (by decide) (fun h => ?_) (fun h => ?_)
  · refine lv_bipush (v := (-2 : Int32)) S.1 S.2.1 dX12_lumpOn_37 (by decide) ?_
    cases h
    exact mi_iretE S hr hlk rfl hP hD hS dX12_lumpOn_39
  · refine lv_iload_n S.1 S.2.1 dX12_lumpOn_9 rfl (lv_at hl 2 rfl) ?_
    refine lv_iconst (v := (0 : Int32)) S.1 S.2.1 dX12_lumpOn_10 (by decide) ?_
    refine lv_bipush (v := (11 : Int32)) S.1 S.2.1 dX12_lumpOn_11 (by decide) ?_
    obtain ⟨r2, hr2, h⟩ := mCall_use h
    refine mc_Pi (va_runS (As := [.int x2, .int (0 : Int32), .int (11 : Int32)]) (rest := []) S (c_X12_in l D cA x2 (0 : Int32) (11 : Int32) hr2) (va_cwS 3 S.2.2.2.2 gX12_lumpOn_X12_in rfl rfl rfl (by decide +kernel) ⟨Nat.le_of_ble_eq_true rfl, Nat.le_of_ble_eq_true rfl⟩) (pre_PS hK hP [] rfl) rfl rfl hl.1 rfl (lv_room (Nat.le_of_ble_eq_true rfl)) dX12_lumpOn_13 ⟨Nat.le_of_ble_eq_true rfl, Nat.le_of_ble_eq_true rfl⟩) ?_
    refine mi_if_eq (tgt := 37) S h dX12_lumpOn_16 (by decide) (fun h => ?_) (fun h => ?_)
    · refine lv_bipush (v := (-2 : Int32)) S.1 S.2.1 dX12_lumpOn_37 (by decide) ?_
      cases h
      exact mi_iretE S hr hlk rfl hP hD hS dX12_lumpOn_39
    · refine lv_iload_n S.1 S.2.1 dX12_lumpOn_19 rfl (lv_at hl 3 rfl) ?_
      refine lv_iconst (v := (1 : Int32)) S.1 S.2.1 dX12_lumpOn_20 (by decide) ?_
      refine lv_bipush (v := (6 : Int32)) S.1 S.2.1 dX12_lumpOn_21 (by decide) ?_
      obtain ⟨r3, hr3, h⟩ := mCall_use h
      refine mc_Pi (va_runS (As := [.int x3, .int (1 : Int32), .int (6 : Int32)]) (rest := []) S (c_X12_in l D cA x3 (1 : Int32) (6 : Int32) hr3) (va_cwS 3 S.2.2.2.2 gX12_lumpOn_X12_in rfl rfl rfl (by decide +kernel) ⟨Nat.le_of_ble_eq_true rfl, Nat.le_of_ble_eq_true rfl⟩) (pre_PS hK hP [] rfl) rfl rfl hl.1 rfl (lv_room (Nat.le_of_ble_eq_true rfl)) dX12_lumpOn_23 ⟨Nat.le_of_ble_eq_true rfl, Nat.le_of_ble_eq_true rfl⟩) ?_
      refine mi_if_eq (tgt := 37) S h dX12_lumpOn_26 (by decide) (fun h => ?_) (fun h => ?_)
      · refine lv_bipush (v := (-2 : Int32)) S.1 S.2.1 dX12_lumpOn_37 (by decide) ?_
        cases h
        exact mi_iretE S hr hlk rfl hP hD hS dX12_lumpOn_39
      · refine lv_iload_n S.1 S.2.1 dX12_lumpOn_29 rfl (lv_at hl 2 rfl) ?_
        refine lv_iload_n S.1 S.2.1 dX12_lumpOn_30 rfl (lv_at hl 3 rfl) ?_
        refine lv_iadd S.1 S.2.1 dX12_lumpOn_31 ?_
        refine lv_bipush (v := (12 : Int32)) S.1 S.2.1 dX12_lumpOn_32 (by decide) ?_
        refine mi_icmp_le (tgt := 40) S h dX12_lumpOn_34 (by decide) (fun h => ?_) (fun h => ?_)
        · refine lv_aload_n S.1 S.2.1 dX12_lumpOn_40 rfl (lv_at hl 0 rfl) ?_
          refine lv_bipush (v := (50 : Int32)) S.1 S.2.1 dX12_lumpOn_41 (by decide) ?_
          refine mi_iald S hK hP 0 rfl h dX12_lumpOn_43 (fun t4 h => ?_)
          refine lv_bipush (v := (8 : Int32)) S.1 S.2.1 dX12_lumpOn_44 (by decide) ?_
          refine mi_icmp_ne (tgt := 52) S h dX12_lumpOn_46 (by decide) (fun h => ?_) (fun h => ?_)
          · refine lv_bipush (v := (18 : Int32)) S.1 S.2.1 dX12_lumpOn_52 (by decide) ?_
            refine lv_iconst (v := (4 : Int32)) S.1 S.2.1 dX12_lumpOn_54 (by decide) ?_
            refine lv_aload_n S.1 S.2.1 dX12_lumpOn_55 rfl (lv_at hl 0 rfl) ?_
            refine lv_bipush (v := (50 : Int32)) S.1 S.2.1 dX12_lumpOn_56 (by decide) ?_
            refine mi_iald S hK hP 0 rfl h dX12_lumpOn_58 (fun t5 h => ?_)
            refine lv_imul S.1 S.2.1 dX12_lumpOn_59 ?_
            refine lv_iadd S.1 S.2.1 dX12_lumpOn_60 ?_
            refine mi_let h (fun t6 h => ?_)
            refine lv_istore (lv' := [(4, .int t6), (0, .ref a_p0), (1, .int x1), (2, .int x2), (3, .int x3)]) S.1 S.2.1 dX12_lumpOn_61 hl (by decide) rfl (fun ls hl => ?_)
            refine lv_aload_n S.1 S.2.1 dX12_lumpOn_63 rfl (lv_at hl 1 rfl) ?_
            refine lv_iload S.1 S.2.1 dX12_lumpOn_64 (lv_at hl 0 rfl) ?_
            refine lv_iload_n S.1 S.2.1 dX12_lumpOn_66 rfl (lv_at hl 2 rfl) ?_
            refine mi_iast S hK hP hD hS 0 rfl h dX12_lumpOn_67 (fun f7 H locs h hP hD hS => ?_)
            have hP : va_P D vwCl [(a_p0, .inl (cA 0, 126, .inl f7))] H := hP
            have hD : va_D A [(a_p0, .inl (cA 0, 126, .inl f7))] := hD
            refine lv_aload_n S.1 S.2.1 dX12_lumpOn_68 rfl (lv_at hl 1 rfl) ?_
            refine lv_iload S.1 S.2.1 dX12_lumpOn_69 (lv_at hl 0 rfl) ?_
            refine lv_iconst (v := (1 : Int32)) S.1 S.2.1 dX12_lumpOn_71 (by decide) ?_
            refine lv_iadd S.1 S.2.1 dX12_lumpOn_72 ?_
            refine lv_iload_n S.1 S.2.1 dX12_lumpOn_73 rfl (lv_at hl 3 rfl) ?_
            refine mi_iast S hK hP hD hS 0 rfl h dX12_lumpOn_74 (fun f8 H locs h hP hD hS => ?_)
            have hP : va_P D vwCl [(a_p0, .inl (cA 0, 126, .inl f8))] H := hP
            have hD : va_D A [(a_p0, .inl (cA 0, 126, .inl f8))] := hD
            refine lv_aload_n S.1 S.2.1 dX12_lumpOn_75 rfl (lv_at hl 1 rfl) ?_
            refine lv_iload S.1 S.2.1 dX12_lumpOn_76 (lv_at hl 0 rfl) ?_
            refine lv_iconst (v := (2 : Int32)) S.1 S.2.1 dX12_lumpOn_78 (by decide) ?_
            refine lv_iadd S.1 S.2.1 dX12_lumpOn_79 ?_
            refine lv_iload_n S.1 S.2.1 dX12_lumpOn_80 rfl (lv_at hl 4 rfl) ?_
            refine mi_iast S hK hP hD hS 0 rfl h dX12_lumpOn_81 (fun f9 H locs h hP hD hS => ?_)
            have hP : va_P D vwCl [(a_p0, .inl (cA 0, 126, .inl f9))] H := hP
            have hD : va_D A [(a_p0, .inl (cA 0, 126, .inl f9))] := hD
            refine lv_aload_n S.1 S.2.1 dX12_lumpOn_82 rfl (lv_at hl 1 rfl) ?_
            refine lv_iload S.1 S.2.1 dX12_lumpOn_83 (lv_at hl 0 rfl) ?_
            refine lv_iconst (v := (3 : Int32)) S.1 S.2.1 dX12_lumpOn_85 (by decide) ?_
            refine lv_iadd S.1 S.2.1 dX12_lumpOn_86 ?_
            refine lv_iconst (v := (0 : Int32)) S.1 S.2.1 dX12_lumpOn_87 (by decide) ?_
            refine mi_iast S hK hP hD hS 0 rfl h dX12_lumpOn_88 (fun f10 H locs h hP hD hS => ?_)
            have hP : va_P D vwCl [(a_p0, .inl (cA 0, 126, .inl f10))] H := hP
            have hD : va_D A [(a_p0, .inl (cA 0, 126, .inl f10))] := hD
            refine lv_aload_n S.1 S.2.1 dX12_lumpOn_89 rfl (lv_at hl 1 rfl) ?_
            refine lv_bipush (v := (53 : Int32)) S.1 S.2.1 dX12_lumpOn_90 (by decide) ?_
            refine lv_iconst (v := (0 : Int32)) S.1 S.2.1 dX12_lumpOn_92 (by decide) ?_
            refine mi_iast S hK hP hD hS 0 rfl h dX12_lumpOn_93 (fun f11 H locs h hP hD hS => ?_)
            have hP : va_P D vwCl [(a_p0, .inl (cA 0, 126, .inl f11))] H := hP
            have hD : va_D A [(a_p0, .inl (cA 0, 126, .inl f11))] := hD
            refine lv_aload_n S.1 S.2.1 dX12_lumpOn_94 rfl (lv_at hl 1 rfl) ?_
            refine lv_bipush (v := (50 : Int32)) S.1 S.2.1 dX12_lumpOn_95 (by decide) ?_
            refine lv_dup2_11 S.1 S.2.1 dX12_lumpOn_97 rfl rfl ?_
            refine mi_iald S hK hP 0 rfl h dX12_lumpOn_98 (fun t12 h => ?_)
            refine lv_iconst (v := (1 : Int32)) S.1 S.2.1 dX12_lumpOn_99 (by decide) ?_
            refine lv_iadd S.1 S.2.1 dX12_lumpOn_100 ?_
            refine mi_iast S hK hP hD hS 0 rfl h dX12_lumpOn_101 (fun f13 H locs h hP hD hS => ?_)
            have hP : va_P D vwCl [(a_p0, .inl (cA 0, 126, .inl f13))] H := hP
            have hD : va_D A [(a_p0, .inl (cA 0, 126, .inl f13))] := hD
            refine lv_aload_n S.1 S.2.1 dX12_lumpOn_102 rfl (lv_at hl 1 rfl) ?_
            refine lv_bipush (v := (50 : Int32)) S.1 S.2.1 dX12_lumpOn_103 (by decide) ?_
            refine mi_iald S hK hP 0 rfl h dX12_lumpOn_105 (fun t14 h => ?_)
            refine lv_iconst (v := (1 : Int32)) S.1 S.2.1 dX12_lumpOn_106 (by decide) ?_
            refine lv_isub S.1 S.2.1 dX12_lumpOn_107 ?_
            cases h
            exact mi_iretE S hr hlk rfl hP hD hS dX12_lumpOn_108
          · refine lv_bipush (v := (-4 : Int32)) S.1 S.2.1 dX12_lumpOn_49 (by decide) ?_
            cases h
            exact mi_iretE S hr hlk rfl hP hD hS dX12_lumpOn_51
        · refine lv_bipush (v := (-2 : Int32)) S.1 S.2.1 dX12_lumpOn_37 (by decide) ?_
          cases h
          exact mi_iretE S hr hlk rfl hP hD hS dX12_lumpOn_39
set_option maxHeartbeats 4000000 in
set_option maxRecDepth 100000 in
theorem c_X12_lumpOn (l : Launch) (D : va_G) (cA : Nat → ClassId) (a_p0 : Nat) (f_p0 : Nat → Int32) (x1 : Int32) (x2 : Int32) (x3 : Int32) {r : Int32 × (Nat → Int32)} (h : m_X12_lumpOn f_p0 x1 x2 x3 = some r) : MEi l yX12_lumpOn wsX12_lumpOn { frames := 1, cells := 0, slots := 0, locals := 22 } D cA [.ref a_p0, .int x1, .int x2, .int x3] [(a_p0, .inl (cA 0, 126, .inl f_p0))] [(a_p0, .inl (cA 0, 126, .inl r.2))] r.1 := by
  refine mE_of (cc := cX12_lumpOn) (maxL := 5) (ret := (some .int)) (Qc := fun A => va_Qi (fun (y : Int32) (_ : Unit) => y = r.1) (gPost D A [(a_p0, .inl (cA 0, 126, .inl r.2))]) A) (by decide) rfl (Nat.le_of_ble_eq_true rfl) ?_
  intro p e s m below meth c A S hr hlk hK hA hP hD hS ls hl
  exact w_X12_lumpOn_0 S hr hlk hK hA a_p0 f_p0 x1 x2 x3 h s.heap [] ls hP hD hS (lv_sub hl [0, 1, 2, 3] rfl)

-- X12_byteAt
theorem in_X12_byteAt_X12 : ∀ w ∈ u_ws RX12 TX12 25, w ∈ wsX12_byteAt := by decide +kernel
theorem lk_X12_byteAt_93 : Cond.fieldLink RX12 93 (TX12 5).1 (TX12 5).2.1 (TX12 5).2.2.1 ∈ wsX12_byteAt := by decide +kernel
theorem lk_X12_byteAt_23 : Cond.fieldLink RX12 23 (TX12 6).1 (TX12 6).2.1 (TX12 6).2.2.1 ∈ wsX12_byteAt := by decide +kernel
def m_X12_byteAt (v_this_byteMany : Int32) (f_text : Nat → Int32) (x1 : Int32) : Option (Int32) := if v_this_byteMany ≤ x1 then some (-1 : Int32) else mRd f_text 150 x1 (fun (t1 : Int32) => some t1)
def P_X12_byteAt_0 (p : Program) (l : Launch) (e : Env) (s : State) (m : MethodId) (args : Array Value) (below : List Frame) (meth : Method) (c : Code) (D : va_G) (cA : Nat → ClassId) (r : Int32) (a_this a_refusals a_now a_tried a_text a_numbers a_shown a_ways a_yet a_afternoons a_pieces a_sizes a_alike a_forth a_back a_isKept a_kept : Nat) (v_this_above : Int64) (v_this_below : Int64) (v_this_byteMany : Int32) (v_this_tokenAt : Int32) (v_this_tokenEnd : Int32) (v_this_token : Int32) (v_this_value : Int32) (v_this_word : Int32) (v_this_hash : Int64) (f_text : Nat → Int32) (x1 : Int32) : Prop := va_P D vwCl [(a_this, .inr (12, [.ref a_refusals, .long v_this_above, .long v_this_below, .ref a_now, .ref a_tried, .int v_this_byteMany, .ref a_text, .int v_this_tokenAt, .int v_this_tokenEnd, .int v_this_token, .int v_this_value, .int v_this_word, .ref a_numbers, .ref a_shown, .ref a_ways, .ref a_yet, .ref a_afternoons, .ref a_pieces, .ref a_sizes, .ref a_alike, .ref a_forth, .ref a_back, .ref a_isKept, .ref a_kept, .long v_this_hash])), (a_text, .inl (cA 0, 150, .inl f_text))] s.heap → ∀ ls : Array Slot, lv_has ls 2 [(0, .ref a_this), (1, .int x1)] → W p l e { frames := 0, cells := 0, slots := 0, locals := 0 } s m args below meth c s.heap [] 0 0 (MQ below (vp_Si (fun y => y = r)) args s 0 0 (fun _ => False)) (F0 m 0 ls [])
set_option maxHeartbeats 4000000 in
set_option maxRecDepth 100000 in
theorem w_X12_byteAt_0 {p : Program} {l : Launch} {e : Env} {s : State} {m : MethodId} {args : Array Value} {below : List Frame} {meth : Method} {c : Code} {D : va_G} {cA : Nat → ClassId} {r : Int32} (S : CallFix p m c cX12_byteAt 2 s args wsX12_byteAt RX12) (hr : meth.sig.returnType = some .int) (hlk : meth.locks = false) (hK : gK D cA s) (a_this a_refusals a_now a_tried a_text a_numbers a_shown a_ways a_yet a_afternoons a_pieces a_sizes a_alike a_forth a_back a_isKept a_kept : Nat) (v_this_above : Int64) (v_this_below : Int64) (v_this_byteMany : Int32) (v_this_tokenAt : Int32) (v_this_tokenEnd : Int32) (v_this_token : Int32) (v_this_value : Int32) (v_this_word : Int32) (v_this_hash : Int64) (f_text : Nat → Int32) (x1 : Int32) (h : m_X12_byteAt v_this_byteMany f_text x1 = some r) : P_X12_byteAt_0 p l e s m args below meth c D cA r a_this a_refusals a_now a_tried a_text a_numbers a_shown a_ways a_yet a_afternoons a_pieces a_sizes a_alike a_forth a_back a_isKept a_kept v_this_above v_this_below v_this_byteMany v_this_tokenAt v_this_tokenEnd v_this_token v_this_value v_this_word v_this_hash f_text x1 := by
  intro hP ls hl
  unfold m_X12_byteAt at h
  refine lv_iload_n S.1 S.2.1 dX12_byteAt_0 rfl (lv_at hl 1 rfl) ?_
  refine lv_aload_n S.1 S.2.1 dX12_byteAt_1 rfl (lv_at hl 0 rfl) ?_
  refine mi_get S hK hP in_X12_byteAt_X12 0 rfl rfl 5 (by decide) lk_X12_byteAt_93 rfl dX12_byteAt_2 ?_
  refine mi_icmp_ge (tgt := 17) S h dX12_byteAt_5 (by decide) (fun h => ?_) (fun h => ?_)
  · refine lv_iconst (v := (-1 : Int32)) S.1 S.2.1 dX12_byteAt_17 (by decide) ?_
    cases h
    exact mi_iretP S hr hlk rfl dX12_byteAt_18
  · refine lv_aload_n S.1 S.2.1 dX12_byteAt_8 rfl (lv_at hl 0 rfl) ?_
    refine mi_get S hK hP in_X12_byteAt_X12 0 rfl rfl 6 (by decide) lk_X12_byteAt_23 rfl dX12_byteAt_9 ?_
    refine lv_iload_n S.1 S.2.1 dX12_byteAt_12 rfl (lv_at hl 1 rfl) ?_
    refine mi_iald S hK hP 1 rfl h dX12_byteAt_13 (fun t1 h => ?_)
    refine lv_goto (tgt := 18) S.1 S.2.1 dX12_byteAt_14 (by decide) ?_
    cases h
    exact mi_iretP S hr hlk rfl dX12_byteAt_18
set_option maxHeartbeats 4000000 in
set_option maxRecDepth 100000 in
theorem c_X12_byteAt (l : Launch) (D : va_G) (cA : Nat → ClassId) (a_this a_refusals a_now a_tried a_text a_numbers a_shown a_ways a_yet a_afternoons a_pieces a_sizes a_alike a_forth a_back a_isKept a_kept : Nat) (v_this_above : Int64) (v_this_below : Int64) (v_this_byteMany : Int32) (v_this_tokenAt : Int32) (v_this_tokenEnd : Int32) (v_this_token : Int32) (v_this_value : Int32) (v_this_word : Int32) (v_this_hash : Int64) (f_text : Nat → Int32) (x1 : Int32) {r : Int32} (h : m_X12_byteAt v_this_byteMany f_text x1 = some r) : MPi l yX12_byteAt wsX12_byteAt { frames := 0, cells := 0, slots := 0, locals := 0 } D cA [.ref a_this, .int x1] [(a_this, .inr (12, [.ref a_refusals, .long v_this_above, .long v_this_below, .ref a_now, .ref a_tried, .int v_this_byteMany, .ref a_text, .int v_this_tokenAt, .int v_this_tokenEnd, .int v_this_token, .int v_this_value, .int v_this_word, .ref a_numbers, .ref a_shown, .ref a_ways, .ref a_yet, .ref a_afternoons, .ref a_pieces, .ref a_sizes, .ref a_alike, .ref a_forth, .ref a_back, .ref a_isKept, .ref a_kept, .long v_this_hash])), (a_text, .inl (cA 0, 150, .inl f_text))] r := by
  refine mP_of (cc := cX12_byteAt) (maxL := 2) (ret := (some .int)) (by decide) rfl (Nat.le_of_ble_eq_true rfl) ?_
  intro p e s m below meth c S hr hlk hK hP ls hl
  exact w_X12_byteAt_0 S hr hlk hK a_this a_refusals a_now a_tried a_text a_numbers a_shown a_ways a_yet a_afternoons a_pieces a_sizes a_alike a_forth a_back a_isKept a_kept v_this_above v_this_below v_this_byteMany v_this_tokenAt v_this_tokenEnd v_this_token v_this_value v_this_word v_this_hash f_text x1 h hP ls (lv_sub hl [0, 1] rfl)

-- X12_isWord
def m_X12_isWord_B85 (v_this_byteMany : Int32) (f_text : Nat → Int32) (x1 : Int32) (x7 : Int32) : Option (Int32) := if x7 < 0 then some (1 : Int32) else mCall (m_X12_byteAt v_this_byteMany f_text (x1 + (4 : Int32))) (fun (r1 : Int32) => if r1 = x7 then some (1 : Int32) else some (0 : Int32))
def m_X12_isWord_B61 (v_this_byteMany : Int32) (f_text : Nat → Int32) (x1 : Int32) (x6 : Int32) (x7 : Int32) (s0 : Int32) : Option (Int32) := if s0 = 0 then some (0 : Int32) else if x6 < 0 then m_X12_isWord_B85 v_this_byteMany f_text x1 x7 else mCall (m_X12_byteAt v_this_byteMany f_text (x1 + (3 : Int32))) (fun (r1 : Int32) => if r1 = x6 then m_X12_isWord_B85 v_this_byteMany f_text x1 x7 else some (0 : Int32))
def m_X12_isWord_B60 (v_this_byteMany : Int32) (f_text : Nat → Int32) (x1 : Int32) (x6 : Int32) (x7 : Int32) : Option (Int32) := m_X12_isWord_B61 v_this_byteMany f_text x1 x6 x7 (0 : Int32)
def m_X12_isWord_B20 (v_this_byteMany : Int32) (f_text : Nat → Int32) (x1 : Int32) (x3 : Int32) (x4 : Int32) (x5 : Int32) (x6 : Int32) (x7 : Int32) (s0 : Int32) (s1 : Int32) : Option (Int32) := if s1 = s0 then mCall (m_X12_byteAt v_this_byteMany f_text x1) (fun (r1 : Int32) => if r1 = x3 then mCall (m_X12_byteAt v_this_byteMany f_text (x1 + (1 : Int32))) (fun (r2 : Int32) => if r2 = x4 then mCall (m_X12_byteAt v_this_byteMany f_text (x1 + (2 : Int32))) (fun (r3 : Int32) => if r3 = x5 then m_X12_isWord_B61 v_this_byteMany f_text x1 x6 x7 (1 : Int32) else m_X12_isWord_B60 v_this_byteMany f_text x1 x6 x7) else m_X12_isWord_B60 v_this_byteMany f_text x1 x6 x7) else m_X12_isWord_B60 v_this_byteMany f_text x1 x6 x7) else m_X12_isWord_B60 v_this_byteMany f_text x1 x6 x7
def m_X12_isWord (v_this_byteMany : Int32) (f_text : Nat → Int32) (x1 : Int32) (x2 : Int32) (x3 : Int32) (x4 : Int32) (x5 : Int32) (x6 : Int32) (x7 : Int32) : Option (Int32) := if 0 ≤ x6 then if 0 ≤ x7 then m_X12_isWord_B20 v_this_byteMany f_text x1 x3 x4 x5 x6 x7 (5 : Int32) x2 else m_X12_isWord_B20 v_this_byteMany f_text x1 x3 x4 x5 x6 x7 (4 : Int32) x2 else m_X12_isWord_B20 v_this_byteMany f_text x1 x3 x4 x5 x6 x7 (3 : Int32) x2
def P_X12_isWord_85 (p : Program) (l : Launch) (e : Env) (s : State) (m : MethodId) (args : Array Value) (below : List Frame) (meth : Method) (c : Code) (D : va_G) (cA : Nat → ClassId) (r : Int32) (a_this a_refusals a_now a_tried a_text a_numbers a_shown a_ways a_yet a_afternoons a_pieces a_sizes a_alike a_forth a_back a_isKept a_kept : Nat) (v_this_above : Int64) (v_this_below : Int64) (v_this_byteMany : Int32) (v_this_tokenAt : Int32) (v_this_tokenEnd : Int32) (v_this_token : Int32) (v_this_value : Int32) (v_this_word : Int32) (v_this_hash : Int64) (f_text : Nat → Int32) (x1 : Int32) (x7 : Int32) : Prop := va_P D vwCl [(a_this, .inr (12, [.ref a_refusals, .long v_this_above, .long v_this_below, .ref a_now, .ref a_tried, .int v_this_byteMany, .ref a_text, .int v_this_tokenAt, .int v_this_tokenEnd, .int v_this_token, .int v_this_value, .int v_this_word, .ref a_numbers, .ref a_shown, .ref a_ways, .ref a_yet, .ref a_afternoons, .ref a_pieces, .ref a_sizes, .ref a_alike, .ref a_forth, .ref a_back, .ref a_isKept, .ref a_kept, .long v_this_hash])), (a_text, .inl (cA 0, 150, .inl f_text))] s.heap → ∀ ls : Array Slot, lv_has ls 9 [(0, .ref a_this), (1, .int x1), (7, .int x7)] → W p l e { frames := 1, cells := 0, slots := 0, locals := 21 } s m args below meth c s.heap [] 0 0 (MQ below (vp_Si (fun y => y = r)) args s 0 0 (fun _ => False)) (F0 m 85 ls [])
def P_X12_isWord_61 (p : Program) (l : Launch) (e : Env) (s : State) (m : MethodId) (args : Array Value) (below : List Frame) (meth : Method) (c : Code) (D : va_G) (cA : Nat → ClassId) (r : Int32) (a_this a_refusals a_now a_tried a_text a_numbers a_shown a_ways a_yet a_afternoons a_pieces a_sizes a_alike a_forth a_back a_isKept a_kept : Nat) (v_this_above : Int64) (v_this_below : Int64) (v_this_byteMany : Int32) (v_this_tokenAt : Int32) (v_this_tokenEnd : Int32) (v_this_token : Int32) (v_this_value : Int32) (v_this_word : Int32) (v_this_hash : Int64) (f_text : Nat → Int32) (x1 : Int32) (x6 : Int32) (x7 : Int32) (s0 : Int32) : Prop := va_P D vwCl [(a_this, .inr (12, [.ref a_refusals, .long v_this_above, .long v_this_below, .ref a_now, .ref a_tried, .int v_this_byteMany, .ref a_text, .int v_this_tokenAt, .int v_this_tokenEnd, .int v_this_token, .int v_this_value, .int v_this_word, .ref a_numbers, .ref a_shown, .ref a_ways, .ref a_yet, .ref a_afternoons, .ref a_pieces, .ref a_sizes, .ref a_alike, .ref a_forth, .ref a_back, .ref a_isKept, .ref a_kept, .long v_this_hash])), (a_text, .inl (cA 0, 150, .inl f_text))] s.heap → ∀ ls : Array Slot, lv_has ls 9 [(0, .ref a_this), (1, .int x1), (6, .int x6), (7, .int x7)] → W p l e { frames := 1, cells := 0, slots := 0, locals := 21 } s m args below meth c s.heap [] 0 0 (MQ below (vp_Si (fun y => y = r)) args s 0 0 (fun _ => False)) (F0 m 61 ls [.int s0])
def P_X12_isWord_60 (p : Program) (l : Launch) (e : Env) (s : State) (m : MethodId) (args : Array Value) (below : List Frame) (meth : Method) (c : Code) (D : va_G) (cA : Nat → ClassId) (r : Int32) (a_this a_refusals a_now a_tried a_text a_numbers a_shown a_ways a_yet a_afternoons a_pieces a_sizes a_alike a_forth a_back a_isKept a_kept : Nat) (v_this_above : Int64) (v_this_below : Int64) (v_this_byteMany : Int32) (v_this_tokenAt : Int32) (v_this_tokenEnd : Int32) (v_this_token : Int32) (v_this_value : Int32) (v_this_word : Int32) (v_this_hash : Int64) (f_text : Nat → Int32) (x1 : Int32) (x6 : Int32) (x7 : Int32) : Prop := va_P D vwCl [(a_this, .inr (12, [.ref a_refusals, .long v_this_above, .long v_this_below, .ref a_now, .ref a_tried, .int v_this_byteMany, .ref a_text, .int v_this_tokenAt, .int v_this_tokenEnd, .int v_this_token, .int v_this_value, .int v_this_word, .ref a_numbers, .ref a_shown, .ref a_ways, .ref a_yet, .ref a_afternoons, .ref a_pieces, .ref a_sizes, .ref a_alike, .ref a_forth, .ref a_back, .ref a_isKept, .ref a_kept, .long v_this_hash])), (a_text, .inl (cA 0, 150, .inl f_text))] s.heap → ∀ ls : Array Slot, lv_has ls 9 [(0, .ref a_this), (1, .int x1), (6, .int x6), (7, .int x7)] → W p l e { frames := 1, cells := 0, slots := 0, locals := 21 } s m args below meth c s.heap [] 0 0 (MQ below (vp_Si (fun y => y = r)) args s 0 0 (fun _ => False)) (F0 m 60 ls [])
def P_X12_isWord_20 (p : Program) (l : Launch) (e : Env) (s : State) (m : MethodId) (args : Array Value) (below : List Frame) (meth : Method) (c : Code) (D : va_G) (cA : Nat → ClassId) (r : Int32) (a_this a_refusals a_now a_tried a_text a_numbers a_shown a_ways a_yet a_afternoons a_pieces a_sizes a_alike a_forth a_back a_isKept a_kept : Nat) (v_this_above : Int64) (v_this_below : Int64) (v_this_byteMany : Int32) (v_this_tokenAt : Int32) (v_this_tokenEnd : Int32) (v_this_token : Int32) (v_this_value : Int32) (v_this_word : Int32) (v_this_hash : Int64) (f_text : Nat → Int32) (x1 : Int32) (x3 : Int32) (x4 : Int32) (x5 : Int32) (x6 : Int32) (x7 : Int32) (s0 : Int32) (s1 : Int32) : Prop := va_P D vwCl [(a_this, .inr (12, [.ref a_refusals, .long v_this_above, .long v_this_below, .ref a_now, .ref a_tried, .int v_this_byteMany, .ref a_text, .int v_this_tokenAt, .int v_this_tokenEnd, .int v_this_token, .int v_this_value, .int v_this_word, .ref a_numbers, .ref a_shown, .ref a_ways, .ref a_yet, .ref a_afternoons, .ref a_pieces, .ref a_sizes, .ref a_alike, .ref a_forth, .ref a_back, .ref a_isKept, .ref a_kept, .long v_this_hash])), (a_text, .inl (cA 0, 150, .inl f_text))] s.heap → ∀ ls : Array Slot, lv_has ls 9 [(0, .ref a_this), (1, .int x1), (3, .int x3), (4, .int x4), (5, .int x5), (6, .int x6), (7, .int x7)] → W p l e { frames := 1, cells := 0, slots := 0, locals := 21 } s m args below meth c s.heap [] 0 0 (MQ below (vp_Si (fun y => y = r)) args s 0 0 (fun _ => False)) (F0 m 20 ls [.int s0, .int s1])
def P_X12_isWord_0 (p : Program) (l : Launch) (e : Env) (s : State) (m : MethodId) (args : Array Value) (below : List Frame) (meth : Method) (c : Code) (D : va_G) (cA : Nat → ClassId) (r : Int32) (a_this a_refusals a_now a_tried a_text a_numbers a_shown a_ways a_yet a_afternoons a_pieces a_sizes a_alike a_forth a_back a_isKept a_kept : Nat) (v_this_above : Int64) (v_this_below : Int64) (v_this_byteMany : Int32) (v_this_tokenAt : Int32) (v_this_tokenEnd : Int32) (v_this_token : Int32) (v_this_value : Int32) (v_this_word : Int32) (v_this_hash : Int64) (f_text : Nat → Int32) (x1 : Int32) (x2 : Int32) (x3 : Int32) (x4 : Int32) (x5 : Int32) (x6 : Int32) (x7 : Int32) : Prop := va_P D vwCl [(a_this, .inr (12, [.ref a_refusals, .long v_this_above, .long v_this_below, .ref a_now, .ref a_tried, .int v_this_byteMany, .ref a_text, .int v_this_tokenAt, .int v_this_tokenEnd, .int v_this_token, .int v_this_value, .int v_this_word, .ref a_numbers, .ref a_shown, .ref a_ways, .ref a_yet, .ref a_afternoons, .ref a_pieces, .ref a_sizes, .ref a_alike, .ref a_forth, .ref a_back, .ref a_isKept, .ref a_kept, .long v_this_hash])), (a_text, .inl (cA 0, 150, .inl f_text))] s.heap → ∀ ls : Array Slot, lv_has ls 9 [(0, .ref a_this), (1, .int x1), (2, .int x2), (3, .int x3), (4, .int x4), (5, .int x5), (6, .int x6), (7, .int x7)] → W p l e { frames := 1, cells := 0, slots := 0, locals := 21 } s m args below meth c s.heap [] 0 0 (MQ below (vp_Si (fun y => y = r)) args s 0 0 (fun _ => False)) (F0 m 0 ls [])
set_option maxHeartbeats 4000000 in
set_option maxRecDepth 100000 in
theorem w_X12_isWord_85 {p : Program} {l : Launch} {e : Env} {s : State} {m : MethodId} {args : Array Value} {below : List Frame} {meth : Method} {c : Code} {D : va_G} {cA : Nat → ClassId} {r : Int32} (S : CallFix p m c cX12_isWord 9 s args wsX12_isWord RX12) (hr : meth.sig.returnType = some .boolean) (hlk : meth.locks = false) (hK : gK D cA s) (a_this a_refusals a_now a_tried a_text a_numbers a_shown a_ways a_yet a_afternoons a_pieces a_sizes a_alike a_forth a_back a_isKept a_kept : Nat) (v_this_above : Int64) (v_this_below : Int64) (v_this_byteMany : Int32) (v_this_tokenAt : Int32) (v_this_tokenEnd : Int32) (v_this_token : Int32) (v_this_value : Int32) (v_this_word : Int32) (v_this_hash : Int64) (f_text : Nat → Int32) (x1 : Int32) (x7 : Int32) (h : m_X12_isWord_B85 v_this_byteMany f_text x1 x7 = some r) : P_X12_isWord_85 p l e s m args below meth c D cA r a_this a_refusals a_now a_tried a_text a_numbers a_shown a_ways a_yet a_afternoons a_pieces a_sizes a_alike a_forth a_back a_isKept a_kept v_this_above v_this_below v_this_byteMany v_this_tokenAt v_this_tokenEnd v_this_token v_this_value v_this_word v_this_hash f_text x1 x7 := by
  intro hP ls hl
  unfold m_X12_isWord_B85 at h
  refine lv_iload S.1 S.2.1 dX12_isWord_85 (lv_at hl 2 rfl) ?_
  refine mi_if_lt (tgt := 102) S h dX12_isWord_87 (by decide) (fun h => ?_) (fun h => ?_)
  · refine lv_iconst (v := (1 : Int32)) S.1 S.2.1 dX12_isWord_102 (by decide) ?_
    refine lv_goto (tgt := 107) S.1 S.2.1 dX12_isWord_103 (by decide) ?_
    cases h
    exact mi_zretP S hr hlk rfl (by decide) dX12_isWord_107
  · refine lv_aload_n S.1 S.2.1 dX12_isWord_90 rfl (lv_at hl 0 rfl) ?_
    refine lv_iload_n S.1 S.2.1 dX12_isWord_91 rfl (lv_at hl 1 rfl) ?_
    refine lv_iconst (v := (4 : Int32)) S.1 S.2.1 dX12_isWord_92 (by decide) ?_
    refine lv_iadd S.1 S.2.1 dX12_isWord_93 ?_
    obtain ⟨r1, hr1, h⟩ := mCall_use h
    refine mc_Pi (va_runV (As := [.int (x1 + (4 : Int32))]) (rest := []) S (c_X12_byteAt l D cA a_this a_refusals a_now a_tried a_text a_numbers a_shown a_ways a_yet a_afternoons a_pieces a_sizes a_alike a_forth a_back a_isKept a_kept v_this_above v_this_below v_this_byteMany v_this_tokenAt v_this_tokenEnd v_this_token v_this_value v_this_word v_this_hash f_text (x1 + (4 : Int32)) hr1) (cwV 1 S.2.2.2.2 gX12_isWord_X12_byteAt rfl rfl rfl (by decide +kernel) ⟨Nat.le_of_ble_eq_true rfl, Nat.le_of_ble_eq_true rfl⟩) (pre_PV hK hP [0, 1] rfl (ci := 12) (q0 := 0) rfl rfl) rfl rfl hl.1 rfl (lv_room (Nat.le_of_ble_eq_true rfl)) dX12_isWord_94 ⟨Nat.le_of_ble_eq_true rfl, Nat.le_of_ble_eq_true rfl⟩) ?_
    refine lv_iload S.1 S.2.1 dX12_isWord_97 (lv_at hl 2 rfl) ?_
    refine mi_icmp_ne (tgt := 106) S h dX12_isWord_99 (by decide) (fun h => ?_) (fun h => ?_)
    · refine lv_iconst (v := (0 : Int32)) S.1 S.2.1 dX12_isWord_106 (by decide) ?_
      cases h
      exact mi_zretP S hr hlk rfl (by decide) dX12_isWord_107
    · refine lv_iconst (v := (1 : Int32)) S.1 S.2.1 dX12_isWord_102 (by decide) ?_
      refine lv_goto (tgt := 107) S.1 S.2.1 dX12_isWord_103 (by decide) ?_
      cases h
      exact mi_zretP S hr hlk rfl (by decide) dX12_isWord_107
set_option maxHeartbeats 4000000 in
set_option maxRecDepth 100000 in
theorem w_X12_isWord_61 {p : Program} {l : Launch} {e : Env} {s : State} {m : MethodId} {args : Array Value} {below : List Frame} {meth : Method} {c : Code} {D : va_G} {cA : Nat → ClassId} {r : Int32} (S : CallFix p m c cX12_isWord 9 s args wsX12_isWord RX12) (hr : meth.sig.returnType = some .boolean) (hlk : meth.locks = false) (hK : gK D cA s) (a_this a_refusals a_now a_tried a_text a_numbers a_shown a_ways a_yet a_afternoons a_pieces a_sizes a_alike a_forth a_back a_isKept a_kept : Nat) (v_this_above : Int64) (v_this_below : Int64) (v_this_byteMany : Int32) (v_this_tokenAt : Int32) (v_this_tokenEnd : Int32) (v_this_token : Int32) (v_this_value : Int32) (v_this_word : Int32) (v_this_hash : Int64) (f_text : Nat → Int32) (x1 : Int32) (x6 : Int32) (x7 : Int32) (s0 : Int32) (h : m_X12_isWord_B61 v_this_byteMany f_text x1 x6 x7 s0 = some r) : P_X12_isWord_61 p l e s m args below meth c D cA r a_this a_refusals a_now a_tried a_text a_numbers a_shown a_ways a_yet a_afternoons a_pieces a_sizes a_alike a_forth a_back a_isKept a_kept v_this_above v_this_below v_this_byteMany v_this_tokenAt v_this_tokenEnd v_this_token v_this_value v_this_word v_this_hash f_text x1 x6 x7 s0 := by
  intro hP ls hl
  unfold m_X12_isWord_B61 at h
  refine lv_istore (lv' := [(8, .int s0), (0, .ref a_this), (1, .int x1), (6, .int x6), (7, .int x7)]) S.1 S.2.1 dX12_isWord_61 hl (by decide) rfl (fun ls hl => ?_)
  refine lv_iload S.1 S.2.1 dX12_isWord_63 (lv_at hl 0 rfl) ?_
  refine mi_if_eq (tgt := 106) S h dX12_isWord_65 (by decide) (fun h => ?_) (fun h => ?_)
  · refine lv_iconst (v := (0 : Int32)) S.1 S.2.1 dX12_isWord_106 (by decide) ?_
    cases h
    exact mi_zretP S hr hlk rfl (by decide) dX12_isWord_107
  · refine lv_iload S.1 S.2.1 dX12_isWord_68 (lv_at hl 3 rfl) ?_
    refine mi_if_lt (tgt := 85) S h dX12_isWord_70 (by decide) (fun h => ?_) (fun h => ?_)
    · exact w_X12_isWord_85 S hr hlk hK a_this a_refusals a_now a_tried a_text a_numbers a_shown a_ways a_yet a_afternoons a_pieces a_sizes a_alike a_forth a_back a_isKept a_kept v_this_above v_this_below v_this_byteMany v_this_tokenAt v_this_tokenEnd v_this_token v_this_value v_this_word v_this_hash f_text x1 x7 h hP ls (lv_sub hl [1, 2, 4] rfl)
    · refine lv_aload_n S.1 S.2.1 dX12_isWord_73 rfl (lv_at hl 1 rfl) ?_
      refine lv_iload_n S.1 S.2.1 dX12_isWord_74 rfl (lv_at hl 2 rfl) ?_
      refine lv_iconst (v := (3 : Int32)) S.1 S.2.1 dX12_isWord_75 (by decide) ?_
      refine lv_iadd S.1 S.2.1 dX12_isWord_76 ?_
      obtain ⟨r1, hr1, h⟩ := mCall_use h
      refine mc_Pi (va_runV (As := [.int (x1 + (3 : Int32))]) (rest := []) S (c_X12_byteAt l D cA a_this a_refusals a_now a_tried a_text a_numbers a_shown a_ways a_yet a_afternoons a_pieces a_sizes a_alike a_forth a_back a_isKept a_kept v_this_above v_this_below v_this_byteMany v_this_tokenAt v_this_tokenEnd v_this_token v_this_value v_this_word v_this_hash f_text (x1 + (3 : Int32)) hr1) (cwV 1 S.2.2.2.2 gX12_isWord_X12_byteAt rfl rfl rfl (by decide +kernel) ⟨Nat.le_of_ble_eq_true rfl, Nat.le_of_ble_eq_true rfl⟩) (pre_PV hK hP [0, 1] rfl (ci := 12) (q0 := 0) rfl rfl) rfl rfl hl.1 rfl (lv_room (Nat.le_of_ble_eq_true rfl)) dX12_isWord_77 ⟨Nat.le_of_ble_eq_true rfl, Nat.le_of_ble_eq_true rfl⟩) ?_
      refine lv_iload S.1 S.2.1 dX12_isWord_80 (lv_at hl 3 rfl) ?_
      refine mi_icmp_ne (tgt := 106) S h dX12_isWord_82 (by decide) (fun h => ?_) (fun h => ?_)
      · refine lv_iconst (v := (0 : Int32)) S.1 S.2.1 dX12_isWord_106 (by decide) ?_
        cases h
        exact mi_zretP S hr hlk rfl (by decide) dX12_isWord_107
      · exact w_X12_isWord_85 S hr hlk hK a_this a_refusals a_now a_tried a_text a_numbers a_shown a_ways a_yet a_afternoons a_pieces a_sizes a_alike a_forth a_back a_isKept a_kept v_this_above v_this_below v_this_byteMany v_this_tokenAt v_this_tokenEnd v_this_token v_this_value v_this_word v_this_hash f_text x1 x7 h hP ls (lv_sub hl [1, 2, 4] rfl)
set_option maxHeartbeats 4000000 in
set_option maxRecDepth 100000 in
theorem w_X12_isWord_60 {p : Program} {l : Launch} {e : Env} {s : State} {m : MethodId} {args : Array Value} {below : List Frame} {meth : Method} {c : Code} {D : va_G} {cA : Nat → ClassId} {r : Int32} (S : CallFix p m c cX12_isWord 9 s args wsX12_isWord RX12) (hr : meth.sig.returnType = some .boolean) (hlk : meth.locks = false) (hK : gK D cA s) (a_this a_refusals a_now a_tried a_text a_numbers a_shown a_ways a_yet a_afternoons a_pieces a_sizes a_alike a_forth a_back a_isKept a_kept : Nat) (v_this_above : Int64) (v_this_below : Int64) (v_this_byteMany : Int32) (v_this_tokenAt : Int32) (v_this_tokenEnd : Int32) (v_this_token : Int32) (v_this_value : Int32) (v_this_word : Int32) (v_this_hash : Int64) (f_text : Nat → Int32) (x1 : Int32) (x6 : Int32) (x7 : Int32) (h : m_X12_isWord_B60 v_this_byteMany f_text x1 x6 x7 = some r) : P_X12_isWord_60 p l e s m args below meth c D cA r a_this a_refusals a_now a_tried a_text a_numbers a_shown a_ways a_yet a_afternoons a_pieces a_sizes a_alike a_forth a_back a_isKept a_kept v_this_above v_this_below v_this_byteMany v_this_tokenAt v_this_tokenEnd v_this_token v_this_value v_this_word v_this_hash f_text x1 x6 x7 := by
  intro hP ls hl
  unfold m_X12_isWord_B60 at h
  refine lv_iconst (v := (0 : Int32)) S.1 S.2.1 dX12_isWord_60 (by decide) ?_
  exact w_X12_isWord_61 S hr hlk hK a_this a_refusals a_now a_tried a_text a_numbers a_shown a_ways a_yet a_afternoons a_pieces a_sizes a_alike a_forth a_back a_isKept a_kept v_this_above v_this_below v_this_byteMany v_this_tokenAt v_this_tokenEnd v_this_token v_this_value v_this_word v_this_hash f_text x1 x6 x7 (0 : Int32) h hP ls (lv_sub hl [0, 1, 2, 3] rfl)
set_option maxHeartbeats 4000000 in
set_option maxRecDepth 100000 in
theorem w_X12_isWord_20 {p : Program} {l : Launch} {e : Env} {s : State} {m : MethodId} {args : Array Value} {below : List Frame} {meth : Method} {c : Code} {D : va_G} {cA : Nat → ClassId} {r : Int32} (S : CallFix p m c cX12_isWord 9 s args wsX12_isWord RX12) (hr : meth.sig.returnType = some .boolean) (hlk : meth.locks = false) (hK : gK D cA s) (a_this a_refusals a_now a_tried a_text a_numbers a_shown a_ways a_yet a_afternoons a_pieces a_sizes a_alike a_forth a_back a_isKept a_kept : Nat) (v_this_above : Int64) (v_this_below : Int64) (v_this_byteMany : Int32) (v_this_tokenAt : Int32) (v_this_tokenEnd : Int32) (v_this_token : Int32) (v_this_value : Int32) (v_this_word : Int32) (v_this_hash : Int64) (f_text : Nat → Int32) (x1 : Int32) (x3 : Int32) (x4 : Int32) (x5 : Int32) (x6 : Int32) (x7 : Int32) (s0 : Int32) (s1 : Int32) (h : m_X12_isWord_B20 v_this_byteMany f_text x1 x3 x4 x5 x6 x7 s0 s1 = some r) : P_X12_isWord_20 p l e s m args below meth c D cA r a_this a_refusals a_now a_tried a_text a_numbers a_shown a_ways a_yet a_afternoons a_pieces a_sizes a_alike a_forth a_back a_isKept a_kept v_this_above v_this_below v_this_byteMany v_this_tokenAt v_this_tokenEnd v_this_token v_this_value v_this_word v_this_hash f_text x1 x3 x4 x5 x6 x7 s0 s1 := by
  intro hP ls hl
  unfold m_X12_isWord_B20 at h
  refine mi_icmp_ne (tgt := 60) S h dX12_isWord_20 (by decide) (fun h => ?_) (fun h => ?_)
  · exact w_X12_isWord_60 S hr hlk hK a_this a_refusals a_now a_tried a_text a_numbers a_shown a_ways a_yet a_afternoons a_pieces a_sizes a_alike a_forth a_back a_isKept a_kept v_this_above v_this_below v_this_byteMany v_this_tokenAt v_this_tokenEnd v_this_token v_this_value v_this_word v_this_hash f_text x1 x6 x7 h hP ls (lv_sub hl [0, 1, 5, 6] rfl)
  · refine lv_aload_n S.1 S.2.1 dX12_isWord_23 rfl (lv_at hl 0 rfl) ?_
    refine lv_iload_n S.1 S.2.1 dX12_isWord_24 rfl (lv_at hl 1 rfl) ?_
    obtain ⟨r1, hr1, h⟩ := mCall_use h
    refine mc_Pi (va_runV (As := [.int x1]) (rest := []) S (c_X12_byteAt l D cA a_this a_refusals a_now a_tried a_text a_numbers a_shown a_ways a_yet a_afternoons a_pieces a_sizes a_alike a_forth a_back a_isKept a_kept v_this_above v_this_below v_this_byteMany v_this_tokenAt v_this_tokenEnd v_this_token v_this_value v_this_word v_this_hash f_text x1 hr1) (cwV 1 S.2.2.2.2 gX12_isWord_X12_byteAt rfl rfl rfl (by decide +kernel) ⟨Nat.le_of_ble_eq_true rfl, Nat.le_of_ble_eq_true rfl⟩) (pre_PV hK hP [0, 1] rfl (ci := 12) (q0 := 0) rfl rfl) rfl rfl hl.1 rfl (lv_room (Nat.le_of_ble_eq_true rfl)) dX12_isWord_25 ⟨Nat.le_of_ble_eq_true rfl, Nat.le_of_ble_eq_true rfl⟩) ?_
    refine lv_iload_n S.1 S.2.1 dX12_isWord_28 rfl (lv_at hl 2 rfl) ?_
    refine mi_icmp_ne (tgt := 60) S h dX12_isWord_29 (by decide) (fun h => ?_) (fun h => ?_)
    · exact w_X12_isWord_60 S hr hlk hK a_this a_refusals a_now a_tried a_text a_numbers a_shown a_ways a_yet a_afternoons a_pieces a_sizes a_alike a_forth a_back a_isKept a_kept v_this_above v_this_below v_this_byteMany v_this_tokenAt v_this_tokenEnd v_this_token v_this_value v_this_word v_this_hash f_text x1 x6 x7 h hP ls (lv_sub hl [0, 1, 5, 6] rfl)
    · refine lv_aload_n S.1 S.2.1 dX12_isWord_32 rfl (lv_at hl 0 rfl) ?_
      refine lv_iload_n S.1 S.2.1 dX12_isWord_33 rfl (lv_at hl 1 rfl) ?_
      refine lv_iconst (v := (1 : Int32)) S.1 S.2.1 dX12_isWord_34 (by decide) ?_
      refine lv_iadd S.1 S.2.1 dX12_isWord_35 ?_
      obtain ⟨r2, hr2, h⟩ := mCall_use h
      refine mc_Pi (va_runV (As := [.int (x1 + (1 : Int32))]) (rest := []) S (c_X12_byteAt l D cA a_this a_refusals a_now a_tried a_text a_numbers a_shown a_ways a_yet a_afternoons a_pieces a_sizes a_alike a_forth a_back a_isKept a_kept v_this_above v_this_below v_this_byteMany v_this_tokenAt v_this_tokenEnd v_this_token v_this_value v_this_word v_this_hash f_text (x1 + (1 : Int32)) hr2) (cwV 1 S.2.2.2.2 gX12_isWord_X12_byteAt rfl rfl rfl (by decide +kernel) ⟨Nat.le_of_ble_eq_true rfl, Nat.le_of_ble_eq_true rfl⟩) (pre_PV hK hP [0, 1] rfl (ci := 12) (q0 := 0) rfl rfl) rfl rfl hl.1 rfl (lv_room (Nat.le_of_ble_eq_true rfl)) dX12_isWord_36 ⟨Nat.le_of_ble_eq_true rfl, Nat.le_of_ble_eq_true rfl⟩) ?_
      refine lv_iload S.1 S.2.1 dX12_isWord_39 (lv_at hl 3 rfl) ?_
      refine mi_icmp_ne (tgt := 60) S h dX12_isWord_41 (by decide) (fun h => ?_) (fun h => ?_)
      · exact w_X12_isWord_60 S hr hlk hK a_this a_refusals a_now a_tried a_text a_numbers a_shown a_ways a_yet a_afternoons a_pieces a_sizes a_alike a_forth a_back a_isKept a_kept v_this_above v_this_below v_this_byteMany v_this_tokenAt v_this_tokenEnd v_this_token v_this_value v_this_word v_this_hash f_text x1 x6 x7 h hP ls (lv_sub hl [0, 1, 5, 6] rfl)
      · refine lv_aload_n S.1 S.2.1 dX12_isWord_44 rfl (lv_at hl 0 rfl) ?_
        refine lv_iload_n S.1 S.2.1 dX12_isWord_45 rfl (lv_at hl 1 rfl) ?_
        refine lv_iconst (v := (2 : Int32)) S.1 S.2.1 dX12_isWord_46 (by decide) ?_
        refine lv_iadd S.1 S.2.1 dX12_isWord_47 ?_
        obtain ⟨r3, hr3, h⟩ := mCall_use h
        refine mc_Pi (va_runV (As := [.int (x1 + (2 : Int32))]) (rest := []) S (c_X12_byteAt l D cA a_this a_refusals a_now a_tried a_text a_numbers a_shown a_ways a_yet a_afternoons a_pieces a_sizes a_alike a_forth a_back a_isKept a_kept v_this_above v_this_below v_this_byteMany v_this_tokenAt v_this_tokenEnd v_this_token v_this_value v_this_word v_this_hash f_text (x1 + (2 : Int32)) hr3) (cwV 1 S.2.2.2.2 gX12_isWord_X12_byteAt rfl rfl rfl (by decide +kernel) ⟨Nat.le_of_ble_eq_true rfl, Nat.le_of_ble_eq_true rfl⟩) (pre_PV hK hP [0, 1] rfl (ci := 12) (q0 := 0) rfl rfl) rfl rfl hl.1 rfl (lv_room (Nat.le_of_ble_eq_true rfl)) dX12_isWord_48 ⟨Nat.le_of_ble_eq_true rfl, Nat.le_of_ble_eq_true rfl⟩) ?_
        refine lv_iload S.1 S.2.1 dX12_isWord_51 (lv_at hl 4 rfl) ?_
        refine mi_icmp_ne (tgt := 60) S h dX12_isWord_53 (by decide) (fun h => ?_) (fun h => ?_)
        · exact w_X12_isWord_60 S hr hlk hK a_this a_refusals a_now a_tried a_text a_numbers a_shown a_ways a_yet a_afternoons a_pieces a_sizes a_alike a_forth a_back a_isKept a_kept v_this_above v_this_below v_this_byteMany v_this_tokenAt v_this_tokenEnd v_this_token v_this_value v_this_word v_this_hash f_text x1 x6 x7 h hP ls (lv_sub hl [0, 1, 5, 6] rfl)
        · refine lv_iconst (v := (1 : Int32)) S.1 S.2.1 dX12_isWord_56 (by decide) ?_
          refine lv_goto (tgt := 61) S.1 S.2.1 dX12_isWord_57 (by decide) ?_
          exact w_X12_isWord_61 S hr hlk hK a_this a_refusals a_now a_tried a_text a_numbers a_shown a_ways a_yet a_afternoons a_pieces a_sizes a_alike a_forth a_back a_isKept a_kept v_this_above v_this_below v_this_byteMany v_this_tokenAt v_this_tokenEnd v_this_token v_this_value v_this_word v_this_hash f_text x1 x6 x7 (1 : Int32) h hP ls (lv_sub hl [0, 1, 5, 6] rfl)
set_option maxHeartbeats 4000000 in
set_option maxRecDepth 100000 in
theorem w_X12_isWord_0 {p : Program} {l : Launch} {e : Env} {s : State} {m : MethodId} {args : Array Value} {below : List Frame} {meth : Method} {c : Code} {D : va_G} {cA : Nat → ClassId} {r : Int32} (S : CallFix p m c cX12_isWord 9 s args wsX12_isWord RX12) (hr : meth.sig.returnType = some .boolean) (hlk : meth.locks = false) (hK : gK D cA s) (a_this a_refusals a_now a_tried a_text a_numbers a_shown a_ways a_yet a_afternoons a_pieces a_sizes a_alike a_forth a_back a_isKept a_kept : Nat) (v_this_above : Int64) (v_this_below : Int64) (v_this_byteMany : Int32) (v_this_tokenAt : Int32) (v_this_tokenEnd : Int32) (v_this_token : Int32) (v_this_value : Int32) (v_this_word : Int32) (v_this_hash : Int64) (f_text : Nat → Int32) (x1 : Int32) (x2 : Int32) (x3 : Int32) (x4 : Int32) (x5 : Int32) (x6 : Int32) (x7 : Int32) (h : m_X12_isWord v_this_byteMany f_text x1 x2 x3 x4 x5 x6 x7 = some r) : P_X12_isWord_0 p l e s m args below meth c D cA r a_this a_refusals a_now a_tried a_text a_numbers a_shown a_ways a_yet a_afternoons a_pieces a_sizes a_alike a_forth a_back a_isKept a_kept v_this_above v_this_below v_this_byteMany v_this_tokenAt v_this_tokenEnd v_this_token v_this_value v_this_word v_this_hash f_text x1 x2 x3 x4 x5 x6 x7 := by
  intro hP ls hl
  unfold m_X12_isWord at h
  refine lv_iload_n S.1 S.2.1 dX12_isWord_0 rfl (lv_at hl 2 rfl) ?_
  refine lv_iload S.1 S.2.1 dX12_isWord_1 (lv_at hl 6 rfl) ?_
  refine mi_if_ge (tgt := 10) S h dX12_isWord_3 (by decide) (fun h => ?_) (fun h => ?_)
  · refine lv_iload S.1 S.2.1 dX12_isWord_10 (lv_at hl 7 rfl) ?_
    refine mi_if_ge (tgt := 19) S h dX12_isWord_12 (by decide) (fun h => ?_) (fun h => ?_)
    · refine lv_iconst (v := (5 : Int32)) S.1 S.2.1 dX12_isWord_19 (by decide) ?_
      exact w_X12_isWord_20 S hr hlk hK a_this a_refusals a_now a_tried a_text a_numbers a_shown a_ways a_yet a_afternoons a_pieces a_sizes a_alike a_forth a_back a_isKept a_kept v_this_above v_this_below v_this_byteMany v_this_tokenAt v_this_tokenEnd v_this_token v_this_value v_this_word v_this_hash f_text x1 x3 x4 x5 x6 x7 (5 : Int32) x2 h hP ls (lv_sub hl [0, 1, 3, 4, 5, 6, 7] rfl)
    · refine lv_iconst (v := (4 : Int32)) S.1 S.2.1 dX12_isWord_15 (by decide) ?_
      refine lv_goto (tgt := 20) S.1 S.2.1 dX12_isWord_16 (by decide) ?_
      exact w_X12_isWord_20 S hr hlk hK a_this a_refusals a_now a_tried a_text a_numbers a_shown a_ways a_yet a_afternoons a_pieces a_sizes a_alike a_forth a_back a_isKept a_kept v_this_above v_this_below v_this_byteMany v_this_tokenAt v_this_tokenEnd v_this_token v_this_value v_this_word v_this_hash f_text x1 x3 x4 x5 x6 x7 (4 : Int32) x2 h hP ls (lv_sub hl [0, 1, 3, 4, 5, 6, 7] rfl)
  · refine lv_iconst (v := (3 : Int32)) S.1 S.2.1 dX12_isWord_6 (by decide) ?_
    refine lv_goto (tgt := 20) S.1 S.2.1 dX12_isWord_7 (by decide) ?_
    exact w_X12_isWord_20 S hr hlk hK a_this a_refusals a_now a_tried a_text a_numbers a_shown a_ways a_yet a_afternoons a_pieces a_sizes a_alike a_forth a_back a_isKept a_kept v_this_above v_this_below v_this_byteMany v_this_tokenAt v_this_tokenEnd v_this_token v_this_value v_this_word v_this_hash f_text x1 x3 x4 x5 x6 x7 (3 : Int32) x2 h hP ls (lv_sub hl [0, 1, 3, 4, 5, 6, 7] rfl)
set_option maxHeartbeats 4000000 in
set_option maxRecDepth 100000 in
theorem c_X12_isWord (l : Launch) (D : va_G) (cA : Nat → ClassId) (a_this a_refusals a_now a_tried a_text a_numbers a_shown a_ways a_yet a_afternoons a_pieces a_sizes a_alike a_forth a_back a_isKept a_kept : Nat) (v_this_above : Int64) (v_this_below : Int64) (v_this_byteMany : Int32) (v_this_tokenAt : Int32) (v_this_tokenEnd : Int32) (v_this_token : Int32) (v_this_value : Int32) (v_this_word : Int32) (v_this_hash : Int64) (f_text : Nat → Int32) (x1 : Int32) (x2 : Int32) (x3 : Int32) (x4 : Int32) (x5 : Int32) (x6 : Int32) (x7 : Int32) {r : Int32} (h : m_X12_isWord v_this_byteMany f_text x1 x2 x3 x4 x5 x6 x7 = some r) : MPi l yX12_isWord wsX12_isWord { frames := 1, cells := 0, slots := 0, locals := 21 } D cA [.ref a_this, .int x1, .int x2, .int x3, .int x4, .int x5, .int x6, .int x7] [(a_this, .inr (12, [.ref a_refusals, .long v_this_above, .long v_this_below, .ref a_now, .ref a_tried, .int v_this_byteMany, .ref a_text, .int v_this_tokenAt, .int v_this_tokenEnd, .int v_this_token, .int v_this_value, .int v_this_word, .ref a_numbers, .ref a_shown, .ref a_ways, .ref a_yet, .ref a_afternoons, .ref a_pieces, .ref a_sizes, .ref a_alike, .ref a_forth, .ref a_back, .ref a_isKept, .ref a_kept, .long v_this_hash])), (a_text, .inl (cA 0, 150, .inl f_text))] r := by
  refine mP_of (cc := cX12_isWord) (maxL := 9) (ret := (some .boolean)) (by decide) rfl (Nat.le_of_ble_eq_true rfl) ?_
  intro p e s m below meth c S hr hlk hK hP ls hl
  exact w_X12_isWord_0 S hr hlk hK a_this a_refusals a_now a_tried a_text a_numbers a_shown a_ways a_yet a_afternoons a_pieces a_sizes a_alike a_forth a_back a_isKept a_kept v_this_above v_this_below v_this_byteMany v_this_tokenAt v_this_tokenEnd v_this_token v_this_value v_this_word v_this_hash f_text x1 x2 x3 x4 x5 x6 x7 h hP ls (lv_sub hl [0, 1, 2, 3, 4, 5, 6, 7] rfl)

-- X12_wordOf
def m_X12_wordOf (v_this_byteMany : Int32) (f_text : Nat → Int32) (x1 : Int32) (x2 : Int32) : Option (Int32) := mCall (m_X12_isWord v_this_byteMany f_text x1 x2 (112 : Int32) (105 : Int32) (116 : Int32) (-1 : Int32) (-1 : Int32)) (fun (r1 : Int32) => if r1 = 0 then mCall (m_X12_isWord v_this_byteMany f_text x1 x2 (108 : Int32) (97 : Int32) (121 : Int32) (101 : Int32) (114 : Int32)) (fun (r2 : Int32) => if r2 = 0 then mCall (m_X12_isWord v_this_byteMany f_text x1 x2 (112 : Int32) (114 : Int32) (105 : Int32) (99 : Int32) (101 : Int32)) (fun (r3 : Int32) => if r3 = 0 then mCall (m_X12_isWord v_this_byteMany f_text x1 x2 (108 : Int32) (117 : Int32) (109 : Int32) (112 : Int32) (-1 : Int32)) (fun (r4 : Int32) => if r4 = 0 then some (1 : Int32) else some (7 : Int32)) else some (6 : Int32)) else some (5 : Int32)) else some (4 : Int32))
def P_X12_wordOf_0 (p : Program) (l : Launch) (e : Env) (s : State) (m : MethodId) (args : Array Value) (below : List Frame) (meth : Method) (c : Code) (D : va_G) (cA : Nat → ClassId) (r : Int32) (a_this a_refusals a_now a_tried a_text a_numbers a_shown a_ways a_yet a_afternoons a_pieces a_sizes a_alike a_forth a_back a_isKept a_kept : Nat) (v_this_above : Int64) (v_this_below : Int64) (v_this_byteMany : Int32) (v_this_tokenAt : Int32) (v_this_tokenEnd : Int32) (v_this_token : Int32) (v_this_value : Int32) (v_this_word : Int32) (v_this_hash : Int64) (f_text : Nat → Int32) (x1 : Int32) (x2 : Int32) : Prop := va_P D vwCl [(a_this, .inr (12, [.ref a_refusals, .long v_this_above, .long v_this_below, .ref a_now, .ref a_tried, .int v_this_byteMany, .ref a_text, .int v_this_tokenAt, .int v_this_tokenEnd, .int v_this_token, .int v_this_value, .int v_this_word, .ref a_numbers, .ref a_shown, .ref a_ways, .ref a_yet, .ref a_afternoons, .ref a_pieces, .ref a_sizes, .ref a_alike, .ref a_forth, .ref a_back, .ref a_isKept, .ref a_kept, .long v_this_hash])), (a_text, .inl (cA 0, 150, .inl f_text))] s.heap → ∀ ls : Array Slot, lv_has ls 3 [(0, .ref a_this), (1, .int x1), (2, .int x2)] → W p l e { frames := 2, cells := 0, slots := 0, locals := 49 } s m args below meth c s.heap [] 0 0 (MQ below (vp_Si (fun y => y = r)) args s 0 0 (fun _ => False)) (F0 m 0 ls [])
set_option maxHeartbeats 4000000 in
set_option maxRecDepth 100000 in
theorem w_X12_wordOf_0 {p : Program} {l : Launch} {e : Env} {s : State} {m : MethodId} {args : Array Value} {below : List Frame} {meth : Method} {c : Code} {D : va_G} {cA : Nat → ClassId} {r : Int32} (S : CallFix p m c cX12_wordOf 3 s args wsX12_wordOf RX12) (hr : meth.sig.returnType = some .int) (hlk : meth.locks = false) (hK : gK D cA s) (a_this a_refusals a_now a_tried a_text a_numbers a_shown a_ways a_yet a_afternoons a_pieces a_sizes a_alike a_forth a_back a_isKept a_kept : Nat) (v_this_above : Int64) (v_this_below : Int64) (v_this_byteMany : Int32) (v_this_tokenAt : Int32) (v_this_tokenEnd : Int32) (v_this_token : Int32) (v_this_value : Int32) (v_this_word : Int32) (v_this_hash : Int64) (f_text : Nat → Int32) (x1 : Int32) (x2 : Int32) (h : m_X12_wordOf v_this_byteMany f_text x1 x2 = some r) : P_X12_wordOf_0 p l e s m args below meth c D cA r a_this a_refusals a_now a_tried a_text a_numbers a_shown a_ways a_yet a_afternoons a_pieces a_sizes a_alike a_forth a_back a_isKept a_kept v_this_above v_this_below v_this_byteMany v_this_tokenAt v_this_tokenEnd v_this_token v_this_value v_this_word v_this_hash f_text x1 x2 := by
  intro hP ls hl
  unfold m_X12_wordOf at h
  refine lv_aload_n S.1 S.2.1 dX12_wordOf_0 rfl (lv_at hl 0 rfl) ?_
  refine lv_iload_n S.1 S.2.1 dX12_wordOf_1 rfl (lv_at hl 1 rfl) ?_
  refine lv_iload_n S.1 S.2.1 dX12_wordOf_2 rfl (lv_at hl 2 rfl) ?_
  refine lv_bipush (v := (112 : Int32)) S.1 S.2.1 dX12_wordOf_3 (by decide) ?_
  refine lv_bipush (v := (105 : Int32)) S.1 S.2.1 dX12_wordOf_5 (by decide) ?_
  refine lv_bipush (v := (116 : Int32)) S.1 S.2.1 dX12_wordOf_7 (by decide) ?_
  refine lv_iconst (v := (-1 : Int32)) S.1 S.2.1 dX12_wordOf_9 (by decide) ?_
  refine lv_iconst (v := (-1 : Int32)) S.1 S.2.1 dX12_wordOf_10 (by decide) ?_
  obtain ⟨r1, hr1, h⟩ := mCall_use h
  refine mc_Pi (va_runV (As := [.int x1, .int x2, .int (112 : Int32), .int (105 : Int32), .int (116 : Int32), .int (-1 : Int32), .int (-1 : Int32)]) (rest := []) S (c_X12_isWord l D cA a_this a_refusals a_now a_tried a_text a_numbers a_shown a_ways a_yet a_afternoons a_pieces a_sizes a_alike a_forth a_back a_isKept a_kept v_this_above v_this_below v_this_byteMany v_this_tokenAt v_this_tokenEnd v_this_token v_this_value v_this_word v_this_hash f_text x1 x2 (112 : Int32) (105 : Int32) (116 : Int32) (-1 : Int32) (-1 : Int32) hr1) (cwV 7 S.2.2.2.2 gX12_wordOf_X12_isWord rfl rfl rfl (by decide +kernel) ⟨Nat.le_of_ble_eq_true rfl, Nat.le_of_ble_eq_true rfl⟩) (pre_PV hK hP [0, 1] rfl (ci := 12) (q0 := 0) rfl rfl) rfl rfl hl.1 rfl (lv_room (Nat.le_of_ble_eq_true rfl)) dX12_wordOf_11 ⟨Nat.le_of_ble_eq_true rfl, Nat.le_of_ble_eq_true rfl⟩) ?_
  refine mi_if_eq (tgt := 19) S h dX12_wordOf_14 (by decide) (fun h => ?_) (fun h => ?_)
  · refine lv_aload_n S.1 S.2.1 dX12_wordOf_19 rfl (lv_at hl 0 rfl) ?_
    refine lv_iload_n S.1 S.2.1 dX12_wordOf_20 rfl (lv_at hl 1 rfl) ?_
    refine lv_iload_n S.1 S.2.1 dX12_wordOf_21 rfl (lv_at hl 2 rfl) ?_
    refine lv_bipush (v := (108 : Int32)) S.1 S.2.1 dX12_wordOf_22 (by decide) ?_
    refine lv_bipush (v := (97 : Int32)) S.1 S.2.1 dX12_wordOf_24 (by decide) ?_
    refine lv_bipush (v := (121 : Int32)) S.1 S.2.1 dX12_wordOf_26 (by decide) ?_
    refine lv_bipush (v := (101 : Int32)) S.1 S.2.1 dX12_wordOf_28 (by decide) ?_
    refine lv_bipush (v := (114 : Int32)) S.1 S.2.1 dX12_wordOf_30 (by decide) ?_
    obtain ⟨r2, hr2, h⟩ := mCall_use h
    refine mc_Pi (va_runV (As := [.int x1, .int x2, .int (108 : Int32), .int (97 : Int32), .int (121 : Int32), .int (101 : Int32), .int (114 : Int32)]) (rest := []) S (c_X12_isWord l D cA a_this a_refusals a_now a_tried a_text a_numbers a_shown a_ways a_yet a_afternoons a_pieces a_sizes a_alike a_forth a_back a_isKept a_kept v_this_above v_this_below v_this_byteMany v_this_tokenAt v_this_tokenEnd v_this_token v_this_value v_this_word v_this_hash f_text x1 x2 (108 : Int32) (97 : Int32) (121 : Int32) (101 : Int32) (114 : Int32) hr2) (cwV 7 S.2.2.2.2 gX12_wordOf_X12_isWord rfl rfl rfl (by decide +kernel) ⟨Nat.le_of_ble_eq_true rfl, Nat.le_of_ble_eq_true rfl⟩) (pre_PV hK hP [0, 1] rfl (ci := 12) (q0 := 0) rfl rfl) rfl rfl hl.1 rfl (lv_room (Nat.le_of_ble_eq_true rfl)) dX12_wordOf_32 ⟨Nat.le_of_ble_eq_true rfl, Nat.le_of_ble_eq_true rfl⟩) ?_
    refine mi_if_eq (tgt := 40) S h dX12_wordOf_35 (by decide) (fun h => ?_) (fun h => ?_)
    · refine lv_aload_n S.1 S.2.1 dX12_wordOf_40 rfl (lv_at hl 0 rfl) ?_
      refine lv_iload_n S.1 S.2.1 dX12_wordOf_41 rfl (lv_at hl 1 rfl) ?_
      refine lv_iload_n S.1 S.2.1 dX12_wordOf_42 rfl (lv_at hl 2 rfl) ?_
      refine lv_bipush (v := (112 : Int32)) S.1 S.2.1 dX12_wordOf_43 (by decide) ?_
      refine lv_bipush (v := (114 : Int32)) S.1 S.2.1 dX12_wordOf_45 (by decide) ?_
      refine lv_bipush (v := (105 : Int32)) S.1 S.2.1 dX12_wordOf_47 (by decide) ?_
      refine lv_bipush (v := (99 : Int32)) S.1 S.2.1 dX12_wordOf_49 (by decide) ?_
      refine lv_bipush (v := (101 : Int32)) S.1 S.2.1 dX12_wordOf_51 (by decide) ?_
      obtain ⟨r3, hr3, h⟩ := mCall_use h
      refine mc_Pi (va_runV (As := [.int x1, .int x2, .int (112 : Int32), .int (114 : Int32), .int (105 : Int32), .int (99 : Int32), .int (101 : Int32)]) (rest := []) S (c_X12_isWord l D cA a_this a_refusals a_now a_tried a_text a_numbers a_shown a_ways a_yet a_afternoons a_pieces a_sizes a_alike a_forth a_back a_isKept a_kept v_this_above v_this_below v_this_byteMany v_this_tokenAt v_this_tokenEnd v_this_token v_this_value v_this_word v_this_hash f_text x1 x2 (112 : Int32) (114 : Int32) (105 : Int32) (99 : Int32) (101 : Int32) hr3) (cwV 7 S.2.2.2.2 gX12_wordOf_X12_isWord rfl rfl rfl (by decide +kernel) ⟨Nat.le_of_ble_eq_true rfl, Nat.le_of_ble_eq_true rfl⟩) (pre_PV hK hP [0, 1] rfl (ci := 12) (q0 := 0) rfl rfl) rfl rfl hl.1 rfl (lv_room (Nat.le_of_ble_eq_true rfl)) dX12_wordOf_53 ⟨Nat.le_of_ble_eq_true rfl, Nat.le_of_ble_eq_true rfl⟩) ?_
      refine mi_if_eq (tgt := 62) S h dX12_wordOf_56 (by decide) (fun h => ?_) (fun h => ?_)
      · refine lv_aload_n S.1 S.2.1 dX12_wordOf_62 rfl (lv_at hl 0 rfl) ?_
        refine lv_iload_n S.1 S.2.1 dX12_wordOf_63 rfl (lv_at hl 1 rfl) ?_
        refine lv_iload_n S.1 S.2.1 dX12_wordOf_64 rfl (lv_at hl 2 rfl) ?_
        refine lv_bipush (v := (108 : Int32)) S.1 S.2.1 dX12_wordOf_65 (by decide) ?_
        refine lv_bipush (v := (117 : Int32)) S.1 S.2.1 dX12_wordOf_67 (by decide) ?_
        refine lv_bipush (v := (109 : Int32)) S.1 S.2.1 dX12_wordOf_69 (by decide) ?_
        refine lv_bipush (v := (112 : Int32)) S.1 S.2.1 dX12_wordOf_71 (by decide) ?_
        refine lv_iconst (v := (-1 : Int32)) S.1 S.2.1 dX12_wordOf_73 (by decide) ?_
        obtain ⟨r4, hr4, h⟩ := mCall_use h
        refine mc_Pi (va_runV (As := [.int x1, .int x2, .int (108 : Int32), .int (117 : Int32), .int (109 : Int32), .int (112 : Int32), .int (-1 : Int32)]) (rest := []) S (c_X12_isWord l D cA a_this a_refusals a_now a_tried a_text a_numbers a_shown a_ways a_yet a_afternoons a_pieces a_sizes a_alike a_forth a_back a_isKept a_kept v_this_above v_this_below v_this_byteMany v_this_tokenAt v_this_tokenEnd v_this_token v_this_value v_this_word v_this_hash f_text x1 x2 (108 : Int32) (117 : Int32) (109 : Int32) (112 : Int32) (-1 : Int32) hr4) (cwV 7 S.2.2.2.2 gX12_wordOf_X12_isWord rfl rfl rfl (by decide +kernel) ⟨Nat.le_of_ble_eq_true rfl, Nat.le_of_ble_eq_true rfl⟩) (pre_PV hK hP [0, 1] rfl (ci := 12) (q0 := 0) rfl rfl) rfl rfl hl.1 rfl (lv_room (Nat.le_of_ble_eq_true rfl)) dX12_wordOf_74 ⟨Nat.le_of_ble_eq_true rfl, Nat.le_of_ble_eq_true rfl⟩) ?_
        refine mi_if_eq (tgt := 85) S h dX12_wordOf_77 (by decide) (fun h => ?_) (fun h => ?_)
        · refine lv_iconst (v := (1 : Int32)) S.1 S.2.1 dX12_wordOf_85 (by decide) ?_
          cases h
          exact mi_iretP S hr hlk rfl dX12_wordOf_86
        · refine lv_bipush (v := (7 : Int32)) S.1 S.2.1 dX12_wordOf_80 (by decide) ?_
          refine lv_goto (tgt := 86) S.1 S.2.1 dX12_wordOf_82 (by decide) ?_
          cases h
          exact mi_iretP S hr hlk rfl dX12_wordOf_86
      · refine lv_bipush (v := (6 : Int32)) S.1 S.2.1 dX12_wordOf_59 (by decide) ?_
        cases h
        exact mi_iretP S hr hlk rfl dX12_wordOf_61
    · refine lv_iconst (v := (5 : Int32)) S.1 S.2.1 dX12_wordOf_38 (by decide) ?_
      cases h
      exact mi_iretP S hr hlk rfl dX12_wordOf_39
  · refine lv_iconst (v := (4 : Int32)) S.1 S.2.1 dX12_wordOf_17 (by decide) ?_
    cases h
    exact mi_iretP S hr hlk rfl dX12_wordOf_18
set_option maxHeartbeats 4000000 in
set_option maxRecDepth 100000 in
theorem c_X12_wordOf (l : Launch) (D : va_G) (cA : Nat → ClassId) (a_this a_refusals a_now a_tried a_text a_numbers a_shown a_ways a_yet a_afternoons a_pieces a_sizes a_alike a_forth a_back a_isKept a_kept : Nat) (v_this_above : Int64) (v_this_below : Int64) (v_this_byteMany : Int32) (v_this_tokenAt : Int32) (v_this_tokenEnd : Int32) (v_this_token : Int32) (v_this_value : Int32) (v_this_word : Int32) (v_this_hash : Int64) (f_text : Nat → Int32) (x1 : Int32) (x2 : Int32) {r : Int32} (h : m_X12_wordOf v_this_byteMany f_text x1 x2 = some r) : MPi l yX12_wordOf wsX12_wordOf { frames := 2, cells := 0, slots := 0, locals := 49 } D cA [.ref a_this, .int x1, .int x2] [(a_this, .inr (12, [.ref a_refusals, .long v_this_above, .long v_this_below, .ref a_now, .ref a_tried, .int v_this_byteMany, .ref a_text, .int v_this_tokenAt, .int v_this_tokenEnd, .int v_this_token, .int v_this_value, .int v_this_word, .ref a_numbers, .ref a_shown, .ref a_ways, .ref a_yet, .ref a_afternoons, .ref a_pieces, .ref a_sizes, .ref a_alike, .ref a_forth, .ref a_back, .ref a_isKept, .ref a_kept, .long v_this_hash])), (a_text, .inl (cA 0, 150, .inl f_text))] r := by
  refine mP_of (cc := cX12_wordOf) (maxL := 3) (ret := (some .int)) (by decide) rfl (Nat.le_of_ble_eq_true rfl) ?_
  intro p e s m below meth c S hr hlk hK hP ls hl
  exact w_X12_wordOf_0 S hr hlk hK a_this a_refusals a_now a_tried a_text a_numbers a_shown a_ways a_yet a_afternoons a_pieces a_sizes a_alike a_forth a_back a_isKept a_kept v_this_above v_this_below v_this_byteMany v_this_tokenAt v_this_tokenEnd v_this_token v_this_value v_this_word v_this_hash f_text x1 x2 h hP ls (lv_sub hl [0, 1, 2] rfl)

-- X12_next
theorem in_X12_next_X12 : ∀ w ∈ u_ws RX12 TX12 25, w ∈ wsX12_next := by decide +kernel
theorem lk_X12_next_105 : Cond.fieldLink RX12 105 (TX12 7).1 (TX12 7).2.1 (TX12 7).2.2.1 ∈ wsX12_next := by decide +kernel
theorem lk_X12_next_108 : Cond.fieldLink RX12 108 (TX12 9).1 (TX12 9).2.1 (TX12 9).2.2.1 ∈ wsX12_next := by decide +kernel
theorem lk_X12_next_118 : Cond.fieldLink RX12 118 (TX12 8).1 (TX12 8).2.1 (TX12 8).2.2.1 ∈ wsX12_next := by decide +kernel
theorem lk_X12_next_115 : Cond.fieldLink RX12 115 (TX12 10).1 (TX12 10).2.1 (TX12 10).2.2.1 ∈ wsX12_next := by decide +kernel
def m_X12_next_L78 (v_this_byteMany : Int32) (f_text : Nat → Int32) : Nat → (Int32) → (Int32) → (Int32) → (Int32) → Int32 → Int32 → Option ((Int32) × (Int32) × (Int32) × (Int32))
  | 0, _, _, _, _, _, _ => none
  | n + 1, v_this_tokenAt, v_this_tokenEnd, v_this_token, v_this_value, x2, x3 => mCall (m_X12_byteAt v_this_byteMany f_text x3) (fun (r1 : Int32) => mCall (m_X12_in r1 (97 : Int32) (122 : Int32)) (fun (r2 : Int32) => if r2 = 0 then mCall (m_X12_wordOf v_this_byteMany f_text x2 (x3 - x2)) (fun (r3 : Int32) => some (v_this_tokenAt, x3, r3, v_this_value)) else mLet (x3 + (1 : Int32)) (fun (t4 : Int32) => m_X12_next_L78 v_this_byteMany f_text n v_this_tokenAt v_this_tokenEnd v_this_token v_this_value x2 t4)))
def m_X12_next_L134 (v_this_byteMany : Int32) (f_text : Nat → Int32) : Nat → (Int32) → (Int32) → (Int32) → (Int32) → Int32 → Int32 → Option ((Int32) × (Int32) × (Int32) × (Int32))
  | 0, _, _, _, _, _, _ => none
  | n + 1, v_this_tokenAt, v_this_tokenEnd, v_this_token, v_this_value, x2, x3 => mCall (m_X12_byteAt v_this_byteMany f_text x3) (fun (r1 : Int32) => mCall (m_X12_in r1 (48 : Int32) (57 : Int32)) (fun (r2 : Int32) => if r2 = 0 then if (x3 - x2) ≤ (2 : Int32) then some (v_this_tokenAt, x3, (2 : Int32), v_this_value) else some (v_this_tokenAt, x3, (1 : Int32), v_this_value) else if (2 : Int32) ≤ (x3 - x2) then mLet (x3 + (1 : Int32)) (fun (t3 : Int32) => m_X12_next_L134 v_this_byteMany f_text n v_this_tokenAt v_this_tokenEnd v_this_token v_this_value x2 t3) else mCall (m_X12_byteAt v_this_byteMany f_text x3) (fun (r4 : Int32) => mLet ((((10 : Int32) * v_this_value) + r4) - (48 : Int32)) (fun (t5 : Int32) => mLet (x3 + (1 : Int32)) (fun (t6 : Int32) => m_X12_next_L134 v_this_byteMany f_text n v_this_tokenAt v_this_tokenEnd v_this_token t5 x2 t6)))))
def m_X12_next_L2 (v_this_byteMany : Int32) (f_text : Nat → Int32) : Nat → (Int32) → (Int32) → (Int32) → (Int32) → Int32 → Option ((Int32) × (Int32) × (Int32) × (Int32))
  | 0, _, _, _, _, _ => none
  | n + 1, v_this_tokenAt, v_this_tokenEnd, v_this_token, v_this_value, x2 => mCall (m_X12_byteAt v_this_byteMany f_text x2) (fun (r1 : Int32) => if r1 = (32 : Int32) then mLet (x2 + (1 : Int32)) (fun (t9 : Int32) => m_X12_next_L2 v_this_byteMany f_text n v_this_tokenAt v_this_tokenEnd v_this_token v_this_value t9) else mCall (m_X12_byteAt v_this_byteMany f_text x2) (fun (r2 : Int32) => if 0 ≤ r2 then mCall (m_X12_byteAt v_this_byteMany f_text x2) (fun (r3 : Int32) => if r3 = (59 : Int32) then mLet (x2 + (1 : Int32)) (fun (t8 : Int32) => some (x2, t8, (3 : Int32), v_this_value)) else mCall (m_X12_byteAt v_this_byteMany f_text x2) (fun (r4 : Int32) => mCall (m_X12_in r4 (97 : Int32) (122 : Int32)) (fun (r5 : Int32) => if r5 = 0 then mCall (m_X12_byteAt v_this_byteMany f_text x2) (fun (r6 : Int32) => mCall (m_X12_in r6 (48 : Int32) (57 : Int32)) (fun (r7 : Int32) => if r7 = 0 then some (x2, x2, (1 : Int32), v_this_value) else m_X12_next_L134 v_this_byteMany f_text mFU x2 v_this_tokenEnd v_this_token (0 : Int32) x2 x2)) else m_X12_next_L78 v_this_byteMany f_text mFU x2 v_this_tokenEnd v_this_token v_this_value x2 x2))) else some (x2, x2, (0 : Int32), v_this_value)))
def m_X12_next (v_this_byteMany : Int32) (v_this_tokenAt : Int32) (v_this_tokenEnd : Int32) (v_this_token : Int32) (v_this_value : Int32) (f_text : Nat → Int32) (x1 : Int32) : Option ((Int32) × (Int32) × (Int32) × (Int32)) := m_X12_next_L2 v_this_byteMany f_text mFU v_this_tokenAt v_this_tokenEnd v_this_token v_this_value x1
def P_X12_next_78 (p : Program) (l : Launch) (e : Env) (s : State) (m : MethodId) (args : Array Value) (below : List Frame) (meth : Method) (c : Code) (D : va_G) (cA : Nat → ClassId) (A : Nat → Prop) (r : (Int32) × (Int32) × (Int32) × (Int32)) (a_this a_refusals a_now a_tried a_text a_numbers a_shown a_ways a_yet a_afternoons a_pieces a_sizes a_alike a_forth a_back a_isKept a_kept : Nat) (v_this_above : Int64) (v_this_below : Int64) (v_this_byteMany : Int32) (v_this_tokenAt : Int32) (v_this_tokenEnd : Int32) (v_this_token : Int32) (v_this_value : Int32) (v_this_word : Int32) (v_this_hash : Int64) (f_text : Nat → Int32) (x2 : Int32) (x3 : Int32) : Prop := ∀ (H : Heap) (locs : List Loc) (ls : Array Slot), va_P D vwCl [(a_this, .inr (12, [.ref a_refusals, .long v_this_above, .long v_this_below, .ref a_now, .ref a_tried, .int v_this_byteMany, .ref a_text, .int v_this_tokenAt, .int v_this_tokenEnd, .int v_this_token, .int v_this_value, .int v_this_word, .ref a_numbers, .ref a_shown, .ref a_ways, .ref a_yet, .ref a_afternoons, .ref a_pieces, .ref a_sizes, .ref a_alike, .ref a_forth, .ref a_back, .ref a_isKept, .ref a_kept, .long v_this_hash])), (a_text, .inl (cA 0, 150, .inl f_text))] H → va_D A [(a_this, .inr (12, [.ref a_refusals, .long v_this_above, .long v_this_below, .ref a_now, .ref a_tried, .int v_this_byteMany, .ref a_text, .int v_this_tokenAt, .int v_this_tokenEnd, .int v_this_token, .int v_this_value, .int v_this_word, .ref a_numbers, .ref a_shown, .ref a_ways, .ref a_yet, .ref a_afternoons, .ref a_pieces, .ref a_sizes, .ref a_alike, .ref a_forth, .ref a_back, .ref a_isKept, .ref a_kept, .long v_this_hash])), (a_text, .inl (cA 0, 150, .inl f_text))] → va_S A s.heap H locs → lv_has ls 4 [(0, .ref a_this), (2, .int x2), (3, .int x3)] → W p l e { frames := 3, cells := 0, slots := 0, locals := 71 } s m args below meth c H locs 0 0 (MQ below (va_Qv (fun (_ : Unit) => True) (gPost D A [(a_this, .inr (12, [.ref a_refusals, .long v_this_above, .long v_this_below, .ref a_now, .ref a_tried, .int v_this_byteMany, .ref a_text, .int r.1, .int r.2.1, .int r.2.2.1, .int r.2.2.2, .int v_this_word, .ref a_numbers, .ref a_shown, .ref a_ways, .ref a_yet, .ref a_afternoons, .ref a_pieces, .ref a_sizes, .ref a_alike, .ref a_forth, .ref a_back, .ref a_isKept, .ref a_kept, .long v_this_hash])), (a_text, .inl (cA 0, 150, .inl f_text))]) A) args s 0 0 A) (F0 m 78 ls [])
def P_X12_next_134 (p : Program) (l : Launch) (e : Env) (s : State) (m : MethodId) (args : Array Value) (below : List Frame) (meth : Method) (c : Code) (D : va_G) (cA : Nat → ClassId) (A : Nat → Prop) (r : (Int32) × (Int32) × (Int32) × (Int32)) (a_this a_refusals a_now a_tried a_text a_numbers a_shown a_ways a_yet a_afternoons a_pieces a_sizes a_alike a_forth a_back a_isKept a_kept : Nat) (v_this_above : Int64) (v_this_below : Int64) (v_this_byteMany : Int32) (v_this_tokenAt : Int32) (v_this_tokenEnd : Int32) (v_this_token : Int32) (v_this_value : Int32) (v_this_word : Int32) (v_this_hash : Int64) (f_text : Nat → Int32) (x2 : Int32) (x3 : Int32) : Prop := ∀ (H : Heap) (locs : List Loc) (ls : Array Slot), va_P D vwCl [(a_this, .inr (12, [.ref a_refusals, .long v_this_above, .long v_this_below, .ref a_now, .ref a_tried, .int v_this_byteMany, .ref a_text, .int v_this_tokenAt, .int v_this_tokenEnd, .int v_this_token, .int v_this_value, .int v_this_word, .ref a_numbers, .ref a_shown, .ref a_ways, .ref a_yet, .ref a_afternoons, .ref a_pieces, .ref a_sizes, .ref a_alike, .ref a_forth, .ref a_back, .ref a_isKept, .ref a_kept, .long v_this_hash])), (a_text, .inl (cA 0, 150, .inl f_text))] H → va_D A [(a_this, .inr (12, [.ref a_refusals, .long v_this_above, .long v_this_below, .ref a_now, .ref a_tried, .int v_this_byteMany, .ref a_text, .int v_this_tokenAt, .int v_this_tokenEnd, .int v_this_token, .int v_this_value, .int v_this_word, .ref a_numbers, .ref a_shown, .ref a_ways, .ref a_yet, .ref a_afternoons, .ref a_pieces, .ref a_sizes, .ref a_alike, .ref a_forth, .ref a_back, .ref a_isKept, .ref a_kept, .long v_this_hash])), (a_text, .inl (cA 0, 150, .inl f_text))] → va_S A s.heap H locs → lv_has ls 4 [(0, .ref a_this), (2, .int x2), (3, .int x3)] → W p l e { frames := 3, cells := 0, slots := 0, locals := 71 } s m args below meth c H locs 0 0 (MQ below (va_Qv (fun (_ : Unit) => True) (gPost D A [(a_this, .inr (12, [.ref a_refusals, .long v_this_above, .long v_this_below, .ref a_now, .ref a_tried, .int v_this_byteMany, .ref a_text, .int r.1, .int r.2.1, .int r.2.2.1, .int r.2.2.2, .int v_this_word, .ref a_numbers, .ref a_shown, .ref a_ways, .ref a_yet, .ref a_afternoons, .ref a_pieces, .ref a_sizes, .ref a_alike, .ref a_forth, .ref a_back, .ref a_isKept, .ref a_kept, .long v_this_hash])), (a_text, .inl (cA 0, 150, .inl f_text))]) A) args s 0 0 A) (F0 m 134 ls [])
def P_X12_next_2 (p : Program) (l : Launch) (e : Env) (s : State) (m : MethodId) (args : Array Value) (below : List Frame) (meth : Method) (c : Code) (D : va_G) (cA : Nat → ClassId) (A : Nat → Prop) (r : (Int32) × (Int32) × (Int32) × (Int32)) (a_this a_refusals a_now a_tried a_text a_numbers a_shown a_ways a_yet a_afternoons a_pieces a_sizes a_alike a_forth a_back a_isKept a_kept : Nat) (v_this_above : Int64) (v_this_below : Int64) (v_this_byteMany : Int32) (v_this_tokenAt : Int32) (v_this_tokenEnd : Int32) (v_this_token : Int32) (v_this_value : Int32) (v_this_word : Int32) (v_this_hash : Int64) (f_text : Nat → Int32) (x2 : Int32) : Prop := ∀ (H : Heap) (locs : List Loc) (ls : Array Slot), va_P D vwCl [(a_this, .inr (12, [.ref a_refusals, .long v_this_above, .long v_this_below, .ref a_now, .ref a_tried, .int v_this_byteMany, .ref a_text, .int v_this_tokenAt, .int v_this_tokenEnd, .int v_this_token, .int v_this_value, .int v_this_word, .ref a_numbers, .ref a_shown, .ref a_ways, .ref a_yet, .ref a_afternoons, .ref a_pieces, .ref a_sizes, .ref a_alike, .ref a_forth, .ref a_back, .ref a_isKept, .ref a_kept, .long v_this_hash])), (a_text, .inl (cA 0, 150, .inl f_text))] H → va_D A [(a_this, .inr (12, [.ref a_refusals, .long v_this_above, .long v_this_below, .ref a_now, .ref a_tried, .int v_this_byteMany, .ref a_text, .int v_this_tokenAt, .int v_this_tokenEnd, .int v_this_token, .int v_this_value, .int v_this_word, .ref a_numbers, .ref a_shown, .ref a_ways, .ref a_yet, .ref a_afternoons, .ref a_pieces, .ref a_sizes, .ref a_alike, .ref a_forth, .ref a_back, .ref a_isKept, .ref a_kept, .long v_this_hash])), (a_text, .inl (cA 0, 150, .inl f_text))] → va_S A s.heap H locs → lv_has ls 4 [(0, .ref a_this), (2, .int x2)] → W p l e { frames := 3, cells := 0, slots := 0, locals := 71 } s m args below meth c H locs 0 0 (MQ below (va_Qv (fun (_ : Unit) => True) (gPost D A [(a_this, .inr (12, [.ref a_refusals, .long v_this_above, .long v_this_below, .ref a_now, .ref a_tried, .int v_this_byteMany, .ref a_text, .int r.1, .int r.2.1, .int r.2.2.1, .int r.2.2.2, .int v_this_word, .ref a_numbers, .ref a_shown, .ref a_ways, .ref a_yet, .ref a_afternoons, .ref a_pieces, .ref a_sizes, .ref a_alike, .ref a_forth, .ref a_back, .ref a_isKept, .ref a_kept, .long v_this_hash])), (a_text, .inl (cA 0, 150, .inl f_text))]) A) args s 0 0 A) (F0 m 2 ls [])
def P_X12_next_0 (p : Program) (l : Launch) (e : Env) (s : State) (m : MethodId) (args : Array Value) (below : List Frame) (meth : Method) (c : Code) (D : va_G) (cA : Nat → ClassId) (A : Nat → Prop) (r : (Int32) × (Int32) × (Int32) × (Int32)) (a_this a_refusals a_now a_tried a_text a_numbers a_shown a_ways a_yet a_afternoons a_pieces a_sizes a_alike a_forth a_back a_isKept a_kept : Nat) (v_this_above : Int64) (v_this_below : Int64) (v_this_byteMany : Int32) (v_this_tokenAt : Int32) (v_this_tokenEnd : Int32) (v_this_token : Int32) (v_this_value : Int32) (v_this_word : Int32) (v_this_hash : Int64) (f_text : Nat → Int32) (x1 : Int32) : Prop := ∀ (H : Heap) (locs : List Loc) (ls : Array Slot), va_P D vwCl [(a_this, .inr (12, [.ref a_refusals, .long v_this_above, .long v_this_below, .ref a_now, .ref a_tried, .int v_this_byteMany, .ref a_text, .int v_this_tokenAt, .int v_this_tokenEnd, .int v_this_token, .int v_this_value, .int v_this_word, .ref a_numbers, .ref a_shown, .ref a_ways, .ref a_yet, .ref a_afternoons, .ref a_pieces, .ref a_sizes, .ref a_alike, .ref a_forth, .ref a_back, .ref a_isKept, .ref a_kept, .long v_this_hash])), (a_text, .inl (cA 0, 150, .inl f_text))] H → va_D A [(a_this, .inr (12, [.ref a_refusals, .long v_this_above, .long v_this_below, .ref a_now, .ref a_tried, .int v_this_byteMany, .ref a_text, .int v_this_tokenAt, .int v_this_tokenEnd, .int v_this_token, .int v_this_value, .int v_this_word, .ref a_numbers, .ref a_shown, .ref a_ways, .ref a_yet, .ref a_afternoons, .ref a_pieces, .ref a_sizes, .ref a_alike, .ref a_forth, .ref a_back, .ref a_isKept, .ref a_kept, .long v_this_hash])), (a_text, .inl (cA 0, 150, .inl f_text))] → va_S A s.heap H locs → lv_has ls 4 [(0, .ref a_this), (1, .int x1)] → W p l e { frames := 3, cells := 0, slots := 0, locals := 71 } s m args below meth c H locs 0 0 (MQ below (va_Qv (fun (_ : Unit) => True) (gPost D A [(a_this, .inr (12, [.ref a_refusals, .long v_this_above, .long v_this_below, .ref a_now, .ref a_tried, .int v_this_byteMany, .ref a_text, .int r.1, .int r.2.1, .int r.2.2.1, .int r.2.2.2, .int v_this_word, .ref a_numbers, .ref a_shown, .ref a_ways, .ref a_yet, .ref a_afternoons, .ref a_pieces, .ref a_sizes, .ref a_alike, .ref a_forth, .ref a_back, .ref a_isKept, .ref a_kept, .long v_this_hash])), (a_text, .inl (cA 0, 150, .inl f_text))]) A) args s 0 0 A) (F0 m 0 ls [])
set_option maxHeartbeats 4000000 in
set_option maxRecDepth 100000 in
theorem w_X12_next_78 {p : Program} {l : Launch} {e : Env} {s : State} {m : MethodId} {args : Array Value} {below : List Frame} {meth : Method} {c : Code} {D : va_G} {cA : Nat → ClassId} {A : Nat → Prop} {r : (Int32) × (Int32) × (Int32) × (Int32)} (S : CallFix p m c cX12_next 4 s args wsX12_next RX12) (hr : meth.sig.returnType = none) (hlk : meth.locks = false) (hK : gK D cA s) (hA : ∀ q : Nat, s.heap.size ≤ q → A q) (a_this a_refusals a_now a_tried a_text a_numbers a_shown a_ways a_yet a_afternoons a_pieces a_sizes a_alike a_forth a_back a_isKept a_kept : Nat) (v_this_above : Int64) (v_this_below : Int64) (v_this_byteMany : Int32) (v_this_word : Int32) (v_this_hash : Int64) (f_text : Nat → Int32) : ∀ (n : Nat) (v_this_tokenAt : Int32) (v_this_tokenEnd : Int32) (v_this_token : Int32) (v_this_value : Int32) (x2 : Int32) (x3 : Int32), m_X12_next_L78 v_this_byteMany f_text n v_this_tokenAt v_this_tokenEnd v_this_token v_this_value x2 x3 = some r → P_X12_next_78 p l e s m args below meth c D cA A r a_this a_refusals a_now a_tried a_text a_numbers a_shown a_ways a_yet a_afternoons a_pieces a_sizes a_alike a_forth a_back a_isKept a_kept v_this_above v_this_below v_this_byteMany v_this_tokenAt v_this_tokenEnd v_this_token v_this_value v_this_word v_this_hash f_text x2 x3 := by
  intro n
  induction n with
  | zero =>
    intro v_this_tokenAt v_this_tokenEnd v_this_token v_this_value x2 x3 h
    have h : none = some r := h
    cases h
  | succ n ih =>
    intro v_this_tokenAt v_this_tokenEnd v_this_token v_this_value x2 x3 h
    intro H locs ls hP hD hS hl
    rw [m_X12_next_L78] at h
    refine lv_aload_n S.1 S.2.1 dX12_next_78 rfl (lv_at hl 0 rfl) ?_
    refine lv_iload_n S.1 S.2.1 dX12_next_79 rfl (lv_at hl 2 rfl) ?_
    obtain ⟨r1, hr1, h⟩ := mCall_use h
    refine mc_Pi (va_runV (As := [.int x3]) (rest := []) S (c_X12_byteAt l D cA a_this a_refusals a_now a_tried a_text a_numbers a_shown a_ways a_yet a_afternoons a_pieces a_sizes a_alike a_forth a_back a_isKept a_kept v_this_above v_this_below v_this_byteMany v_this_tokenAt v_this_tokenEnd v_this_token v_this_value v_this_word v_this_hash f_text x3 hr1) (cwV 1 S.2.2.2.2 gX12_next_X12_byteAt rfl rfl rfl (by decide +kernel) ⟨Nat.le_of_ble_eq_true rfl, Nat.le_of_ble_eq_true rfl⟩) (pre_PV hK hP [0, 1] rfl (ci := 12) (q0 := 0) rfl rfl) rfl rfl hl.1 rfl (lv_room (Nat.le_of_ble_eq_true rfl)) dX12_next_80 ⟨Nat.le_of_ble_eq_true rfl, Nat.le_of_ble_eq_true rfl⟩) ?_
    refine lv_bipush (v := (97 : Int32)) S.1 S.2.1 dX12_next_83 (by decide) ?_
    refine lv_bipush (v := (122 : Int32)) S.1 S.2.1 dX12_next_85 (by decide) ?_
    obtain ⟨r2, hr2, h⟩ := mCall_use h
    refine mc_Pi (va_runS (As := [.int r1, .int (97 : Int32), .int (122 : Int32)]) (rest := []) S (c_X12_in l D cA r1 (97 : Int32) (122 : Int32) hr2) (va_cwS 3 S.2.2.2.2 gX12_next_X12_in rfl rfl rfl (by decide +kernel) ⟨Nat.le_of_ble_eq_true rfl, Nat.le_of_ble_eq_true rfl⟩) (pre_PS hK hP [] rfl) rfl rfl hl.1 rfl (lv_room (Nat.le_of_ble_eq_true rfl)) dX12_next_87 ⟨Nat.le_of_ble_eq_true rfl, Nat.le_of_ble_eq_true rfl⟩) ?_
    refine mi_if_eq (tgt := 99) S h dX12_next_90 (by decide) (fun h => ?_) (fun h => ?_)
    · refine lv_aload_n S.1 S.2.1 dX12_next_99 rfl (lv_at hl 0 rfl) ?_
      refine lv_aload_n S.1 S.2.1 dX12_next_100 rfl (lv_at hl 0 rfl) ?_
      refine lv_iload_n S.1 S.2.1 dX12_next_101 rfl (lv_at hl 1 rfl) ?_
      refine lv_iload_n S.1 S.2.1 dX12_next_102 rfl (lv_at hl 2 rfl) ?_
      refine lv_iload_n S.1 S.2.1 dX12_next_103 rfl (lv_at hl 1 rfl) ?_
      refine lv_isub S.1 S.2.1 dX12_next_104 ?_
      obtain ⟨r3, hr3, h⟩ := mCall_use h
      refine mc_Pi (va_runV (As := [.int x2, .int (x3 - x2)]) (rest := [.ref a_this]) S (c_X12_wordOf l D cA a_this a_refusals a_now a_tried a_text a_numbers a_shown a_ways a_yet a_afternoons a_pieces a_sizes a_alike a_forth a_back a_isKept a_kept v_this_above v_this_below v_this_byteMany v_this_tokenAt v_this_tokenEnd v_this_token v_this_value v_this_word v_this_hash f_text x2 (x3 - x2) hr3) (cwV 2 S.2.2.2.2 gX12_next_X12_wordOf rfl rfl rfl (by decide +kernel) ⟨Nat.le_of_ble_eq_true rfl, Nat.le_of_ble_eq_true rfl⟩) (pre_PV hK hP [0, 1] rfl (ci := 12) (q0 := 0) rfl rfl) rfl rfl hl.1 rfl (lv_room (Nat.le_of_ble_eq_true rfl)) dX12_next_105 ⟨Nat.le_of_ble_eq_true rfl, Nat.le_of_ble_eq_true rfl⟩) ?_
      refine mi_put S hK hP hD hS in_X12_next_X12 tyX12_ok nmX12 0 rfl rfl 9 (by decide) lk_X12_next_108 rfl (v := .int r3) rfl rfl (Nat.le_of_ble_eq_true rfl) dX12_next_108 (fun H locs hP hD hS => ?_)
      have hP : va_P D vwCl [(a_this, .inr (12, [.ref a_refusals, .long v_this_above, .long v_this_below, .ref a_now, .ref a_tried, .int v_this_byteMany, .ref a_text, .int v_this_tokenAt, .int v_this_tokenEnd, .int r3, .int v_this_value, .int v_this_word, .ref a_numbers, .ref a_shown, .ref a_ways, .ref a_yet, .ref a_afternoons, .ref a_pieces, .ref a_sizes, .ref a_alike, .ref a_forth, .ref a_back, .ref a_isKept, .ref a_kept, .long v_this_hash])), (a_text, .inl (cA 0, 150, .inl f_text))] H := hP
      have hD : va_D A [(a_this, .inr (12, [.ref a_refusals, .long v_this_above, .long v_this_below, .ref a_now, .ref a_tried, .int v_this_byteMany, .ref a_text, .int v_this_tokenAt, .int v_this_tokenEnd, .int r3, .int v_this_value, .int v_this_word, .ref a_numbers, .ref a_shown, .ref a_ways, .ref a_yet, .ref a_afternoons, .ref a_pieces, .ref a_sizes, .ref a_alike, .ref a_forth, .ref a_back, .ref a_isKept, .ref a_kept, .long v_this_hash])), (a_text, .inl (cA 0, 150, .inl f_text))] := hD
      refine lv_goto (tgt := 213) S.1 S.2.1 dX12_next_111 (by decide) ?_
      refine lv_aload_n S.1 S.2.1 dX12_next_213 rfl (lv_at hl 0 rfl) ?_
      refine lv_iload_n S.1 S.2.1 dX12_next_214 rfl (lv_at hl 2 rfl) ?_
      refine mi_put S hK hP hD hS in_X12_next_X12 tyX12_ok nmX12 0 rfl rfl 8 (by decide) lk_X12_next_118 rfl (v := .int x3) rfl rfl (Nat.le_of_ble_eq_true rfl) dX12_next_215 (fun H locs hP hD hS => ?_)
      have hP : va_P D vwCl [(a_this, .inr (12, [.ref a_refusals, .long v_this_above, .long v_this_below, .ref a_now, .ref a_tried, .int v_this_byteMany, .ref a_text, .int v_this_tokenAt, .int x3, .int r3, .int v_this_value, .int v_this_word, .ref a_numbers, .ref a_shown, .ref a_ways, .ref a_yet, .ref a_afternoons, .ref a_pieces, .ref a_sizes, .ref a_alike, .ref a_forth, .ref a_back, .ref a_isKept, .ref a_kept, .long v_this_hash])), (a_text, .inl (cA 0, 150, .inl f_text))] H := hP
      have hD : va_D A [(a_this, .inr (12, [.ref a_refusals, .long v_this_above, .long v_this_below, .ref a_now, .ref a_tried, .int v_this_byteMany, .ref a_text, .int v_this_tokenAt, .int x3, .int r3, .int v_this_value, .int v_this_word, .ref a_numbers, .ref a_shown, .ref a_ways, .ref a_yet, .ref a_afternoons, .ref a_pieces, .ref a_sizes, .ref a_alike, .ref a_forth, .ref a_back, .ref a_isKept, .ref a_kept, .long v_this_hash])), (a_text, .inl (cA 0, 150, .inl f_text))] := hD
      cases h
      exact mi_vretE S hr hlk hP hD hS dX12_next_218
    · obtain ⟨t4, et4, h⟩ := mLet_use h
      refine lv_iinc (v := t4) (lv' := [(3, .int t4), (0, .ref a_this), (2, .int x2)]) S.1 S.2.1 dX12_next_93 hl (k := 2) rfl (by rw [et4]; rfl) (by decide) rfl (fun ls hl => ?_)
      clear et4
      refine lv_goto (tgt := 78) S.1 S.2.1 dX12_next_96 (by decide) ?_
      exact ih v_this_tokenAt v_this_tokenEnd v_this_token v_this_value x2 t4 h H locs ls hP hD hS (lv_sub hl [1, 2, 0] rfl)
set_option maxHeartbeats 4000000 in
set_option maxRecDepth 100000 in
theorem w_X12_next_134 {p : Program} {l : Launch} {e : Env} {s : State} {m : MethodId} {args : Array Value} {below : List Frame} {meth : Method} {c : Code} {D : va_G} {cA : Nat → ClassId} {A : Nat → Prop} {r : (Int32) × (Int32) × (Int32) × (Int32)} (S : CallFix p m c cX12_next 4 s args wsX12_next RX12) (hr : meth.sig.returnType = none) (hlk : meth.locks = false) (hK : gK D cA s) (hA : ∀ q : Nat, s.heap.size ≤ q → A q) (a_this a_refusals a_now a_tried a_text a_numbers a_shown a_ways a_yet a_afternoons a_pieces a_sizes a_alike a_forth a_back a_isKept a_kept : Nat) (v_this_above : Int64) (v_this_below : Int64) (v_this_byteMany : Int32) (v_this_word : Int32) (v_this_hash : Int64) (f_text : Nat → Int32) : ∀ (n : Nat) (v_this_tokenAt : Int32) (v_this_tokenEnd : Int32) (v_this_token : Int32) (v_this_value : Int32) (x2 : Int32) (x3 : Int32), m_X12_next_L134 v_this_byteMany f_text n v_this_tokenAt v_this_tokenEnd v_this_token v_this_value x2 x3 = some r → P_X12_next_134 p l e s m args below meth c D cA A r a_this a_refusals a_now a_tried a_text a_numbers a_shown a_ways a_yet a_afternoons a_pieces a_sizes a_alike a_forth a_back a_isKept a_kept v_this_above v_this_below v_this_byteMany v_this_tokenAt v_this_tokenEnd v_this_token v_this_value v_this_word v_this_hash f_text x2 x3 := by
  intro n
  induction n with
  | zero =>
    intro v_this_tokenAt v_this_tokenEnd v_this_token v_this_value x2 x3 h
    have h : none = some r := h
    cases h
  | succ n ih =>
    intro v_this_tokenAt v_this_tokenEnd v_this_token v_this_value x2 x3 h
    intro H locs ls hP hD hS hl
    rw [m_X12_next_L134] at h
    refine lv_aload_n S.1 S.2.1 dX12_next_134 rfl (lv_at hl 0 rfl) ?_
    refine lv_iload_n S.1 S.2.1 dX12_next_135 rfl (lv_at hl 2 rfl) ?_
    obtain ⟨r1, hr1, h⟩ := mCall_use h
    refine mc_Pi (va_runV (As := [.int x3]) (rest := []) S (c_X12_byteAt l D cA a_this a_refusals a_now a_tried a_text a_numbers a_shown a_ways a_yet a_afternoons a_pieces a_sizes a_alike a_forth a_back a_isKept a_kept v_this_above v_this_below v_this_byteMany v_this_tokenAt v_this_tokenEnd v_this_token v_this_value v_this_word v_this_hash f_text x3 hr1) (cwV 1 S.2.2.2.2 gX12_next_X12_byteAt rfl rfl rfl (by decide +kernel) ⟨Nat.le_of_ble_eq_true rfl, Nat.le_of_ble_eq_true rfl⟩) (pre_PV hK hP [0, 1] rfl (ci := 12) (q0 := 0) rfl rfl) rfl rfl hl.1 rfl (lv_room (Nat.le_of_ble_eq_true rfl)) dX12_next_136 ⟨Nat.le_of_ble_eq_true rfl, Nat.le_of_ble_eq_true rfl⟩) ?_
    refine lv_bipush (v := (48 : Int32)) S.1 S.2.1 dX12_next_139 (by decide) ?_
    refine lv_bipush (v := (57 : Int32)) S.1 S.2.1 dX12_next_141 (by decide) ?_
    obtain ⟨r2, hr2, h⟩ := mCall_use h
    refine mc_Pi (va_runS (As := [.int r1, .int (48 : Int32), .int (57 : Int32)]) (rest := []) S (c_X12_in l D cA r1 (48 : Int32) (57 : Int32) hr2) (va_cwS 3 S.2.2.2.2 gX12_next_X12_in rfl rfl rfl (by decide +kernel) ⟨Nat.le_of_ble_eq_true rfl, Nat.le_of_ble_eq_true rfl⟩) (pre_PS hK hP [] rfl) rfl rfl hl.1 rfl (lv_room (Nat.le_of_ble_eq_true rfl)) dX12_next_143 ⟨Nat.le_of_ble_eq_true rfl, Nat.le_of_ble_eq_true rfl⟩) ?_
    refine mi_if_eq (tgt := 189) S h dX12_next_146 (by decide) (fun h => ?_) (fun h => ?_)
    · refine lv_aload_n S.1 S.2.1 dX12_next_189 rfl (lv_at hl 0 rfl) ?_
      refine lv_iload_n S.1 S.2.1 dX12_next_190 rfl (lv_at hl 2 rfl) ?_
      refine lv_iload_n S.1 S.2.1 dX12_next_191 rfl (lv_at hl 1 rfl) ?_
      refine lv_isub S.1 S.2.1 dX12_next_192 ?_
      refine lv_iconst (v := (2 : Int32)) S.1 S.2.1 dX12_next_193 (by decide) ?_
      refine mi_icmp_le (tgt := 201) S h dX12_next_194 (by decide) (fun h => ?_) (fun h => ?_)
      · refine lv_iconst (v := (2 : Int32)) S.1 S.2.1 dX12_next_201 (by decide) ?_
        refine mi_put S hK hP hD hS in_X12_next_X12 tyX12_ok nmX12 0 rfl rfl 9 (by decide) lk_X12_next_108 rfl (v := .int (2 : Int32)) rfl rfl (Nat.le_of_ble_eq_true rfl) dX12_next_202 (fun H locs hP hD hS => ?_)
        have hP : va_P D vwCl [(a_this, .inr (12, [.ref a_refusals, .long v_this_above, .long v_this_below, .ref a_now, .ref a_tried, .int v_this_byteMany, .ref a_text, .int v_this_tokenAt, .int v_this_tokenEnd, .int (2 : Int32), .int v_this_value, .int v_this_word, .ref a_numbers, .ref a_shown, .ref a_ways, .ref a_yet, .ref a_afternoons, .ref a_pieces, .ref a_sizes, .ref a_alike, .ref a_forth, .ref a_back, .ref a_isKept, .ref a_kept, .long v_this_hash])), (a_text, .inl (cA 0, 150, .inl f_text))] H := hP
        have hD : va_D A [(a_this, .inr (12, [.ref a_refusals, .long v_this_above, .long v_this_below, .ref a_now, .ref a_tried, .int v_this_byteMany, .ref a_text, .int v_this_tokenAt, .int v_this_tokenEnd, .int (2 : Int32), .int v_this_value, .int v_this_word, .ref a_numbers, .ref a_shown, .ref a_ways, .ref a_yet, .ref a_afternoons, .ref a_pieces, .ref a_sizes, .ref a_alike, .ref a_forth, .ref a_back, .ref a_isKept, .ref a_kept, .long v_this_hash])), (a_text, .inl (cA 0, 150, .inl f_text))] := hD
        refine lv_goto (tgt := 213) S.1 S.2.1 dX12_next_205 (by decide) ?_
        refine lv_aload_n S.1 S.2.1 dX12_next_213 rfl (lv_at hl 0 rfl) ?_
        refine lv_iload_n S.1 S.2.1 dX12_next_214 rfl (lv_at hl 2 rfl) ?_
        refine mi_put S hK hP hD hS in_X12_next_X12 tyX12_ok nmX12 0 rfl rfl 8 (by decide) lk_X12_next_118 rfl (v := .int x3) rfl rfl (Nat.le_of_ble_eq_true rfl) dX12_next_215 (fun H locs hP hD hS => ?_)
        have hP : va_P D vwCl [(a_this, .inr (12, [.ref a_refusals, .long v_this_above, .long v_this_below, .ref a_now, .ref a_tried, .int v_this_byteMany, .ref a_text, .int v_this_tokenAt, .int x3, .int (2 : Int32), .int v_this_value, .int v_this_word, .ref a_numbers, .ref a_shown, .ref a_ways, .ref a_yet, .ref a_afternoons, .ref a_pieces, .ref a_sizes, .ref a_alike, .ref a_forth, .ref a_back, .ref a_isKept, .ref a_kept, .long v_this_hash])), (a_text, .inl (cA 0, 150, .inl f_text))] H := hP
        have hD : va_D A [(a_this, .inr (12, [.ref a_refusals, .long v_this_above, .long v_this_below, .ref a_now, .ref a_tried, .int v_this_byteMany, .ref a_text, .int v_this_tokenAt, .int x3, .int (2 : Int32), .int v_this_value, .int v_this_word, .ref a_numbers, .ref a_shown, .ref a_ways, .ref a_yet, .ref a_afternoons, .ref a_pieces, .ref a_sizes, .ref a_alike, .ref a_forth, .ref a_back, .ref a_isKept, .ref a_kept, .long v_this_hash])), (a_text, .inl (cA 0, 150, .inl f_text))] := hD
        cases h
        exact mi_vretE S hr hlk hP hD hS dX12_next_218
      · refine lv_iconst (v := (1 : Int32)) S.1 S.2.1 dX12_next_197 (by decide) ?_
        refine lv_goto (tgt := 202) S.1 S.2.1 dX12_next_198 (by decide) ?_
        refine mi_put S hK hP hD hS in_X12_next_X12 tyX12_ok nmX12 0 rfl rfl 9 (by decide) lk_X12_next_108 rfl (v := .int (1 : Int32)) rfl rfl (Nat.le_of_ble_eq_true rfl) dX12_next_202 (fun H locs hP hD hS => ?_)
        have hP : va_P D vwCl [(a_this, .inr (12, [.ref a_refusals, .long v_this_above, .long v_this_below, .ref a_now, .ref a_tried, .int v_this_byteMany, .ref a_text, .int v_this_tokenAt, .int v_this_tokenEnd, .int (1 : Int32), .int v_this_value, .int v_this_word, .ref a_numbers, .ref a_shown, .ref a_ways, .ref a_yet, .ref a_afternoons, .ref a_pieces, .ref a_sizes, .ref a_alike, .ref a_forth, .ref a_back, .ref a_isKept, .ref a_kept, .long v_this_hash])), (a_text, .inl (cA 0, 150, .inl f_text))] H := hP
        have hD : va_D A [(a_this, .inr (12, [.ref a_refusals, .long v_this_above, .long v_this_below, .ref a_now, .ref a_tried, .int v_this_byteMany, .ref a_text, .int v_this_tokenAt, .int v_this_tokenEnd, .int (1 : Int32), .int v_this_value, .int v_this_word, .ref a_numbers, .ref a_shown, .ref a_ways, .ref a_yet, .ref a_afternoons, .ref a_pieces, .ref a_sizes, .ref a_alike, .ref a_forth, .ref a_back, .ref a_isKept, .ref a_kept, .long v_this_hash])), (a_text, .inl (cA 0, 150, .inl f_text))] := hD
        refine lv_goto (tgt := 213) S.1 S.2.1 dX12_next_205 (by decide) ?_
        refine lv_aload_n S.1 S.2.1 dX12_next_213 rfl (lv_at hl 0 rfl) ?_
        refine lv_iload_n S.1 S.2.1 dX12_next_214 rfl (lv_at hl 2 rfl) ?_
        refine mi_put S hK hP hD hS in_X12_next_X12 tyX12_ok nmX12 0 rfl rfl 8 (by decide) lk_X12_next_118 rfl (v := .int x3) rfl rfl (Nat.le_of_ble_eq_true rfl) dX12_next_215 (fun H locs hP hD hS => ?_)
        have hP : va_P D vwCl [(a_this, .inr (12, [.ref a_refusals, .long v_this_above, .long v_this_below, .ref a_now, .ref a_tried, .int v_this_byteMany, .ref a_text, .int v_this_tokenAt, .int x3, .int (1 : Int32), .int v_this_value, .int v_this_word, .ref a_numbers, .ref a_shown, .ref a_ways, .ref a_yet, .ref a_afternoons, .ref a_pieces, .ref a_sizes, .ref a_alike, .ref a_forth, .ref a_back, .ref a_isKept, .ref a_kept, .long v_this_hash])), (a_text, .inl (cA 0, 150, .inl f_text))] H := hP
        have hD : va_D A [(a_this, .inr (12, [.ref a_refusals, .long v_this_above, .long v_this_below, .ref a_now, .ref a_tried, .int v_this_byteMany, .ref a_text, .int v_this_tokenAt, .int x3, .int (1 : Int32), .int v_this_value, .int v_this_word, .ref a_numbers, .ref a_shown, .ref a_ways, .ref a_yet, .ref a_afternoons, .ref a_pieces, .ref a_sizes, .ref a_alike, .ref a_forth, .ref a_back, .ref a_isKept, .ref a_kept, .long v_this_hash])), (a_text, .inl (cA 0, 150, .inl f_text))] := hD
        cases h
        exact mi_vretE S hr hlk hP hD hS dX12_next_218
    · refine lv_aload_n S.1 S.2.1 dX12_next_149 rfl (lv_at hl 0 rfl) ?_
      refine lv_iload_n S.1 S.2.1 dX12_next_150 rfl (lv_at hl 2 rfl) ?_
      refine lv_iload_n S.1 S.2.1 dX12_next_151 rfl (lv_at hl 1 rfl) ?_
      refine lv_isub S.1 S.2.1 dX12_next_152 ?_
      refine lv_iconst (v := (2 : Int32)) S.1 S.2.1 dX12_next_153 (by decide) ?_
      refine mi_icmp_ge (tgt := 176) S h dX12_next_154 (by decide) (fun h => ?_) (fun h => ?_)
      · refine lv_aload_n S.1 S.2.1 dX12_next_176 rfl (lv_at hl 0 rfl) ?_
        refine mi_get S hK hP in_X12_next_X12 0 rfl rfl 10 (by decide) lk_X12_next_115 rfl dX12_next_177 ?_
        refine mi_put S hK hP hD hS in_X12_next_X12 tyX12_ok nmX12 0 rfl rfl 10 (by decide) lk_X12_next_115 rfl (v := .int v_this_value) rfl rfl (Nat.le_of_ble_eq_true rfl) dX12_next_180 (fun H locs hP hD hS => ?_)
        have hP : va_P D vwCl [(a_this, .inr (12, [.ref a_refusals, .long v_this_above, .long v_this_below, .ref a_now, .ref a_tried, .int v_this_byteMany, .ref a_text, .int v_this_tokenAt, .int v_this_tokenEnd, .int v_this_token, .int v_this_value, .int v_this_word, .ref a_numbers, .ref a_shown, .ref a_ways, .ref a_yet, .ref a_afternoons, .ref a_pieces, .ref a_sizes, .ref a_alike, .ref a_forth, .ref a_back, .ref a_isKept, .ref a_kept, .long v_this_hash])), (a_text, .inl (cA 0, 150, .inl f_text))] H := hP
        have hD : va_D A [(a_this, .inr (12, [.ref a_refusals, .long v_this_above, .long v_this_below, .ref a_now, .ref a_tried, .int v_this_byteMany, .ref a_text, .int v_this_tokenAt, .int v_this_tokenEnd, .int v_this_token, .int v_this_value, .int v_this_word, .ref a_numbers, .ref a_shown, .ref a_ways, .ref a_yet, .ref a_afternoons, .ref a_pieces, .ref a_sizes, .ref a_alike, .ref a_forth, .ref a_back, .ref a_isKept, .ref a_kept, .long v_this_hash])), (a_text, .inl (cA 0, 150, .inl f_text))] := hD
        obtain ⟨t3, et3, h⟩ := mLet_use h
        refine lv_iinc (v := t3) (lv' := [(3, .int t3), (0, .ref a_this), (2, .int x2)]) S.1 S.2.1 dX12_next_183 hl (k := 2) rfl (by rw [et3]; rfl) (by decide) rfl (fun ls hl => ?_)
        clear et3
        refine lv_goto (tgt := 134) S.1 S.2.1 dX12_next_186 (by decide) ?_
        exact ih v_this_tokenAt v_this_tokenEnd v_this_token v_this_value x2 t3 h H locs ls hP hD hS (lv_sub hl [1, 2, 0] rfl)
      · refine lv_bipush (v := (10 : Int32)) S.1 S.2.1 dX12_next_157 (by decide) ?_
        refine lv_aload_n S.1 S.2.1 dX12_next_159 rfl (lv_at hl 0 rfl) ?_
        refine mi_get S hK hP in_X12_next_X12 0 rfl rfl 10 (by decide) lk_X12_next_115 rfl dX12_next_160 ?_
        refine lv_imul S.1 S.2.1 dX12_next_163 ?_
        refine lv_aload_n S.1 S.2.1 dX12_next_164 rfl (lv_at hl 0 rfl) ?_
        refine lv_iload_n S.1 S.2.1 dX12_next_165 rfl (lv_at hl 2 rfl) ?_
        obtain ⟨r4, hr4, h⟩ := mCall_use h
        refine mc_Pi (va_runV (As := [.int x3]) (rest := [.int ((10 : Int32) * v_this_value), .ref a_this]) S (c_X12_byteAt l D cA a_this a_refusals a_now a_tried a_text a_numbers a_shown a_ways a_yet a_afternoons a_pieces a_sizes a_alike a_forth a_back a_isKept a_kept v_this_above v_this_below v_this_byteMany v_this_tokenAt v_this_tokenEnd v_this_token v_this_value v_this_word v_this_hash f_text x3 hr4) (cwV 1 S.2.2.2.2 gX12_next_X12_byteAt rfl rfl rfl (by decide +kernel) ⟨Nat.le_of_ble_eq_true rfl, Nat.le_of_ble_eq_true rfl⟩) (pre_PV hK hP [0, 1] rfl (ci := 12) (q0 := 0) rfl rfl) rfl rfl hl.1 rfl (lv_room (Nat.le_of_ble_eq_true rfl)) dX12_next_166 ⟨Nat.le_of_ble_eq_true rfl, Nat.le_of_ble_eq_true rfl⟩) ?_
        refine lv_iadd S.1 S.2.1 dX12_next_169 ?_
        refine lv_bipush (v := (48 : Int32)) S.1 S.2.1 dX12_next_170 (by decide) ?_
        refine lv_isub S.1 S.2.1 dX12_next_172 ?_
        refine lv_goto (tgt := 180) S.1 S.2.1 dX12_next_173 (by decide) ?_
        refine mi_let h (fun t5 h => ?_)
        refine mi_put S hK hP hD hS in_X12_next_X12 tyX12_ok nmX12 0 rfl rfl 10 (by decide) lk_X12_next_115 rfl (v := .int t5) rfl rfl (Nat.le_of_ble_eq_true rfl) dX12_next_180 (fun H locs hP hD hS => ?_)
        have hP : va_P D vwCl [(a_this, .inr (12, [.ref a_refusals, .long v_this_above, .long v_this_below, .ref a_now, .ref a_tried, .int v_this_byteMany, .ref a_text, .int v_this_tokenAt, .int v_this_tokenEnd, .int v_this_token, .int t5, .int v_this_word, .ref a_numbers, .ref a_shown, .ref a_ways, .ref a_yet, .ref a_afternoons, .ref a_pieces, .ref a_sizes, .ref a_alike, .ref a_forth, .ref a_back, .ref a_isKept, .ref a_kept, .long v_this_hash])), (a_text, .inl (cA 0, 150, .inl f_text))] H := hP
        have hD : va_D A [(a_this, .inr (12, [.ref a_refusals, .long v_this_above, .long v_this_below, .ref a_now, .ref a_tried, .int v_this_byteMany, .ref a_text, .int v_this_tokenAt, .int v_this_tokenEnd, .int v_this_token, .int t5, .int v_this_word, .ref a_numbers, .ref a_shown, .ref a_ways, .ref a_yet, .ref a_afternoons, .ref a_pieces, .ref a_sizes, .ref a_alike, .ref a_forth, .ref a_back, .ref a_isKept, .ref a_kept, .long v_this_hash])), (a_text, .inl (cA 0, 150, .inl f_text))] := hD
        obtain ⟨t6, et6, h⟩ := mLet_use h
        refine lv_iinc (v := t6) (lv' := [(3, .int t6), (0, .ref a_this), (2, .int x2)]) S.1 S.2.1 dX12_next_183 hl (k := 2) rfl (by rw [et6]; rfl) (by decide) rfl (fun ls hl => ?_)
        clear et6
        refine lv_goto (tgt := 134) S.1 S.2.1 dX12_next_186 (by decide) ?_
        exact ih v_this_tokenAt v_this_tokenEnd v_this_token t5 x2 t6 h H locs ls hP hD hS (lv_sub hl [1, 2, 0] rfl)
set_option maxHeartbeats 4000000 in
set_option maxRecDepth 100000 in
theorem w_X12_next_2 {p : Program} {l : Launch} {e : Env} {s : State} {m : MethodId} {args : Array Value} {below : List Frame} {meth : Method} {c : Code} {D : va_G} {cA : Nat → ClassId} {A : Nat → Prop} {r : (Int32) × (Int32) × (Int32) × (Int32)} (S : CallFix p m c cX12_next 4 s args wsX12_next RX12) (hr : meth.sig.returnType = none) (hlk : meth.locks = false) (hK : gK D cA s) (hA : ∀ q : Nat, s.heap.size ≤ q → A q) (a_this a_refusals a_now a_tried a_text a_numbers a_shown a_ways a_yet a_afternoons a_pieces a_sizes a_alike a_forth a_back a_isKept a_kept : Nat) (v_this_above : Int64) (v_this_below : Int64) (v_this_byteMany : Int32) (v_this_word : Int32) (v_this_hash : Int64) (f_text : Nat → Int32) : ∀ (n : Nat) (v_this_tokenAt : Int32) (v_this_tokenEnd : Int32) (v_this_token : Int32) (v_this_value : Int32) (x2 : Int32), m_X12_next_L2 v_this_byteMany f_text n v_this_tokenAt v_this_tokenEnd v_this_token v_this_value x2 = some r → P_X12_next_2 p l e s m args below meth c D cA A r a_this a_refusals a_now a_tried a_text a_numbers a_shown a_ways a_yet a_afternoons a_pieces a_sizes a_alike a_forth a_back a_isKept a_kept v_this_above v_this_below v_this_byteMany v_this_tokenAt v_this_tokenEnd v_this_token v_this_value v_this_word v_this_hash f_text x2 := by
  intro n
  induction n with
  | zero =>
    intro v_this_tokenAt v_this_tokenEnd v_this_token v_this_value x2 h
    have h : none = some r := h
    cases h
  | succ n ih =>
    intro v_this_tokenAt v_this_tokenEnd v_this_token v_this_value x2 h
    intro H locs ls hP hD hS hl
    rw [m_X12_next_L2] at h
    refine lv_aload_n S.1 S.2.1 dX12_next_2 rfl (lv_at hl 0 rfl) ?_
    refine lv_iload_n S.1 S.2.1 dX12_next_3 rfl (lv_at hl 1 rfl) ?_
    obtain ⟨r1, hr1, h⟩ := mCall_use h
    refine mc_Pi (va_runV (As := [.int x2]) (rest := []) S (c_X12_byteAt l D cA a_this a_refusals a_now a_tried a_text a_numbers a_shown a_ways a_yet a_afternoons a_pieces a_sizes a_alike a_forth a_back a_isKept a_kept v_this_above v_this_below v_this_byteMany v_this_tokenAt v_this_tokenEnd v_this_token v_this_value v_this_word v_this_hash f_text x2 hr1) (cwV 1 S.2.2.2.2 gX12_next_X12_byteAt rfl rfl rfl (by decide +kernel) ⟨Nat.le_of_ble_eq_true rfl, Nat.le_of_ble_eq_true rfl⟩) (pre_PV hK hP [0, 1] rfl (ci := 12) (q0 := 0) rfl rfl) rfl rfl hl.1 rfl (lv_room (Nat.le_of_ble_eq_true rfl)) dX12_next_4 ⟨Nat.le_of_ble_eq_true rfl, Nat.le_of_ble_eq_true rfl⟩) ?_
    refine lv_bipush (v := (32 : Int32)) S.1 S.2.1 dX12_next_7 (by decide) ?_
    refine mi_icmp_ne (tgt := 18) S h dX12_next_9 (by decide) (fun h => ?_) (fun h => ?_)
    · refine lv_aload_n S.1 S.2.1 dX12_next_18 rfl (lv_at hl 0 rfl) ?_
      refine lv_iload_n S.1 S.2.1 dX12_next_19 rfl (lv_at hl 1 rfl) ?_
      refine mi_put S hK hP hD hS in_X12_next_X12 tyX12_ok nmX12 0 rfl rfl 7 (by decide) lk_X12_next_105 rfl (v := .int x2) rfl rfl (Nat.le_of_ble_eq_true rfl) dX12_next_20 (fun H locs hP hD hS => ?_)
      have hP : va_P D vwCl [(a_this, .inr (12, [.ref a_refusals, .long v_this_above, .long v_this_below, .ref a_now, .ref a_tried, .int v_this_byteMany, .ref a_text, .int x2, .int v_this_tokenEnd, .int v_this_token, .int v_this_value, .int v_this_word, .ref a_numbers, .ref a_shown, .ref a_ways, .ref a_yet, .ref a_afternoons, .ref a_pieces, .ref a_sizes, .ref a_alike, .ref a_forth, .ref a_back, .ref a_isKept, .ref a_kept, .long v_this_hash])), (a_text, .inl (cA 0, 150, .inl f_text))] H := hP
      have hD : va_D A [(a_this, .inr (12, [.ref a_refusals, .long v_this_above, .long v_this_below, .ref a_now, .ref a_tried, .int v_this_byteMany, .ref a_text, .int x2, .int v_this_tokenEnd, .int v_this_token, .int v_this_value, .int v_this_word, .ref a_numbers, .ref a_shown, .ref a_ways, .ref a_yet, .ref a_afternoons, .ref a_pieces, .ref a_sizes, .ref a_alike, .ref a_forth, .ref a_back, .ref a_isKept, .ref a_kept, .long v_this_hash])), (a_text, .inl (cA 0, 150, .inl f_text))] := hD
      refine lv_iload_n S.1 S.2.1 dX12_next_23 rfl (lv_at hl 1 rfl) ?_
      refine lv_istore_n (lv' := [(3, .int x2), (0, .ref a_this), (2, .int x2)]) S.1 S.2.1 dX12_next_24 rfl hl (by decide) rfl (fun ls hl => ?_)
      refine lv_aload_n S.1 S.2.1 dX12_next_25 rfl (lv_at hl 1 rfl) ?_
      refine lv_iload_n S.1 S.2.1 dX12_next_26 rfl (lv_at hl 2 rfl) ?_
      obtain ⟨r2, hr2, h⟩ := mCall_use h
      refine mc_Pi (va_runV (As := [.int x2]) (rest := []) S (c_X12_byteAt l D cA a_this a_refusals a_now a_tried a_text a_numbers a_shown a_ways a_yet a_afternoons a_pieces a_sizes a_alike a_forth a_back a_isKept a_kept v_this_above v_this_below v_this_byteMany x2 v_this_tokenEnd v_this_token v_this_value v_this_word v_this_hash f_text x2 hr2) (cwV 1 S.2.2.2.2 gX12_next_X12_byteAt rfl rfl rfl (by decide +kernel) ⟨Nat.le_of_ble_eq_true rfl, Nat.le_of_ble_eq_true rfl⟩) (pre_PV hK hP [0, 1] rfl (ci := 12) (q0 := 0) rfl rfl) rfl rfl hl.1 rfl (lv_room (Nat.le_of_ble_eq_true rfl)) dX12_next_27 ⟨Nat.le_of_ble_eq_true rfl, Nat.le_of_ble_eq_true rfl⟩) ?_
      refine mi_if_ge (tgt := 41) S h dX12_next_30 (by decide) (fun h => ?_) (fun h => ?_)
      · refine lv_aload_n S.1 S.2.1 dX12_next_41 rfl (lv_at hl 1 rfl) ?_
        refine lv_iload_n S.1 S.2.1 dX12_next_42 rfl (lv_at hl 2 rfl) ?_
        obtain ⟨r3, hr3, h⟩ := mCall_use h
        refine mc_Pi (va_runV (As := [.int x2]) (rest := []) S (c_X12_byteAt l D cA a_this a_refusals a_now a_tried a_text a_numbers a_shown a_ways a_yet a_afternoons a_pieces a_sizes a_alike a_forth a_back a_isKept a_kept v_this_above v_this_below v_this_byteMany x2 v_this_tokenEnd v_this_token v_this_value v_this_word v_this_hash f_text x2 hr3) (cwV 1 S.2.2.2.2 gX12_next_X12_byteAt rfl rfl rfl (by decide +kernel) ⟨Nat.le_of_ble_eq_true rfl, Nat.le_of_ble_eq_true rfl⟩) (pre_PV hK hP [0, 1] rfl (ci := 12) (q0 := 0) rfl rfl) rfl rfl hl.1 rfl (lv_room (Nat.le_of_ble_eq_true rfl)) dX12_next_43 ⟨Nat.le_of_ble_eq_true rfl, Nat.le_of_ble_eq_true rfl⟩) ?_
        refine lv_bipush (v := (59 : Int32)) S.1 S.2.1 dX12_next_46 (by decide) ?_
        refine mi_icmp_ne (tgt := 63) S h dX12_next_48 (by decide) (fun h => ?_) (fun h => ?_)
        · refine lv_aload_n S.1 S.2.1 dX12_next_63 rfl (lv_at hl 1 rfl) ?_
          refine lv_iload_n S.1 S.2.1 dX12_next_64 rfl (lv_at hl 2 rfl) ?_
          obtain ⟨r4, hr4, h⟩ := mCall_use h
          refine mc_Pi (va_runV (As := [.int x2]) (rest := []) S (c_X12_byteAt l D cA a_this a_refusals a_now a_tried a_text a_numbers a_shown a_ways a_yet a_afternoons a_pieces a_sizes a_alike a_forth a_back a_isKept a_kept v_this_above v_this_below v_this_byteMany x2 v_this_tokenEnd v_this_token v_this_value v_this_word v_this_hash f_text x2 hr4) (cwV 1 S.2.2.2.2 gX12_next_X12_byteAt rfl rfl rfl (by decide +kernel) ⟨Nat.le_of_ble_eq_true rfl, Nat.le_of_ble_eq_true rfl⟩) (pre_PV hK hP [0, 1] rfl (ci := 12) (q0 := 0) rfl rfl) rfl rfl hl.1 rfl (lv_room (Nat.le_of_ble_eq_true rfl)) dX12_next_65 ⟨Nat.le_of_ble_eq_true rfl, Nat.le_of_ble_eq_true rfl⟩) ?_
          refine lv_bipush (v := (97 : Int32)) S.1 S.2.1 dX12_next_68 (by decide) ?_
          refine lv_bipush (v := (122 : Int32)) S.1 S.2.1 dX12_next_70 (by decide) ?_
          obtain ⟨r5, hr5, h⟩ := mCall_use h
          refine mc_Pi (va_runS (As := [.int r4, .int (97 : Int32), .int (122 : Int32)]) (rest := []) S (c_X12_in l D cA r4 (97 : Int32) (122 : Int32) hr5) (va_cwS 3 S.2.2.2.2 gX12_next_X12_in rfl rfl rfl (by decide +kernel) ⟨Nat.le_of_ble_eq_true rfl, Nat.le_of_ble_eq_true rfl⟩) (pre_PS hK hP [] rfl) rfl rfl hl.1 rfl (lv_room (Nat.le_of_ble_eq_true rfl)) dX12_next_72 ⟨Nat.le_of_ble_eq_true rfl, Nat.le_of_ble_eq_true rfl⟩) ?_
          refine mi_if_eq (tgt := 114) S h dX12_next_75 (by decide) (fun h => ?_) (fun h => ?_)
          · refine lv_aload_n S.1 S.2.1 dX12_next_114 rfl (lv_at hl 1 rfl) ?_
            refine lv_iload_n S.1 S.2.1 dX12_next_115 rfl (lv_at hl 2 rfl) ?_
            obtain ⟨r6, hr6, h⟩ := mCall_use h
            refine mc_Pi (va_runV (As := [.int x2]) (rest := []) S (c_X12_byteAt l D cA a_this a_refusals a_now a_tried a_text a_numbers a_shown a_ways a_yet a_afternoons a_pieces a_sizes a_alike a_forth a_back a_isKept a_kept v_this_above v_this_below v_this_byteMany x2 v_this_tokenEnd v_this_token v_this_value v_this_word v_this_hash f_text x2 hr6) (cwV 1 S.2.2.2.2 gX12_next_X12_byteAt rfl rfl rfl (by decide +kernel) ⟨Nat.le_of_ble_eq_true rfl, Nat.le_of_ble_eq_true rfl⟩) (pre_PV hK hP [0, 1] rfl (ci := 12) (q0 := 0) rfl rfl) rfl rfl hl.1 rfl (lv_room (Nat.le_of_ble_eq_true rfl)) dX12_next_116 ⟨Nat.le_of_ble_eq_true rfl, Nat.le_of_ble_eq_true rfl⟩) ?_
            refine lv_bipush (v := (48 : Int32)) S.1 S.2.1 dX12_next_119 (by decide) ?_
            refine lv_bipush (v := (57 : Int32)) S.1 S.2.1 dX12_next_121 (by decide) ?_
            obtain ⟨r7, hr7, h⟩ := mCall_use h
            refine mc_Pi (va_runS (As := [.int r6, .int (48 : Int32), .int (57 : Int32)]) (rest := []) S (c_X12_in l D cA r6 (48 : Int32) (57 : Int32) hr7) (va_cwS 3 S.2.2.2.2 gX12_next_X12_in rfl rfl rfl (by decide +kernel) ⟨Nat.le_of_ble_eq_true rfl, Nat.le_of_ble_eq_true rfl⟩) (pre_PS hK hP [] rfl) rfl rfl hl.1 rfl (lv_room (Nat.le_of_ble_eq_true rfl)) dX12_next_123 ⟨Nat.le_of_ble_eq_true rfl, Nat.le_of_ble_eq_true rfl⟩) ?_
            refine mi_if_eq (tgt := 208) S h dX12_next_126 (by decide) (fun h => ?_) (fun h => ?_)
            · refine lv_aload_n S.1 S.2.1 dX12_next_208 rfl (lv_at hl 1 rfl) ?_
              refine lv_iconst (v := (1 : Int32)) S.1 S.2.1 dX12_next_209 (by decide) ?_
              refine mi_put S hK hP hD hS in_X12_next_X12 tyX12_ok nmX12 0 rfl rfl 9 (by decide) lk_X12_next_108 rfl (v := .int (1 : Int32)) rfl rfl (Nat.le_of_ble_eq_true rfl) dX12_next_210 (fun H locs hP hD hS => ?_)
              have hP : va_P D vwCl [(a_this, .inr (12, [.ref a_refusals, .long v_this_above, .long v_this_below, .ref a_now, .ref a_tried, .int v_this_byteMany, .ref a_text, .int x2, .int v_this_tokenEnd, .int (1 : Int32), .int v_this_value, .int v_this_word, .ref a_numbers, .ref a_shown, .ref a_ways, .ref a_yet, .ref a_afternoons, .ref a_pieces, .ref a_sizes, .ref a_alike, .ref a_forth, .ref a_back, .ref a_isKept, .ref a_kept, .long v_this_hash])), (a_text, .inl (cA 0, 150, .inl f_text))] H := hP
              have hD : va_D A [(a_this, .inr (12, [.ref a_refusals, .long v_this_above, .long v_this_below, .ref a_now, .ref a_tried, .int v_this_byteMany, .ref a_text, .int x2, .int v_this_tokenEnd, .int (1 : Int32), .int v_this_value, .int v_this_word, .ref a_numbers, .ref a_shown, .ref a_ways, .ref a_yet, .ref a_afternoons, .ref a_pieces, .ref a_sizes, .ref a_alike, .ref a_forth, .ref a_back, .ref a_isKept, .ref a_kept, .long v_this_hash])), (a_text, .inl (cA 0, 150, .inl f_text))] := hD
              refine lv_aload_n S.1 S.2.1 dX12_next_213 rfl (lv_at hl 1 rfl) ?_
              refine lv_iload_n S.1 S.2.1 dX12_next_214 rfl (lv_at hl 0 rfl) ?_
              refine mi_put S hK hP hD hS in_X12_next_X12 tyX12_ok nmX12 0 rfl rfl 8 (by decide) lk_X12_next_118 rfl (v := .int x2) rfl rfl (Nat.le_of_ble_eq_true rfl) dX12_next_215 (fun H locs hP hD hS => ?_)
              have hP : va_P D vwCl [(a_this, .inr (12, [.ref a_refusals, .long v_this_above, .long v_this_below, .ref a_now, .ref a_tried, .int v_this_byteMany, .ref a_text, .int x2, .int x2, .int (1 : Int32), .int v_this_value, .int v_this_word, .ref a_numbers, .ref a_shown, .ref a_ways, .ref a_yet, .ref a_afternoons, .ref a_pieces, .ref a_sizes, .ref a_alike, .ref a_forth, .ref a_back, .ref a_isKept, .ref a_kept, .long v_this_hash])), (a_text, .inl (cA 0, 150, .inl f_text))] H := hP
              have hD : va_D A [(a_this, .inr (12, [.ref a_refusals, .long v_this_above, .long v_this_below, .ref a_now, .ref a_tried, .int v_this_byteMany, .ref a_text, .int x2, .int x2, .int (1 : Int32), .int v_this_value, .int v_this_word, .ref a_numbers, .ref a_shown, .ref a_ways, .ref a_yet, .ref a_afternoons, .ref a_pieces, .ref a_sizes, .ref a_alike, .ref a_forth, .ref a_back, .ref a_isKept, .ref a_kept, .long v_this_hash])), (a_text, .inl (cA 0, 150, .inl f_text))] := hD
              cases h
              exact mi_vretE S hr hlk hP hD hS dX12_next_218
            · refine lv_aload_n S.1 S.2.1 dX12_next_129 rfl (lv_at hl 1 rfl) ?_
              refine lv_iconst (v := (0 : Int32)) S.1 S.2.1 dX12_next_130 (by decide) ?_
              refine mi_put S hK hP hD hS in_X12_next_X12 tyX12_ok nmX12 0 rfl rfl 10 (by decide) lk_X12_next_115 rfl (v := .int (0 : Int32)) rfl rfl (Nat.le_of_ble_eq_true rfl) dX12_next_131 (fun H locs hP hD hS => ?_)
              have hP : va_P D vwCl [(a_this, .inr (12, [.ref a_refusals, .long v_this_above, .long v_this_below, .ref a_now, .ref a_tried, .int v_this_byteMany, .ref a_text, .int x2, .int v_this_tokenEnd, .int v_this_token, .int (0 : Int32), .int v_this_word, .ref a_numbers, .ref a_shown, .ref a_ways, .ref a_yet, .ref a_afternoons, .ref a_pieces, .ref a_sizes, .ref a_alike, .ref a_forth, .ref a_back, .ref a_isKept, .ref a_kept, .long v_this_hash])), (a_text, .inl (cA 0, 150, .inl f_text))] H := hP
              have hD : va_D A [(a_this, .inr (12, [.ref a_refusals, .long v_this_above, .long v_this_below, .ref a_now, .ref a_tried, .int v_this_byteMany, .ref a_text, .int x2, .int v_this_tokenEnd, .int v_this_token, .int (0 : Int32), .int v_this_word, .ref a_numbers, .ref a_shown, .ref a_ways, .ref a_yet, .ref a_afternoons, .ref a_pieces, .ref a_sizes, .ref a_alike, .ref a_forth, .ref a_back, .ref a_isKept, .ref a_kept, .long v_this_hash])), (a_text, .inl (cA 0, 150, .inl f_text))] := hD
              exact w_X12_next_134 S hr hlk hK hA a_this a_refusals a_now a_tried a_text a_numbers a_shown a_ways a_yet a_afternoons a_pieces a_sizes a_alike a_forth a_back a_isKept a_kept v_this_above v_this_below v_this_byteMany v_this_word v_this_hash f_text mFU x2 v_this_tokenEnd v_this_token (0 : Int32) x2 x2 h H locs ls hP hD hS (lv_sub hl [1, 2, 0] rfl)
          · exact w_X12_next_78 S hr hlk hK hA a_this a_refusals a_now a_tried a_text a_numbers a_shown a_ways a_yet a_afternoons a_pieces a_sizes a_alike a_forth a_back a_isKept a_kept v_this_above v_this_below v_this_byteMany v_this_word v_this_hash f_text mFU x2 v_this_tokenEnd v_this_token v_this_value x2 x2 h H locs ls hP hD hS (lv_sub hl [1, 2, 0] rfl)
        · refine lv_aload_n S.1 S.2.1 dX12_next_51 rfl (lv_at hl 1 rfl) ?_
          refine lv_iconst (v := (3 : Int32)) S.1 S.2.1 dX12_next_52 (by decide) ?_
          refine mi_put S hK hP hD hS in_X12_next_X12 tyX12_ok nmX12 0 rfl rfl 9 (by decide) lk_X12_next_108 rfl (v := .int (3 : Int32)) rfl rfl (Nat.le_of_ble_eq_true rfl) dX12_next_53 (fun H locs hP hD hS => ?_)
          have hP : va_P D vwCl [(a_this, .inr (12, [.ref a_refusals, .long v_this_above, .long v_this_below, .ref a_now, .ref a_tried, .int v_this_byteMany, .ref a_text, .int x2, .int v_this_tokenEnd, .int (3 : Int32), .int v_this_value, .int v_this_word, .ref a_numbers, .ref a_shown, .ref a_ways, .ref a_yet, .ref a_afternoons, .ref a_pieces, .ref a_sizes, .ref a_alike, .ref a_forth, .ref a_back, .ref a_isKept, .ref a_kept, .long v_this_hash])), (a_text, .inl (cA 0, 150, .inl f_text))] H := hP
          have hD : va_D A [(a_this, .inr (12, [.ref a_refusals, .long v_this_above, .long v_this_below, .ref a_now, .ref a_tried, .int v_this_byteMany, .ref a_text, .int x2, .int v_this_tokenEnd, .int (3 : Int32), .int v_this_value, .int v_this_word, .ref a_numbers, .ref a_shown, .ref a_ways, .ref a_yet, .ref a_afternoons, .ref a_pieces, .ref a_sizes, .ref a_alike, .ref a_forth, .ref a_back, .ref a_isKept, .ref a_kept, .long v_this_hash])), (a_text, .inl (cA 0, 150, .inl f_text))] := hD
          refine lv_iload_n S.1 S.2.1 dX12_next_56 rfl (lv_at hl 2 rfl) ?_
          refine lv_iconst (v := (1 : Int32)) S.1 S.2.1 dX12_next_57 (by decide) ?_
          refine lv_iadd S.1 S.2.1 dX12_next_58 ?_
          refine mi_let h (fun t8 h => ?_)
          refine lv_istore_n (lv' := [(3, .int t8), (0, .ref a_this), (2, .int x2)]) S.1 S.2.1 dX12_next_59 rfl hl (by decide) rfl (fun ls hl => ?_)
          refine lv_goto (tgt := 213) S.1 S.2.1 dX12_next_60 (by decide) ?_
          refine lv_aload_n S.1 S.2.1 dX12_next_213 rfl (lv_at hl 1 rfl) ?_
          refine lv_iload_n S.1 S.2.1 dX12_next_214 rfl (lv_at hl 0 rfl) ?_
          refine mi_put S hK hP hD hS in_X12_next_X12 tyX12_ok nmX12 0 rfl rfl 8 (by decide) lk_X12_next_118 rfl (v := .int t8) rfl rfl (Nat.le_of_ble_eq_true rfl) dX12_next_215 (fun H locs hP hD hS => ?_)
          have hP : va_P D vwCl [(a_this, .inr (12, [.ref a_refusals, .long v_this_above, .long v_this_below, .ref a_now, .ref a_tried, .int v_this_byteMany, .ref a_text, .int x2, .int t8, .int (3 : Int32), .int v_this_value, .int v_this_word, .ref a_numbers, .ref a_shown, .ref a_ways, .ref a_yet, .ref a_afternoons, .ref a_pieces, .ref a_sizes, .ref a_alike, .ref a_forth, .ref a_back, .ref a_isKept, .ref a_kept, .long v_this_hash])), (a_text, .inl (cA 0, 150, .inl f_text))] H := hP
          have hD : va_D A [(a_this, .inr (12, [.ref a_refusals, .long v_this_above, .long v_this_below, .ref a_now, .ref a_tried, .int v_this_byteMany, .ref a_text, .int x2, .int t8, .int (3 : Int32), .int v_this_value, .int v_this_word, .ref a_numbers, .ref a_shown, .ref a_ways, .ref a_yet, .ref a_afternoons, .ref a_pieces, .ref a_sizes, .ref a_alike, .ref a_forth, .ref a_back, .ref a_isKept, .ref a_kept, .long v_this_hash])), (a_text, .inl (cA 0, 150, .inl f_text))] := hD
          cases h
          exact mi_vretE S hr hlk hP hD hS dX12_next_218
      · refine lv_aload_n S.1 S.2.1 dX12_next_33 rfl (lv_at hl 1 rfl) ?_
        refine lv_iconst (v := (0 : Int32)) S.1 S.2.1 dX12_next_34 (by decide) ?_
        refine mi_put S hK hP hD hS in_X12_next_X12 tyX12_ok nmX12 0 rfl rfl 9 (by decide) lk_X12_next_108 rfl (v := .int (0 : Int32)) rfl rfl (Nat.le_of_ble_eq_true rfl) dX12_next_35 (fun H locs hP hD hS => ?_)
        have hP : va_P D vwCl [(a_this, .inr (12, [.ref a_refusals, .long v_this_above, .long v_this_below, .ref a_now, .ref a_tried, .int v_this_byteMany, .ref a_text, .int x2, .int v_this_tokenEnd, .int (0 : Int32), .int v_this_value, .int v_this_word, .ref a_numbers, .ref a_shown, .ref a_ways, .ref a_yet, .ref a_afternoons, .ref a_pieces, .ref a_sizes, .ref a_alike, .ref a_forth, .ref a_back, .ref a_isKept, .ref a_kept, .long v_this_hash])), (a_text, .inl (cA 0, 150, .inl f_text))] H := hP
        have hD : va_D A [(a_this, .inr (12, [.ref a_refusals, .long v_this_above, .long v_this_below, .ref a_now, .ref a_tried, .int v_this_byteMany, .ref a_text, .int x2, .int v_this_tokenEnd, .int (0 : Int32), .int v_this_value, .int v_this_word, .ref a_numbers, .ref a_shown, .ref a_ways, .ref a_yet, .ref a_afternoons, .ref a_pieces, .ref a_sizes, .ref a_alike, .ref a_forth, .ref a_back, .ref a_isKept, .ref a_kept, .long v_this_hash])), (a_text, .inl (cA 0, 150, .inl f_text))] := hD
        refine lv_goto (tgt := 213) S.1 S.2.1 dX12_next_38 (by decide) ?_
        refine lv_aload_n S.1 S.2.1 dX12_next_213 rfl (lv_at hl 1 rfl) ?_
        refine lv_iload_n S.1 S.2.1 dX12_next_214 rfl (lv_at hl 0 rfl) ?_
        refine mi_put S hK hP hD hS in_X12_next_X12 tyX12_ok nmX12 0 rfl rfl 8 (by decide) lk_X12_next_118 rfl (v := .int x2) rfl rfl (Nat.le_of_ble_eq_true rfl) dX12_next_215 (fun H locs hP hD hS => ?_)
        have hP : va_P D vwCl [(a_this, .inr (12, [.ref a_refusals, .long v_this_above, .long v_this_below, .ref a_now, .ref a_tried, .int v_this_byteMany, .ref a_text, .int x2, .int x2, .int (0 : Int32), .int v_this_value, .int v_this_word, .ref a_numbers, .ref a_shown, .ref a_ways, .ref a_yet, .ref a_afternoons, .ref a_pieces, .ref a_sizes, .ref a_alike, .ref a_forth, .ref a_back, .ref a_isKept, .ref a_kept, .long v_this_hash])), (a_text, .inl (cA 0, 150, .inl f_text))] H := hP
        have hD : va_D A [(a_this, .inr (12, [.ref a_refusals, .long v_this_above, .long v_this_below, .ref a_now, .ref a_tried, .int v_this_byteMany, .ref a_text, .int x2, .int x2, .int (0 : Int32), .int v_this_value, .int v_this_word, .ref a_numbers, .ref a_shown, .ref a_ways, .ref a_yet, .ref a_afternoons, .ref a_pieces, .ref a_sizes, .ref a_alike, .ref a_forth, .ref a_back, .ref a_isKept, .ref a_kept, .long v_this_hash])), (a_text, .inl (cA 0, 150, .inl f_text))] := hD
        cases h
        exact mi_vretE S hr hlk hP hD hS dX12_next_218
    · obtain ⟨t9, et9, h⟩ := mLet_use h
      refine lv_iinc (v := t9) (lv' := [(2, .int t9), (0, .ref a_this)]) S.1 S.2.1 dX12_next_12 hl (k := 1) rfl (by rw [et9]; rfl) (by decide) rfl (fun ls hl => ?_)
      clear et9
      refine lv_goto (tgt := 2) S.1 S.2.1 dX12_next_15 (by decide) ?_
      exact ih v_this_tokenAt v_this_tokenEnd v_this_token v_this_value t9 h H locs ls hP hD hS (lv_sub hl [1, 0] rfl)
set_option maxHeartbeats 4000000 in
set_option maxRecDepth 100000 in
theorem w_X12_next_0 {p : Program} {l : Launch} {e : Env} {s : State} {m : MethodId} {args : Array Value} {below : List Frame} {meth : Method} {c : Code} {D : va_G} {cA : Nat → ClassId} {A : Nat → Prop} {r : (Int32) × (Int32) × (Int32) × (Int32)} (S : CallFix p m c cX12_next 4 s args wsX12_next RX12) (hr : meth.sig.returnType = none) (hlk : meth.locks = false) (hK : gK D cA s) (hA : ∀ q : Nat, s.heap.size ≤ q → A q) (a_this a_refusals a_now a_tried a_text a_numbers a_shown a_ways a_yet a_afternoons a_pieces a_sizes a_alike a_forth a_back a_isKept a_kept : Nat) (v_this_above : Int64) (v_this_below : Int64) (v_this_byteMany : Int32) (v_this_word : Int32) (v_this_hash : Int64) (f_text : Nat → Int32) (v_this_tokenAt : Int32) (v_this_tokenEnd : Int32) (v_this_token : Int32) (v_this_value : Int32) (x1 : Int32) (h : m_X12_next v_this_byteMany v_this_tokenAt v_this_tokenEnd v_this_token v_this_value f_text x1 = some r) : P_X12_next_0 p l e s m args below meth c D cA A r a_this a_refusals a_now a_tried a_text a_numbers a_shown a_ways a_yet a_afternoons a_pieces a_sizes a_alike a_forth a_back a_isKept a_kept v_this_above v_this_below v_this_byteMany v_this_tokenAt v_this_tokenEnd v_this_token v_this_value v_this_word v_this_hash f_text x1 := by
  intro H locs ls hP hD hS hl
  unfold m_X12_next at h
  refine lv_iload_n S.1 S.2.1 dX12_next_0 rfl (lv_at hl 1 rfl) ?_
  refine lv_istore_n (lv' := [(2, .int x1), (0, .ref a_this), (1, .int x1)]) S.1 S.2.1 dX12_next_1 rfl hl (by decide) rfl (fun ls hl => ?_)
  exact w_X12_next_2 S hr hlk hK hA a_this a_refusals a_now a_tried a_text a_numbers a_shown a_ways a_yet a_afternoons a_pieces a_sizes a_alike a_forth a_back a_isKept a_kept v_this_above v_this_below v_this_byteMany v_this_word v_this_hash f_text mFU v_this_tokenAt v_this_tokenEnd v_this_token v_this_value x1 h H locs ls hP hD hS (lv_sub hl [1, 0] rfl)
set_option maxHeartbeats 4000000 in
set_option maxRecDepth 100000 in
theorem c_X12_next (l : Launch) (D : va_G) (cA : Nat → ClassId) (a_this a_refusals a_now a_tried a_text a_numbers a_shown a_ways a_yet a_afternoons a_pieces a_sizes a_alike a_forth a_back a_isKept a_kept : Nat) (v_this_above : Int64) (v_this_below : Int64) (v_this_byteMany : Int32) (v_this_tokenAt : Int32) (v_this_tokenEnd : Int32) (v_this_token : Int32) (v_this_value : Int32) (v_this_word : Int32) (v_this_hash : Int64) (f_text : Nat → Int32) (x1 : Int32) {r : (Int32) × (Int32) × (Int32) × (Int32)} (h : m_X12_next v_this_byteMany v_this_tokenAt v_this_tokenEnd v_this_token v_this_value f_text x1 = some r) : MEv l yX12_next wsX12_next { frames := 3, cells := 0, slots := 0, locals := 71 } D cA [.ref a_this, .int x1] [(a_this, .inr (12, [.ref a_refusals, .long v_this_above, .long v_this_below, .ref a_now, .ref a_tried, .int v_this_byteMany, .ref a_text, .int v_this_tokenAt, .int v_this_tokenEnd, .int v_this_token, .int v_this_value, .int v_this_word, .ref a_numbers, .ref a_shown, .ref a_ways, .ref a_yet, .ref a_afternoons, .ref a_pieces, .ref a_sizes, .ref a_alike, .ref a_forth, .ref a_back, .ref a_isKept, .ref a_kept, .long v_this_hash])), (a_text, .inl (cA 0, 150, .inl f_text))] [(a_this, .inr (12, [.ref a_refusals, .long v_this_above, .long v_this_below, .ref a_now, .ref a_tried, .int v_this_byteMany, .ref a_text, .int r.1, .int r.2.1, .int r.2.2.1, .int r.2.2.2, .int v_this_word, .ref a_numbers, .ref a_shown, .ref a_ways, .ref a_yet, .ref a_afternoons, .ref a_pieces, .ref a_sizes, .ref a_alike, .ref a_forth, .ref a_back, .ref a_isKept, .ref a_kept, .long v_this_hash])), (a_text, .inl (cA 0, 150, .inl f_text))] := by
  refine mE_of (cc := cX12_next) (maxL := 4) (ret := none) (Qc := fun A => va_Qv (fun (_ : Unit) => True) (gPost D A [(a_this, .inr (12, [.ref a_refusals, .long v_this_above, .long v_this_below, .ref a_now, .ref a_tried, .int v_this_byteMany, .ref a_text, .int r.1, .int r.2.1, .int r.2.2.1, .int r.2.2.2, .int v_this_word, .ref a_numbers, .ref a_shown, .ref a_ways, .ref a_yet, .ref a_afternoons, .ref a_pieces, .ref a_sizes, .ref a_alike, .ref a_forth, .ref a_back, .ref a_isKept, .ref a_kept, .long v_this_hash])), (a_text, .inl (cA 0, 150, .inl f_text))]) A) (by decide) rfl (Nat.le_of_ble_eq_true rfl) ?_
  intro p e s m below meth c A S hr hlk hK hA hP hD hS ls hl
  exact w_X12_next_0 S hr hlk hK hA a_this a_refusals a_now a_tried a_text a_numbers a_shown a_ways a_yet a_afternoons a_pieces a_sizes a_alike a_forth a_back a_isKept a_kept v_this_above v_this_below v_this_byteMany v_this_word v_this_hash f_text v_this_tokenAt v_this_tokenEnd v_this_token v_this_value x1 h s.heap [] ls hP hD hS (lv_sub hl [0, 1] rfl)
