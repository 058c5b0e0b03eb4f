-- X6_wholeWithin
theorem lm_X6_wholeWithin_122 : Cond.methodLink RX6 122 Lib.Math.max.name ∈ wsX6_wholeWithin := by decide +kernel
theorem ls_X6_wholeWithin_122 : Cond.static Lib.Math.max.name ∈ wsX6_wholeWithin := by decide +kernel
theorem li_X6_wholeWithin_122 : Cond.initialized "java/lang/Math" ∈ wsX6_wholeWithin := by decide +kernel
theorem lo_X6_wholeWithin_122 : Cond.code Lib.Math.max.name Lib.Math.max.code 2 (some .int) ∈ wsX6_wholeWithin := by decide +kernel
def m_X6_wholeWithin_B82 (f_p0 : Nat → Int32) (k12 : Int32 → Int32 → Int32 → Int32 → Option (Int32)) (x2 : Int32) (x3 : Int32) (x4 : Int32) (x5 : Int32) (s0 : Int32) : Option (Int32) := if x4 = 0 then mLet (x5 + (1 : Int32)) (fun (t1 : Int32) => k12 x2 x3 x4 t1) else if s0 = 0 then mLet (x5 + (1 : Int32)) (fun (t2 : Int32) => k12 x2 x3 x4 t2) else mLet (x3 + (1 : Int32)) (fun (t3 : Int32) => mLet (x5 + (1 : Int32)) (fun (t4 : Int32) => k12 x2 t3 x4 t4))
def m_X6_wholeWithin_B77 (f_p0 : Nat → Int32) (k12 : Int32 → Int32 → Int32 → Int32 → Option (Int32)) (x2 : Int32) (x3 : Int32) (x4 : Int32) (x5 : Int32) : Option (Int32) := m_X6_wholeWithin_B82 f_p0 k12 x2 x3 x4 x5 (1 : Int32)
def m_X6_wholeWithin_B53 (f_p0 : Nat → Int32) (k12 : Int32 → Int32 → Int32 → Int32 → Option (Int32)) (x2 : Int32) (x3 : Int32) (x5 : Int32) (s0 : Int32) : Option (Int32) := if (12 : Int32) ≤ (x5 + (1 : Int32)) then m_X6_wholeWithin_B77 f_p0 k12 x2 x3 s0 x5 else mRd f_p0 12 x5 (fun (t1 : Int32) => mRd f_p0 12 (x5 + (1 : Int32)) (fun (t2 : Int32) => if t1 = t2 then m_X6_wholeWithin_B82 f_p0 k12 x2 x3 s0 x5 (0 : Int32) else m_X6_wholeWithin_B77 f_p0 k12 x2 x3 s0 x5))
def m_X6_wholeWithin_B48 (f_p0 : Nat → Int32) (k12 : Int32 → Int32 → Int32 → Int32 → Option (Int32)) (x2 : Int32) (x3 : Int32) (x5 : Int32) : Option (Int32) := m_X6_wholeWithin_B53 f_p0 k12 x2 x3 x5 (1 : Int32)
def m_X6_wholeWithin_L12 (f_p0 : Nat → Int32) : Nat → Int32 → Int32 → Int32 → Int32 → Option (Int32)
  | 0, _, _, _, _ => none
  | n + 1, x2, x3, x4, x5 => if x2 ≤ x5 then some x3 else if (12 : Int32) ≤ x5 then some x3 else if x4 = 0 then if x5 = 0 then m_X6_wholeWithin_B48 f_p0 (m_X6_wholeWithin_L12 f_p0 n) x2 x3 x5 else mRd f_p0 12 x5 (fun (t1 : Int32) => mRd f_p0 12 (x5 - (1 : Int32)) (fun (t2 : Int32) => if t1 = t2 then m_X6_wholeWithin_B53 f_p0 (m_X6_wholeWithin_L12 f_p0 n) x2 x3 x5 (0 : Int32) else m_X6_wholeWithin_B48 f_p0 (m_X6_wholeWithin_L12 f_p0 n) x2 x3 x5)) else m_X6_wholeWithin_B48 f_p0 (m_X6_wholeWithin_L12 f_p0 n) x2 x3 x5
def m_X6_wholeWithin (f_p0 : Nat → Int32) (x1 : Int32) (x2 : Int32) : Option (Int32) := mLet (if x1 < (0 : Int32) then (0 : Int32) else x1) (fun (t1 : Int32) => m_X6_wholeWithin_L12 f_p0 mFU x2 (0 : Int32) (0 : Int32) t1)
def P_X6_wholeWithin_82 (p : Program) (l : Launch) (e : Env) (s : State) (m : MethodId) (args : Array Value) (below : List Frame) (meth : Method) (c : Code) (D : va_G) (cA : Nat → ClassId) (r : Int32) (a_p0 : Nat) (f_p0 : Nat → Int32) (x2 : Int32) (x3 : Int32) (x4 : Int32) (x5 : Int32) (s0 : Int32) : Prop := va_P D vwCl [(a_p0, .inl (cA 0, 12, .inl f_p0))] s.heap → ∀ ls : Array Slot, lv_has ls 7 [(0, .ref a_p0), (2, .int x2), (3, .int x3), (4, .int x4), (5, .int x5)] → W p l e { frames := 1, cells := 0, slots := 0, locals := 21 } s m args below meth c s.heap [] 0 0 (MQ below (vp_Si (fun y => y = r)) args s 0 0 (fun _ => False)) (F0 m 82 ls [.int s0])
def P_X6_wholeWithin_77 (p : Program) (l : Launch) (e : Env) (s : State) (m : MethodId) (args : Array Value) (below : List Frame) (meth : Method) (c : Code) (D : va_G) (cA : Nat → ClassId) (r : Int32) (a_p0 : Nat) (f_p0 : Nat → Int32) (x2 : Int32) (x3 : Int32) (x4 : Int32) (x5 : Int32) : Prop := va_P D vwCl [(a_p0, .inl (cA 0, 12, .inl f_p0))] s.heap → ∀ ls : Array Slot, lv_has ls 7 [(0, .ref a_p0), (2, .int x2), (3, .int x3), (4, .int x4), (5, .int x5)] → W p l e { frames := 1, cells := 0, slots := 0, locals := 21 } s m args below meth c s.heap [] 0 0 (MQ below (vp_Si (fun y => y = r)) args s 0 0 (fun _ => False)) (F0 m 77 ls [])
def P_X6_wholeWithin_53 (p : Program) (l : Launch) (e : Env) (s : State) (m : MethodId) (args : Array Value) (below : List Frame) (meth : Method) (c : Code) (D : va_G) (cA : Nat → ClassId) (r : Int32) (a_p0 : Nat) (f_p0 : Nat → Int32) (x2 : Int32) (x3 : Int32) (x5 : Int32) (s0 : Int32) : Prop := va_P D vwCl [(a_p0, .inl (cA 0, 12, .inl f_p0))] s.heap → ∀ ls : Array Slot, lv_has ls 7 [(0, .ref a_p0), (2, .int x2), (3, .int x3), (5, .int x5)] → W p l e { frames := 1, cells := 0, slots := 0, locals := 21 } s m args below meth c s.heap [] 0 0 (MQ below (vp_Si (fun y => y = r)) args s 0 0 (fun _ => False)) (F0 m 53 ls [.int s0])
def P_X6_wholeWithin_48 (p : Program) (l : Launch) (e : Env) (s : State) (m : MethodId) (args : Array Value) (below : List Frame) (meth : Method) (c : Code) (D : va_G) (cA : Nat → ClassId) (r : Int32) (a_p0 : Nat) (f_p0 : Nat → Int32) (x2 : Int32) (x3 : Int32) (x5 : Int32) : Prop := va_P D vwCl [(a_p0, .inl (cA 0, 12, .inl f_p0))] s.heap → ∀ ls : Array Slot, lv_has ls 7 [(0, .ref a_p0), (2, .int x2), (3, .int x3), (5, .int x5)] → W p l e { frames := 1, cells := 0, slots := 0, locals := 21 } s m args below meth c s.heap [] 0 0 (MQ below (vp_Si (fun y => y = r)) args s 0 0 (fun _ => False)) (F0 m 48 ls [])
def P_X6_wholeWithin_12 (p : Program) (l : Launch) (e : Env) (s : State) (m : MethodId) (args : Array Value) (below : List Frame) (meth : Method) (c : Code) (D : va_G) (cA : Nat → ClassId) (r : Int32) (a_p0 : Nat) (f_p0 : Nat → Int32) (x2 : Int32) (x3 : Int32) (x4 : Int32) (x5 : Int32) : Prop := va_P D vwCl [(a_p0, .inl (cA 0, 12, .inl f_p0))] s.heap → ∀ ls : Array Slot, lv_has ls 7 [(0, .ref a_p0), (2, .int x2), (3, .int x3), (4, .int x4), (5, .int x5)] → W p l e { frames := 1, cells := 0, slots := 0, locals := 21 } s m args below meth c s.heap [] 0 0 (MQ below (vp_Si (fun y => y = r)) args s 0 0 (fun _ => False)) (F0 m 12 ls [])
def P_X6_wholeWithin_0 (p : Program) (l : Launch) (e : Env) (s : State) (m : MethodId) (args : Array Value) (below : List Frame) (meth : Method) (c : Code) (D : va_G) (cA : Nat → ClassId) (r : Int32) (a_p0 : Nat) (f_p0 : Nat → Int32) (x1 : Int32) (x2 : Int32) : Prop := va_P D vwCl [(a_p0, .inl (cA 0, 12, .inl f_p0))] s.heap → ∀ ls : Array Slot, lv_has ls 7 [(0, .ref a_p0), (1, .int x1), (2, .int x2)] → W p l e { frames := 1, cells := 0, slots := 0, locals := 21 } s m args below meth c s.heap [] 0 0 (MQ below (vp_Si (fun y => y = r)) args s 0 0 (fun _ => False)) (F0 m 0 ls [])
set_option maxHeartbeats 4000000 in
set_option maxRecDepth 100000 in
theorem w_X6_wholeWithin_82 {p : Program} {l : Launch} {e : Env} {s : State} {m : MethodId} {args : Array Value} {below : List Frame} {meth : Method} {c : Code} {D : va_G} {cA : Nat → ClassId} {r : Int32} (S : CallFix p m c cX6_wholeWithin 7 s args wsX6_wholeWithin RX6) (hr : meth.sig.returnType = some .int) (hlk : meth.locks = false) (hK : gK D cA s) (a_p0 : Nat) (f_p0 : Nat → Int32) {k12 : Int32 → Int32 → Int32 → Int32 → Option (Int32)} (hk12 : ∀ (x2 : Int32) (x3 : Int32) (x4 : Int32) (x5 : Int32), k12 x2 x3 x4 x5 = some r → P_X6_wholeWithin_12 p l e s m args below meth c D cA r a_p0 f_p0 x2 x3 x4 x5) (x2 : Int32) (x3 : Int32) (x4 : Int32) (x5 : Int32) (s0 : Int32) (h : m_X6_wholeWithin_B82 f_p0 k12 x2 x3 x4 x5 s0 = some r) : P_X6_wholeWithin_82 p l e s m args below meth c D cA r a_p0 f_p0 x2 x3 x4 x5 s0 := by
  intro hP ls hl
  unfold m_X6_wholeWithin_B82 at h
  refine lv_istore (lv' := [(6, .int s0), (0, .ref a_p0), (2, .int x2), (3, .int x3), (4, .int x4), (5, .int x5)]) S.1 S.2.1 dX6_wholeWithin_82 hl (by decide) rfl (fun ls hl => ?_)
  refine lv_iload S.1 S.2.1 dX6_wholeWithin_84 (lv_at hl 4 rfl) ?_
  refine mi_if_eq (tgt := 97) S h dX6_wholeWithin_86 (by decide) (fun h => ?_) (fun h => ?_)
  · obtain ⟨t1, et1, h⟩ := mLet_use h
    refine lv_iinc (v := t1) (lv' := [(5, .int t1), (6, .int s0), (0, .ref a_p0), (2, .int x2), (3, .int x3), (4, .int x4)]) S.1 S.2.1 dX6_wholeWithin_97 hl (k := 5) rfl (by rw [et1]; rfl) (by decide) rfl (fun ls hl => ?_)
    clear et1
    refine lv_goto (tgt := 12) S.1 S.2.1 dX6_wholeWithin_100 (by decide) ?_
    exact hk12 x2 x3 x4 t1 h hP ls (lv_sub hl [2, 3, 4, 5, 0] rfl)
  · refine lv_iload S.1 S.2.1 dX6_wholeWithin_89 (lv_at hl 0 rfl) ?_
    refine mi_if_eq (tgt := 97) S h dX6_wholeWithin_91 (by decide) (fun h => ?_) (fun h => ?_)
    · obtain ⟨t2, et2, h⟩ := mLet_use h
      refine lv_iinc (v := t2) (lv' := [(5, .int t2), (6, .int s0), (0, .ref a_p0), (2, .int x2), (3, .int x3), (4, .int x4)]) S.1 S.2.1 dX6_wholeWithin_97 hl (k := 5) rfl (by rw [et2]; rfl) (by decide) rfl (fun ls hl => ?_)
      clear et2
      refine lv_goto (tgt := 12) S.1 S.2.1 dX6_wholeWithin_100 (by decide) ?_
      exact hk12 x2 x3 x4 t2 h hP ls (lv_sub hl [2, 3, 4, 5, 0] rfl)
    · obtain ⟨t3, et3, h⟩ := mLet_use h
      refine lv_iinc (v := t3) (lv' := [(3, .int t3), (6, .int s0), (0, .ref a_p0), (2, .int x2), (4, .int x4), (5, .int x5)]) S.1 S.2.1 dX6_wholeWithin_94 hl (k := 3) rfl (by rw [et3]; rfl) (by decide) rfl (fun ls hl => ?_)
      clear et3
      obtain ⟨t4, et4, h⟩ := mLet_use h
      refine lv_iinc (v := t4) (lv' := [(5, .int t4), (3, .int t3), (6, .int s0), (0, .ref a_p0), (2, .int x2), (4, .int x4)]) S.1 S.2.1 dX6_wholeWithin_97 hl (k := 5) rfl (by rw [et4]; rfl) (by decide) rfl (fun ls hl => ?_)
      clear et4
      refine lv_goto (tgt := 12) S.1 S.2.1 dX6_wholeWithin_100 (by decide) ?_
      exact hk12 x2 t3 x4 t4 h hP ls (lv_sub hl [3, 4, 1, 5, 0] rfl)
set_option maxHeartbeats 4000000 in
set_option maxRecDepth 100000 in
theorem w_X6_wholeWithin_77 {p : Program} {l : Launch} {e : Env} {s : State} {m : MethodId} {args : Array Value} {below : List Frame} {meth : Method} {c : Code} {D : va_G} {cA : Nat → ClassId} {r : Int32} (S : CallFix p m c cX6_wholeWithin 7 s args wsX6_wholeWithin RX6) (hr : meth.sig.returnType = some .int) (hlk : meth.locks = false) (hK : gK D cA s) (a_p0 : Nat) (f_p0 : Nat → Int32) {k12 : Int32 → Int32 → Int32 → Int32 → Option (Int32)} (hk12 : ∀ (x2 : Int32) (x3 : Int32) (x4 : Int32) (x5 : Int32), k12 x2 x3 x4 x5 = some r → P_X6_wholeWithin_12 p l e s m args below meth c D cA r a_p0 f_p0 x2 x3 x4 x5) (x2 : Int32) (x3 : Int32) (x4 : Int32) (x5 : Int32) (h : m_X6_wholeWithin_B77 f_p0 k12 x2 x3 x4 x5 = some r) : P_X6_wholeWithin_77 p l e s m args below meth c D cA r a_p0 f_p0 x2 x3 x4 x5 := by
  intro hP ls hl
  unfold m_X6_wholeWithin_B77 at h
  refine lv_iconst (v := (1 : Int32)) S.1 S.2.1 dX6_wholeWithin_77 (by decide) ?_
  refine lv_goto (tgt := 82) S.1 S.2.1 dX6_wholeWithin_78 (by decide) ?_
  exact w_X6_wholeWithin_82 S hr hlk hK a_p0 f_p0 hk12 x2 x3 x4 x5 (1 : Int32) h hP ls (lv_sub hl [0, 1, 2, 3, 4] rfl)
set_option maxHeartbeats 4000000 in
set_option maxRecDepth 100000 in
theorem w_X6_wholeWithin_53 {p : Program} {l : Launch} {e : Env} {s : State} {m : MethodId} {args : Array Value} {below : List Frame} {meth : Method} {c : Code} {D : va_G} {cA : Nat → ClassId} {r : Int32} (S : CallFix p m c cX6_wholeWithin 7 s args wsX6_wholeWithin RX6) (hr : meth.sig.returnType = some .int) (hlk : meth.locks = false) (hK : gK D cA s) (a_p0 : Nat) (f_p0 : Nat → Int32) {k12 : Int32 → Int32 → Int32 → Int32 → Option (Int32)} (hk12 : ∀ (x2 : Int32) (x3 : Int32) (x4 : Int32) (x5 : Int32), k12 x2 x3 x4 x5 = some r → P_X6_wholeWithin_12 p l e s m args below meth c D cA r a_p0 f_p0 x2 x3 x4 x5) (x2 : Int32) (x3 : Int32) (x5 : Int32) (s0 : Int32) (h : m_X6_wholeWithin_B53 f_p0 k12 x2 x3 x5 s0 = some r) : P_X6_wholeWithin_53 p l e s m args below meth c D cA r a_p0 f_p0 x2 x3 x5 s0 := by
  intro hP ls hl
  unfold m_X6_wholeWithin_B53 at h
  refine lv_istore (lv' := [(4, .int s0), (0, .ref a_p0), (2, .int x2), (3, .int x3), (5, .int x5)]) S.1 S.2.1 dX6_wholeWithin_53 hl (by decide) rfl (fun ls hl => ?_)
  refine lv_iload S.1 S.2.1 dX6_wholeWithin_55 (lv_at hl 4 rfl) ?_
  refine lv_iconst (v := (1 : Int32)) S.1 S.2.1 dX6_wholeWithin_57 (by decide) ?_
  refine lv_iadd S.1 S.2.1 dX6_wholeWithin_58 ?_
  refine lv_aload_n S.1 S.2.1 dX6_wholeWithin_59 rfl (lv_at hl 1 rfl) ?_
  refine va_alen S.1 S.2.1 hK.1 hP 0 0 rfl rfl (v := (12 : Int32)) (show Int32.ofNat 12 = (12 : Int32) by decide) dX6_wholeWithin_60 ?_
  refine mi_icmp_ge (tgt := 77) S h dX6_wholeWithin_61 (by decide) (fun h => ?_) (fun h => ?_)
  · exact w_X6_wholeWithin_77 S hr hlk hK a_p0 f_p0 hk12 x2 x3 s0 x5 h hP ls (lv_sub hl [1, 2, 3, 0, 4] rfl)
  · refine lv_aload_n S.1 S.2.1 dX6_wholeWithin_64 rfl (lv_at hl 1 rfl) ?_
    refine lv_iload S.1 S.2.1 dX6_wholeWithin_65 (lv_at hl 4 rfl) ?_
    refine mi_iald S hK hP 0 rfl h dX6_wholeWithin_67 (fun t1 h => ?_)
    refine lv_aload_n S.1 S.2.1 dX6_wholeWithin_68 rfl (lv_at hl 1 rfl) ?_
    refine lv_iload S.1 S.2.1 dX6_wholeWithin_69 (lv_at hl 4 rfl) ?_
    refine lv_iconst (v := (1 : Int32)) S.1 S.2.1 dX6_wholeWithin_71 (by decide) ?_
    refine lv_iadd S.1 S.2.1 dX6_wholeWithin_72 ?_
    refine mi_iald S hK hP 0 rfl h dX6_wholeWithin_73 (fun t2 h => ?_)
    refine mi_icmp_eq (tgt := 81) S h dX6_wholeWithin_74 (by decide) (fun h => ?_) (fun h => ?_)
    · refine lv_iconst (v := (0 : Int32)) S.1 S.2.1 dX6_wholeWithin_81 (by decide) ?_
      exact w_X6_wholeWithin_82 S hr hlk hK a_p0 f_p0 hk12 x2 x3 s0 x5 (0 : Int32) h hP ls (lv_sub hl [1, 2, 3, 0, 4] rfl)
    · exact w_X6_wholeWithin_77 S hr hlk hK a_p0 f_p0 hk12 x2 x3 s0 x5 h hP ls (lv_sub hl [1, 2, 3, 0, 4] rfl)
set_option maxHeartbeats 4000000 in
set_option maxRecDepth 100000 in
theorem w_X6_wholeWithin_48 {p : Program} {l : Launch} {e : Env} {s : State} {m : MethodId} {args : Array Value} {below : List Frame} {meth : Method} {c : Code} {D : va_G} {cA : Nat → ClassId} {r : Int32} (S : CallFix p m c cX6_wholeWithin 7 s args wsX6_wholeWithin RX6) (hr : meth.sig.returnType = some .int) (hlk : meth.locks = false) (hK : gK D cA s) (a_p0 : Nat) (f_p0 : Nat → Int32) {k12 : Int32 → Int32 → Int32 → Int32 → Option (Int32)} (hk12 : ∀ (x2 : Int32) (x3 : Int32) (x4 : Int32) (x5 : Int32), k12 x2 x3 x4 x5 = some r → P_X6_wholeWithin_12 p l e s m args below meth c D cA r a_p0 f_p0 x2 x3 x4 x5) (x2 : Int32) (x3 : Int32) (x5 : Int32) (h : m_X6_wholeWithin_B48 f_p0 k12 x2 x3 x5 = some r) : P_X6_wholeWithin_48 p l e s m args below meth c D cA r a_p0 f_p0 x2 x3 x5 := by
  intro hP ls hl
  unfold m_X6_wholeWithin_B48 at h
  refine lv_iconst (v := (1 : Int32)) S.1 S.2.1 dX6_wholeWithin_48 (by decide) ?_
  refine lv_goto (tgt := 53) S.1 S.2.1 dX6_wholeWithin_49 (by decide) ?_
  exact w_X6_wholeWithin_53 S hr hlk hK a_p0 f_p0 hk12 x2 x3 x5 (1 : Int32) h hP ls (lv_sub hl [0, 1, 2, 3] rfl)
set_option maxHeartbeats 4000000 in
set_option maxRecDepth 100000 in
theorem w_X6_wholeWithin_12 {p : Program} {l : Launch} {e : Env} {s : State} {m : MethodId} {args : Array Value} {below : List Frame} {meth : Method} {c : Code} {D : va_G} {cA : Nat → ClassId} {r : Int32} (S : CallFix p m c cX6_wholeWithin 7 s args wsX6_wholeWithin RX6) (hr : meth.sig.returnType = some .int) (hlk : meth.locks = false) (hK : gK D cA s) (a_p0 : Nat) (f_p0 : Nat → Int32) : ∀ (n : Nat) (x2 : Int32) (x3 : Int32) (x4 : Int32) (x5 : Int32), m_X6_wholeWithin_L12 f_p0 n x2 x3 x4 x5 = some r → P_X6_wholeWithin_12 p l e s m args below meth c D cA r a_p0 f_p0 x2 x3 x4 x5 := by
  intro n
  induction n with
  | zero =>
    intro x2 x3 x4 x5 h
    have h : none = some r := h
    cases h
  | succ n ih =>
    intro x2 x3 x4 x5 h
    intro hP ls hl
    rw [m_X6_wholeWithin_L12] at h
    refine lv_iload S.1 S.2.1 dX6_wholeWithin_12 (lv_at hl 4 rfl) ?_
    refine lv_iload_n S.1 S.2.1 dX6_wholeWithin_14 rfl (lv_at hl 1 rfl) ?_
    refine mi_icmp_ge (tgt := 103) S h dX6_wholeWithin_15 (by decide) (fun h => ?_) (fun h => ?_)
    · refine lv_iload_n S.1 S.2.1 dX6_wholeWithin_103 rfl (lv_at hl 2 rfl) ?_
      cases h
      exact mi_iretP S hr hlk rfl dX6_wholeWithin_104
    · refine lv_iload S.1 S.2.1 dX6_wholeWithin_18 (lv_at hl 4 rfl) ?_
      refine lv_aload_n S.1 S.2.1 dX6_wholeWithin_20 rfl (lv_at hl 0 rfl) ?_
      refine va_alen S.1 S.2.1 hK.1 hP 0 0 rfl rfl (v := (12 : Int32)) (show Int32.ofNat 12 = (12 : Int32) by decide) dX6_wholeWithin_21 ?_
      refine mi_icmp_ge (tgt := 103) S h dX6_wholeWithin_22 (by decide) (fun h => ?_) (fun h => ?_)
      · refine lv_iload_n S.1 S.2.1 dX6_wholeWithin_103 rfl (lv_at hl 2 rfl) ?_
        cases h
        exact mi_iretP S hr hlk rfl dX6_wholeWithin_104
      · refine lv_iload S.1 S.2.1 dX6_wholeWithin_25 (lv_at hl 3 rfl) ?_
        refine mi_if_ne (tgt := 48) S h dX6_wholeWithin_27 (by decide) (fun h => ?_) (fun h => ?_)
        · exact w_X6_wholeWithin_48 S hr hlk hK a_p0 f_p0 ih x2 x3 x5 h hP ls (lv_sub hl [0, 1, 2, 4] rfl)
        · refine lv_iload S.1 S.2.1 dX6_wholeWithin_30 (lv_at hl 4 rfl) ?_
          refine mi_if_eq (tgt := 48) S h dX6_wholeWithin_32 (by decide) (fun h => ?_) (fun h => ?_)
          · exact w_X6_wholeWithin_48 S hr hlk hK a_p0 f_p0 ih x2 x3 x5 h hP ls (lv_sub hl [0, 1, 2, 4] rfl)
          · refine lv_aload_n S.1 S.2.1 dX6_wholeWithin_35 rfl (lv_at hl 0 rfl) ?_
            refine lv_iload S.1 S.2.1 dX6_wholeWithin_36 (lv_at hl 4 rfl) ?_
            refine mi_iald S hK hP 0 rfl h dX6_wholeWithin_38 (fun t1 h => ?_)
            refine lv_aload_n S.1 S.2.1 dX6_wholeWithin_39 rfl (lv_at hl 0 rfl) ?_
            refine lv_iload S.1 S.2.1 dX6_wholeWithin_40 (lv_at hl 4 rfl) ?_
            refine lv_iconst (v := (1 : Int32)) S.1 S.2.1 dX6_wholeWithin_42 (by decide) ?_
            refine lv_isub S.1 S.2.1 dX6_wholeWithin_43 ?_
            refine mi_iald S hK hP 0 rfl h dX6_wholeWithin_44 (fun t2 h => ?_)
            refine mi_icmp_eq (tgt := 52) S h dX6_wholeWithin_45 (by decide) (fun h => ?_) (fun h => ?_)
            · refine lv_iconst (v := (0 : Int32)) S.1 S.2.1 dX6_wholeWithin_52 (by decide) ?_
              exact w_X6_wholeWithin_53 S hr hlk hK a_p0 f_p0 ih x2 x3 x5 (0 : Int32) h hP ls (lv_sub hl [0, 1, 2, 4] rfl)
            · exact w_X6_wholeWithin_48 S hr hlk hK a_p0 f_p0 ih x2 x3 x5 h hP ls (lv_sub hl [0, 1, 2, 4] rfl)
set_option maxHeartbeats 4000000 in
set_option maxRecDepth 100000 in
theorem w_X6_wholeWithin_0 {p : Program} {l : Launch} {e : Env} {s : State} {m : MethodId} {args : Array Value} {below : List Frame} {meth : Method} {c : Code} {D : va_G} {cA : Nat → ClassId} {r : Int32} (S : CallFix p m c cX6_wholeWithin 7 s args wsX6_wholeWithin RX6) (hr : meth.sig.returnType = some .int) (hlk : meth.locks = false) (hK : gK D cA s) (a_p0 : Nat) (f_p0 : Nat → Int32) (x1 : Int32) (x2 : Int32) (h : m_X6_wholeWithin f_p0 x1 x2 = some r) : P_X6_wholeWithin_0 p l e s m args below meth c D cA r a_p0 f_p0 x1 x2 := by
  intro hP ls hl
  unfold m_X6_wholeWithin at h
  refine lv_iconst (v := (0 : Int32)) S.1 S.2.1 dX6_wholeWithin_0 (by decide) ?_
  refine lv_istore_n (lv' := [(3, .int (0 : Int32)), (0, .ref a_p0), (1, .int x1), (2, .int x2)]) S.1 S.2.1 dX6_wholeWithin_1 rfl hl (by decide) rfl (fun ls hl => ?_)
  refine lv_iconst (v := (0 : Int32)) S.1 S.2.1 dX6_wholeWithin_2 (by decide) ?_
  refine lv_istore (lv' := [(4, .int (0 : Int32)), (3, .int (0 : Int32)), (0, .ref a_p0), (1, .int x1), (2, .int x2)]) S.1 S.2.1 dX6_wholeWithin_3 hl (by decide) rfl (fun ls hl => ?_)
  refine lv_iload_n S.1 S.2.1 dX6_wholeWithin_5 rfl (lv_at hl 3 rfl) ?_
  refine lv_iconst (v := (0 : Int32)) S.1 S.2.1 dX6_wholeWithin_6 (by decide) ?_
  refine va_mmax S.1 S.2.1 (S.2.2.1.trans hl.1.symm) S.2.2.2.1 (S.2.2.2.2 _ lm_X6_wholeWithin_122) (S.2.2.2.2 _ ls_X6_wholeWithin_122) (S.2.2.2.2 _ li_X6_wholeWithin_122) (S.2.2.2.2 _ lo_X6_wholeWithin_122) (Nat.le_of_ble_eq_true rfl) (Nat.le_of_ble_eq_true rfl) (Nat.zero_le _) (Nat.zero_le _) dX6_wholeWithin_7 ?_
  refine mi_let h (fun t1 h => ?_)
  refine lv_istore (lv' := [(5, .int t1), (4, .int (0 : Int32)), (3, .int (0 : Int32)), (0, .ref a_p0), (1, .int x1), (2, .int x2)]) S.1 S.2.1 dX6_wholeWithin_10 hl (by decide) rfl (fun ls hl => ?_)
  exact w_X6_wholeWithin_12 S hr hlk hK a_p0 f_p0 mFU x2 (0 : Int32) (0 : Int32) t1 h hP ls (lv_sub hl [3, 5, 2, 1, 0] rfl)
set_option maxHeartbeats 4000000 in
set_option maxRecDepth 100000 in
theorem c_X6_wholeWithin (l : Launch) (D : va_G) (cA : Nat → ClassId) (a_p0 : Nat) (f_p0 : Nat → Int32) (x1 : Int32) (x2 : Int32) {r : Int32} (h : m_X6_wholeWithin f_p0 x1 x2 = some r) : MPi l yX6_wholeWithin wsX6_wholeWithin { frames := 1, cells := 0, slots := 0, locals := 21 } D cA [.ref a_p0, .int x1, .int x2] [(a_p0, .inl (cA 0, 12, .inl f_p0))] r := by
  refine mP_of (cc := cX6_wholeWithin) (maxL := 7) (ret := (some .int)) (by decide) rfl (Nat.le_of_ble_eq_true rfl) ?_
  intro p e s m below meth c S hr hlk hK hP ls hl
  exact w_X6_wholeWithin_0 S hr hlk hK a_p0 f_p0 x1 x2 h hP ls (lv_sub hl [0, 1, 2] rfl)

-- X6_findCuts
theorem in_X6_findCuts_X6 : ∀ w ∈ u_ws RX6 TX6 11, w ∈ wsX6_findCuts := by decide +kernel
theorem lk_X6_findCuts_33 : Cond.fieldLink RX6 33 (TX6 8).1 (TX6 8).2.1 (TX6 8).2.2.1 ∈ wsX6_findCuts := by decide +kernel
theorem lk_X6_findCuts_36 : Cond.fieldLink RX6 36 (TX6 9).1 (TX6 9).2.1 (TX6 9).2.2.1 ∈ wsX6_findCuts := by decide +kernel
theorem lk_X6_findCuts_39 : Cond.fieldLink RX6 39 (TX6 10).1 (TX6 10).2.1 (TX6 10).2.2.1 ∈ wsX6_findCuts := by decide +kernel
def m_X6_findCuts_B115 (f_p1 : Nat → Int32) (k19 : (Nat → Int32) → (Nat → Int32) → (Nat → Int32) → Int32 → Int32 → Option ((Nat → Int32) × (Nat → Int32) × (Nat → Int32))) (k33 : (Nat → Int32) → (Nat → Int32) → (Nat → Int32) → Int32 → Int32 → Int32 → Option ((Nat → Int32) × (Nat → Int32) × (Nat → Int32))) (f_wholes : Nat → Int32) (f_parts : Nat → Int32) (f_firsts : Nat → Int32) (x2 : Int32) (x3 : Int32) (x4 : Int32) (x6 : Int32) (x7 : Int32) : Option ((Nat → Int32) × (Nat → Int32) × (Nat → Int32)) := mWr f_wholes 13 x3 x6 (fun (f1 : Nat → Int32) => mWr f_parts 13 x3 x7 (fun (f2 : Nat → Int32) => mWr f_firsts 13 x3 x4 (fun (f3 : Nat → Int32) => mLet (x4 + (1 : Int32)) (fun (t4 : Int32) => k33 f1 f2 f3 x2 x3 t4))))
def m_X6_findCuts_L33 (f_p1 : Nat → Int32) (k19 : (Nat → Int32) → (Nat → Int32) → (Nat → Int32) → Int32 → Int32 → Option ((Nat → Int32) × (Nat → Int32) × (Nat → Int32))) : Nat → (Nat → Int32) → (Nat → Int32) → (Nat → Int32) → Int32 → Int32 → Int32 → Option ((Nat → Int32) × (Nat → Int32) × (Nat → Int32))
  | 0, _, _, _, _, _, _ => none
  | n + 1, f_wholes, f_parts, f_firsts, x2, x3, x4 => if x2 < x4 then mLet (x3 + (-1 : Int32)) (fun (t1 : Int32) => k19 f_wholes f_parts f_firsts x2 t1) else if (12 : Int32) < (x3 + x4) then mLet (x3 + (-1 : Int32)) (fun (t2 : Int32) => k19 f_wholes f_parts f_firsts x2 t2) else mLet (x3 + x4) (fun (t3 : Int32) => mCall (m_X6_wholeWithin f_p1 x3 t3) (fun (r4 : Int32) => mRd f_wholes 13 t3 (fun (t5 : Int32) => mLet (r4 + t5) (fun (t6 : Int32) => mRd f_parts 13 t3 (fun (t7 : Int32) => mLet ((1 : Int32) + t7) (fun (t8 : Int32) => mRd f_wholes 13 x3 (fun (t9 : Int32) => if t9 < t6 then m_X6_findCuts_B115 f_p1 k19 (m_X6_findCuts_L33 f_p1 k19 n) f_wholes f_parts f_firsts x2 x3 x4 t6 t8 else mRd f_wholes 13 x3 (fun (t10 : Int32) => if t6 = t10 then mRd f_parts 13 x3 (fun (t12 : Int32) => if t12 ≤ t8 then mLet (x4 + (1 : Int32)) (fun (t13 : Int32) => m_X6_findCuts_L33 f_p1 k19 n f_wholes f_parts f_firsts x2 x3 t13) else m_X6_findCuts_B115 f_p1 k19 (m_X6_findCuts_L33 f_p1 k19 n) f_wholes f_parts f_firsts x2 x3 x4 t6 t8) else mLet (x4 + (1 : Int32)) (fun (t11 : Int32) => m_X6_findCuts_L33 f_p1 k19 n f_wholes f_parts f_firsts x2 x3 t11)))))))))
def m_X6_findCuts_L19 (f_p1 : Nat → Int32) : Nat → (Nat → Int32) → (Nat → Int32) → (Nat → Int32) → Int32 → Int32 → Option ((Nat → Int32) × (Nat → Int32) × (Nat → Int32))
  | 0, _, _, _, _, _ => none
  | n + 1, f_wholes, f_parts, f_firsts, x2, x3 => if x3 < 0 then some (f_wholes, f_parts, f_firsts) else mWr f_wholes 13 x3 (-1 : Int32) (fun (f1 : Nat → Int32) => m_X6_findCuts_L33 f_p1 (m_X6_findCuts_L19 f_p1 n) mFU f1 f_parts f_firsts x2 x3 (1 : Int32))
def m_X6_findCuts (f_wholes : Nat → Int32) (f_parts : Nat → Int32) (f_p1 : Nat → Int32) (f_firsts : Nat → Int32) (x2 : Int32) : Option ((Nat → Int32) × (Nat → Int32) × (Nat → Int32)) := mWr f_wholes 13 (12 : Int32) (0 : Int32) (fun (f1 : Nat → Int32) => mWr f_parts 13 (12 : Int32) (0 : Int32) (fun (f2 : Nat → Int32) => m_X6_findCuts_L19 f_p1 mFU f1 f2 f_firsts x2 (11 : Int32)))
def P_X6_findCuts_115 (p : Program) (l : Launch) (e : Env) (s : State) (m : MethodId) (args : Array Value) (below : List Frame) (meth : Method) (c : Code) (D : va_G) (cA : Nat → ClassId) (A : Nat → Prop) (r : (Nat → Int32) × (Nat → Int32) × (Nat → Int32)) (a_this a_lengths a_fitsBehind a_ways a_reached a_lacking a_costs a_worths a_wholes a_parts a_firsts a_p1 : Nat) (v_this_bestWorth : Int32) (f_wholes : Nat → Int32) (f_parts : Nat → Int32) (f_p1 : Nat → Int32) (f_firsts : Nat → Int32) (x2 : Int32) (x3 : Int32) (x4 : Int32) (x6 : Int32) (x7 : Int32) : Prop := ∀ (H : Heap) (locs : List Loc) (ls : Array Slot), va_P D vwCl [(a_this, .inr (6, [.ref a_lengths, .ref a_fitsBehind, .ref a_ways, .ref a_reached, .ref a_lacking, .ref a_costs, .ref a_worths, .int v_this_bestWorth, .ref a_wholes, .ref a_parts, .ref a_firsts])), (a_wholes, .inl (cA 0, 13, .inl f_wholes)), (a_parts, .inl (cA 0, 13, .inl f_parts)), (a_p1, .inl (cA 0, 12, .inl f_p1)), (a_firsts, .inl (cA 0, 13, .inl f_firsts))] H → va_D A [(a_this, .inr (6, [.ref a_lengths, .ref a_fitsBehind, .ref a_ways, .ref a_reached, .ref a_lacking, .ref a_costs, .ref a_worths, .int v_this_bestWorth, .ref a_wholes, .ref a_parts, .ref a_firsts])), (a_wholes, .inl (cA 0, 13, .inl f_wholes)), (a_parts, .inl (cA 0, 13, .inl f_parts)), (a_p1, .inl (cA 0, 12, .inl f_p1)), (a_firsts, .inl (cA 0, 13, .inl f_firsts))] → va_S A s.heap H locs → lv_has ls 8 [(0, .ref a_this), (1, .ref a_p1), (2, .int x2), (3, .int x3), (4, .int x4), (6, .int x6), (7, .int x7)] → W p l e { frames := 2, cells := 0, slots := 0, locals := 47 } s m args below meth c H locs 0 0 (MQ below (va_Qv (fun (_ : Unit) => True) (gPost D A [(a_this, .inr (6, [.ref a_lengths, .ref a_fitsBehind, .ref a_ways, .ref a_reached, .ref a_lacking, .ref a_costs, .ref a_worths, .int v_this_bestWorth, .ref a_wholes, .ref a_parts, .ref a_firsts])), (a_wholes, .inl (cA 0, 13, .inl r.1)), (a_parts, .inl (cA 0, 13, .inl r.2.1)), (a_p1, .inl (cA 0, 12, .inl f_p1)), (a_firsts, .inl (cA 0, 13, .inl r.2.2))]) A) args s 0 0 A) (F0 m 115 ls [])
def P_X6_findCuts_33 (p : Program) (l : Launch) (e : Env) (s : State) (m : MethodId) (args : Array Value) (below : List Frame) (meth : Method) (c : Code) (D : va_G) (cA : Nat → ClassId) (A : Nat → Prop) (r : (Nat → Int32) × (Nat → Int32) × (Nat → Int32)) (a_this a_lengths a_fitsBehind a_ways a_reached a_lacking a_costs a_worths a_wholes a_parts a_firsts a_p1 : Nat) (v_this_bestWorth : Int32) (f_wholes : Nat → Int32) (f_parts : Nat → Int32) (f_p1 : Nat → Int32) (f_firsts : Nat → Int32) (x2 : Int32) (x3 : Int32) (x4 : Int32) : Prop := ∀ (H : Heap) (locs : List Loc) (ls : Array Slot), va_P D vwCl [(a_this, .inr (6, [.ref a_lengths, .ref a_fitsBehind, .ref a_ways, .ref a_reached, .ref a_lacking, .ref a_costs, .ref a_worths, .int v_this_bestWorth, .ref a_wholes, .ref a_parts, .ref a_firsts])), (a_wholes, .inl (cA 0, 13, .inl f_wholes)), (a_parts, .inl (cA 0, 13, .inl f_parts)), (a_p1, .inl (cA 0, 12, .inl f_p1)), (a_firsts, .inl (cA 0, 13, .inl f_firsts))] H → va_D A [(a_this, .inr (6, [.ref a_lengths, .ref a_fitsBehind, .ref a_ways, .ref a_reached, .ref a_lacking, .ref a_costs, .ref a_worths, .int v_this_bestWorth, .ref a_wholes, .ref a_parts, .ref a_firsts])), (a_wholes, .inl (cA 0, 13, .inl f_wholes)), (a_parts, .inl (cA 0, 13, .inl f_parts)), (a_p1, .inl (cA 0, 12, .inl f_p1)), (a_firsts, .inl (cA 0, 13, .inl f_firsts))] → va_S A s.heap H locs → lv_has ls 8 [(0, .ref a_this), (1, .ref a_p1), (2, .int x2), (3, .int x3), (4, .int x4)] → W p l e { frames := 2, cells := 0, slots := 0, locals := 47 } s m args below meth c H locs 0 0 (MQ below (va_Qv (fun (_ : Unit) => True) (gPost D A [(a_this, .inr (6, [.ref a_lengths, .ref a_fitsBehind, .ref a_ways, .ref a_reached, .ref a_lacking, .ref a_costs, .ref a_worths, .int v_this_bestWorth, .ref a_wholes, .ref a_parts, .ref a_firsts])), (a_wholes, .inl (cA 0, 13, .inl r.1)), (a_parts, .inl (cA 0, 13, .inl r.2.1)), (a_p1, .inl (cA 0, 12, .inl f_p1)), (a_firsts, .inl (cA 0, 13, .inl r.2.2))]) A) args s 0 0 A) (F0 m 33 ls [])
def P_X6_findCuts_19 (p : Program) (l : Launch) (e : Env) (s : State) (m : MethodId) (args : Array Value) (below : List Frame) (meth : Method) (c : Code) (D : va_G) (cA : Nat → ClassId) (A : Nat → Prop) (r : (Nat → Int32) × (Nat → Int32) × (Nat → Int32)) (a_this a_lengths a_fitsBehind a_ways a_reached a_lacking a_costs a_worths a_wholes a_parts a_firsts a_p1 : Nat) (v_this_bestWorth : Int32) (f_wholes : Nat → Int32) (f_parts : Nat → Int32) (f_p1 : Nat → Int32) (f_firsts : Nat → Int32) (x2 : Int32) (x3 : Int32) : Prop := ∀ (H : Heap) (locs : List Loc) (ls : Array Slot), va_P D vwCl [(a_this, .inr (6, [.ref a_lengths, .ref a_fitsBehind, .ref a_ways, .ref a_reached, .ref a_lacking, .ref a_costs, .ref a_worths, .int v_this_bestWorth, .ref a_wholes, .ref a_parts, .ref a_firsts])), (a_wholes, .inl (cA 0, 13, .inl f_wholes)), (a_parts, .inl (cA 0, 13, .inl f_parts)), (a_p1, .inl (cA 0, 12, .inl f_p1)), (a_firsts, .inl (cA 0, 13, .inl f_firsts))] H → va_D A [(a_this, .inr (6, [.ref a_lengths, .ref a_fitsBehind, .ref a_ways, .ref a_reached, .ref a_lacking, .ref a_costs, .ref a_worths, .int v_this_bestWorth, .ref a_wholes, .ref a_parts, .ref a_firsts])), (a_wholes, .inl (cA 0, 13, .inl f_wholes)), (a_parts, .inl (cA 0, 13, .inl f_parts)), (a_p1, .inl (cA 0, 12, .inl f_p1)), (a_firsts, .inl (cA 0, 13, .inl f_firsts))] → va_S A s.heap H locs → lv_has ls 8 [(0, .ref a_this), (1, .ref a_p1), (2, .int x2), (3, .int x3)] → W p l e { frames := 2, cells := 0, slots := 0, locals := 47 } s m args below meth c H locs 0 0 (MQ below (va_Qv (fun (_ : Unit) => True) (gPost D A [(a_this, .inr (6, [.ref a_lengths, .ref a_fitsBehind, .ref a_ways, .ref a_reached, .ref a_lacking, .ref a_costs, .ref a_worths, .int v_this_bestWorth, .ref a_wholes, .ref a_parts, .ref a_firsts])), (a_wholes, .inl (cA 0, 13, .inl r.1)), (a_parts, .inl (cA 0, 13, .inl r.2.1)), (a_p1, .inl (cA 0, 12, .inl f_p1)), (a_firsts, .inl (cA 0, 13, .inl r.2.2))]) A) args s 0 0 A) (F0 m 19 ls [])
def P_X6_findCuts_0 (p : Program) (l : Launch) (e : Env) (s : State) (m : MethodId) (args : Array Value) (below : List Frame) (meth : Method) (c : Code) (D : va_G) (cA : Nat → ClassId) (A : Nat → Prop) (r : (Nat → Int32) × (Nat → Int32) × (Nat → Int32)) (a_this a_lengths a_fitsBehind a_ways a_reached a_lacking a_costs a_worths a_wholes a_parts a_firsts a_p1 : Nat) (v_this_bestWorth : Int32) (f_wholes : Nat → Int32) (f_parts : Nat → Int32) (f_p1 : Nat → Int32) (f_firsts : Nat → Int32) (x2 : Int32) : Prop := ∀ (H : Heap) (locs : List Loc) (ls : Array Slot), va_P D vwCl [(a_this, .inr (6, [.ref a_lengths, .ref a_fitsBehind, .ref a_ways, .ref a_reached, .ref a_lacking, .ref a_costs, .ref a_worths, .int v_this_bestWorth, .ref a_wholes, .ref a_parts, .ref a_firsts])), (a_wholes, .inl (cA 0, 13, .inl f_wholes)), (a_parts, .inl (cA 0, 13, .inl f_parts)), (a_p1, .inl (cA 0, 12, .inl f_p1)), (a_firsts, .inl (cA 0, 13, .inl f_firsts))] H → va_D A [(a_this, .inr (6, [.ref a_lengths, .ref a_fitsBehind, .ref a_ways, .ref a_reached, .ref a_lacking, .ref a_costs, .ref a_worths, .int v_this_bestWorth, .ref a_wholes, .ref a_parts, .ref a_firsts])), (a_wholes, .inl (cA 0, 13, .inl f_wholes)), (a_parts, .inl (cA 0, 13, .inl f_parts)), (a_p1, .inl (cA 0, 12, .inl f_p1)), (a_firsts, .inl (cA 0, 13, .inl f_firsts))] → va_S A s.heap H locs → lv_has ls 8 [(0, .ref a_this), (1, .ref a_p1), (2, .int x2)] → W p l e { frames := 2, cells := 0, slots := 0, locals := 47 } s m args below meth c H locs 0 0 (MQ below (va_Qv (fun (_ : Unit) => True) (gPost D A [(a_this, .inr (6, [.ref a_lengths, .ref a_fitsBehind, .ref a_ways, .ref a_reached, .ref a_lacking, .ref a_costs, .ref a_worths, .int v_this_bestWorth, .ref a_wholes, .ref a_parts, .ref a_firsts])), (a_wholes, .inl (cA 0, 13, .inl r.1)), (a_parts, .inl (cA 0, 13, .inl r.2.1)), (a_p1, .inl (cA 0, 12, .inl f_p1)), (a_firsts, .inl (cA 0, 13, .inl r.2.2))]) A) args s 0 0 A) (F0 m 0 ls [])
set_option maxHeartbeats 4000000 in
set_option maxRecDepth 100000 in
theorem w_X6_findCuts_115 {p : Program} {l : Launch} {e : Env} {s : State} {m : MethodId} {args : Array Value} {below : List Frame} {meth : Method} {c : Code} {D : va_G} {cA : Nat → ClassId} {A : Nat → Prop} {r : (Nat → Int32) × (Nat → Int32) × (Nat → Int32)} (S : CallFix p m c cX6_findCuts 8 s args wsX6_findCuts RX6) (hr : meth.sig.returnType = none) (hlk : meth.locks = false) (hK : gK D cA s) (hA : ∀ q : Nat, s.heap.size ≤ q → A q) (a_this a_lengths a_fitsBehind a_ways a_reached a_lacking a_costs a_worths a_wholes a_parts a_firsts a_p1 : Nat) (v_this_bestWorth : Int32) (f_p1 : Nat → Int32) {k19 : (Nat → Int32) → (Nat → Int32) → (Nat → Int32) → Int32 → Int32 → Option ((Nat → Int32) × (Nat → Int32) × (Nat → Int32))} (hk19 : ∀ (f_wholes : Nat → Int32) (f_parts : Nat → Int32) (f_firsts : Nat → Int32) (x2 : Int32) (x3 : Int32), k19 f_wholes f_parts f_firsts x2 x3 = some r → P_X6_findCuts_19 p l e s m args below meth c D cA A r a_this a_lengths a_fitsBehind a_ways a_reached a_lacking a_costs a_worths a_wholes a_parts a_firsts a_p1 v_this_bestWorth f_wholes f_parts f_p1 f_firsts x2 x3) {k33 : (Nat → Int32) → (Nat → Int32) → (Nat → Int32) → Int32 → Int32 → Int32 → Option ((Nat → Int32) × (Nat → Int32) × (Nat → Int32))} (hk33 : ∀ (f_wholes : Nat → Int32) (f_parts : Nat → Int32) (f_firsts : Nat → Int32) (x2 : Int32) (x3 : Int32) (x4 : Int32), k33 f_wholes f_parts f_firsts x2 x3 x4 = some r → P_X6_findCuts_33 p l e s m args below meth c D cA A r a_this a_lengths a_fitsBehind a_ways a_reached a_lacking a_costs a_worths a_wholes a_parts a_firsts a_p1 v_this_bestWorth f_wholes f_parts f_p1 f_firsts x2 x3 x4) (f_wholes : Nat → Int32) (f_parts : Nat → Int32) (f_firsts : Nat → Int32) (x2 : Int32) (x3 : Int32) (x4 : Int32) (x6 : Int32) (x7 : Int32) (h : m_X6_findCuts_B115 f_p1 k19 k33 f_wholes f_parts f_firsts x2 x3 x4 x6 x7 = some r) : P_X6_findCuts_115 p l e s m args below meth c D cA A r a_this a_lengths a_fitsBehind a_ways a_reached a_lacking a_costs a_worths a_wholes a_parts a_firsts a_p1 v_this_bestWorth f_wholes f_parts f_p1 f_firsts x2 x3 x4 x6 x7 := by
  intro H locs ls hP hD hS hl
  unfold m_X6_findCuts_B115 at h
  refine lv_aload_n S.1 S.2.1 dX6_findCuts_115 rfl (lv_at hl 0 rfl) ?_
  refine mi_get S hK hP in_X6_findCuts_X6 0 rfl rfl 8 (by decide) lk_X6_findCuts_33 rfl dX6_findCuts_116 ?_
  refine lv_iload_n S.1 S.2.1 dX6_findCuts_119 rfl (lv_at hl 3 rfl) ?_
  refine lv_iload S.1 S.2.1 dX6_findCuts_120 (lv_at hl 5 rfl) ?_
  refine mi_iast S hK hP hD hS 1 rfl h dX6_findCuts_122 (fun f1 H locs h hP hD hS => ?_)
  have hP : va_P D vwCl [(a_this, .inr (6, [.ref a_lengths, .ref a_fitsBehind, .ref a_ways, .ref a_reached, .ref a_lacking, .ref a_costs, .ref a_worths, .int v_this_bestWorth, .ref a_wholes, .ref a_parts, .ref a_firsts])), (a_wholes, .inl (cA 0, 13, .inl f1)), (a_parts, .inl (cA 0, 13, .inl f_parts)), (a_p1, .inl (cA 0, 12, .inl f_p1)), (a_firsts, .inl (cA 0, 13, .inl f_firsts))] H := hP
  have hD : va_D A [(a_this, .inr (6, [.ref a_lengths, .ref a_fitsBehind, .ref a_ways, .ref a_reached, .ref a_lacking, .ref a_costs, .ref a_worths, .int v_this_bestWorth, .ref a_wholes, .ref a_parts, .ref a_firsts])), (a_wholes, .inl (cA 0, 13, .inl f1)), (a_parts, .inl (cA 0, 13, .inl f_parts)), (a_p1, .inl (cA 0, 12, .inl f_p1)), (a_firsts, .inl (cA 0, 13, .inl f_firsts))] := hD
  refine lv_aload_n S.1 S.2.1 dX6_findCuts_123 rfl (lv_at hl 0 rfl) ?_
  refine mi_get S hK hP in_X6_findCuts_X6 0 rfl rfl 9 (by decide) lk_X6_findCuts_36 rfl dX6_findCuts_124 ?_
  refine lv_iload_n S.1 S.2.1 dX6_findCuts_127 rfl (lv_at hl 3 rfl) ?_
  refine lv_iload S.1 S.2.1 dX6_findCuts_128 (lv_at hl 6 rfl) ?_
  refine mi_iast S hK hP hD hS 2 rfl h dX6_findCuts_130 (fun f2 H locs h hP hD hS => ?_)
  have hP : va_P D vwCl [(a_this, .inr (6, [.ref a_lengths, .ref a_fitsBehind, .ref a_ways, .ref a_reached, .ref a_lacking, .ref a_costs, .ref a_worths, .int v_this_bestWorth, .ref a_wholes, .ref a_parts, .ref a_firsts])), (a_wholes, .inl (cA 0, 13, .inl f1)), (a_parts, .inl (cA 0, 13, .inl f2)), (a_p1, .inl (cA 0, 12, .inl f_p1)), (a_firsts, .inl (cA 0, 13, .inl f_firsts))] H := hP
  have hD : va_D A [(a_this, .inr (6, [.ref a_lengths, .ref a_fitsBehind, .ref a_ways, .ref a_reached, .ref a_lacking, .ref a_costs, .ref a_worths, .int v_this_bestWorth, .ref a_wholes, .ref a_parts, .ref a_firsts])), (a_wholes, .inl (cA 0, 13, .inl f1)), (a_parts, .inl (cA 0, 13, .inl f2)), (a_p1, .inl (cA 0, 12, .inl f_p1)), (a_firsts, .inl (cA 0, 13, .inl f_firsts))] := hD
  refine lv_aload_n S.1 S.2.1 dX6_findCuts_131 rfl (lv_at hl 0 rfl) ?_
  refine mi_get S hK hP in_X6_findCuts_X6 0 rfl rfl 10 (by decide) lk_X6_findCuts_39 rfl dX6_findCuts_132 ?_
  refine lv_iload_n S.1 S.2.1 dX6_findCuts_135 rfl (lv_at hl 3 rfl) ?_
  refine lv_iload S.1 S.2.1 dX6_findCuts_136 (lv_at hl 4 rfl) ?_
  refine mi_iast S hK hP hD hS 4 rfl h dX6_findCuts_138 (fun f3 H locs h hP hD hS => ?_)
  have hP : va_P D vwCl [(a_this, .inr (6, [.ref a_lengths, .ref a_fitsBehind, .ref a_ways, .ref a_reached, .ref a_lacking, .ref a_costs, .ref a_worths, .int v_this_bestWorth, .ref a_wholes, .ref a_parts, .ref a_firsts])), (a_wholes, .inl (cA 0, 13, .inl f1)), (a_parts, .inl (cA 0, 13, .inl f2)), (a_p1, .inl (cA 0, 12, .inl f_p1)), (a_firsts, .inl (cA 0, 13, .inl f3))] H := hP
  have hD : va_D A [(a_this, .inr (6, [.ref a_lengths, .ref a_fitsBehind, .ref a_ways, .ref a_reached, .ref a_lacking, .ref a_costs, .ref a_worths, .int v_this_bestWorth, .ref a_wholes, .ref a_parts, .ref a_firsts])), (a_wholes, .inl (cA 0, 13, .inl f1)), (a_parts, .inl (cA 0, 13, .inl f2)), (a_p1, .inl (cA 0, 12, .inl f_p1)), (a_firsts, .inl (cA 0, 13, .inl f3))] := hD
  obtain ⟨t4, et4, h⟩ := mLet_use h
  refine lv_iinc (v := t4) (lv' := [(4, .int t4), (0, .ref a_this), (1, .ref a_p1), (2, .int x2), (3, .int x3), (6, .int x6), (7, .int x7)]) S.1 S.2.1 dX6_findCuts_139 hl (k := 4) rfl (by rw [et4]; rfl) (by decide) rfl (fun ls hl => ?_)
  clear et4
  refine lv_goto (tgt := 33) S.1 S.2.1 dX6_findCuts_142 (by decide) ?_
  exact hk33 f1 f2 f3 x2 x3 t4 h H locs ls hP hD hS (lv_sub hl [1, 2, 3, 4, 0] rfl)
set_option maxHeartbeats 4000000 in
set_option maxRecDepth 100000 in
theorem w_X6_findCuts_33 {p : Program} {l : Launch} {e : Env} {s : State} {m : MethodId} {args : Array Value} {below : List Frame} {meth : Method} {c : Code} {D : va_G} {cA : Nat → ClassId} {A : Nat → Prop} {r : (Nat → Int32) × (Nat → Int32) × (Nat → Int32)} (S : CallFix p m c cX6_findCuts 8 s args wsX6_findCuts RX6) (hr : meth.sig.returnType = none) (hlk : meth.locks = false) (hK : gK D cA s) (hA : ∀ q : Nat, s.heap.size ≤ q → A q) (a_this a_lengths a_fitsBehind a_ways a_reached a_lacking a_costs a_worths a_wholes a_parts a_firsts a_p1 : Nat) (v_this_bestWorth : Int32) (f_p1 : Nat → Int32) {k19 : (Nat → Int32) → (Nat → Int32) → (Nat → Int32) → Int32 → Int32 → Option ((Nat → Int32) × (Nat → Int32) × (Nat → Int32))} (hk19 : ∀ (f_wholes : Nat → Int32) (f_parts : Nat → Int32) (f_firsts : Nat → Int32) (x2 : Int32) (x3 : Int32), k19 f_wholes f_parts f_firsts x2 x3 = some r → P_X6_findCuts_19 p l e s m args below meth c D cA A r a_this a_lengths a_fitsBehind a_ways a_reached a_lacking a_costs a_worths a_wholes a_parts a_firsts a_p1 v_this_bestWorth f_wholes f_parts f_p1 f_firsts x2 x3) : ∀ (n : Nat) (f_wholes : Nat → Int32) (f_parts : Nat → Int32) (f_firsts : Nat → Int32) (x2 : Int32) (x3 : Int32) (x4 : Int32), m_X6_findCuts_L33 f_p1 k19 n f_wholes f_parts f_firsts x2 x3 x4 = some r → P_X6_findCuts_33 p l e s m args below meth c D cA A r a_this a_lengths a_fitsBehind a_ways a_reached a_lacking a_costs a_worths a_wholes a_parts a_firsts a_p1 v_this_bestWorth f_wholes f_parts f_p1 f_firsts x2 x3 x4 := by
  intro n
  induction n with
  | zero =>
    intro f_wholes f_parts f_firsts x2 x3 x4 h
    have h : none = some r := h
    cases h
  | succ n ih =>
    intro f_wholes f_parts f_firsts x2 x3 x4 h
    intro H locs ls hP hD hS hl
    rw [m_X6_findCuts_L33] at h
    refine lv_iload S.1 S.2.1 dX6_findCuts_33 (lv_at hl 4 rfl) ?_
    refine lv_iload_n S.1 S.2.1 dX6_findCuts_35 rfl (lv_at hl 2 rfl) ?_
    refine mi_icmp_gt (tgt := 145) S h dX6_findCuts_36 (by decide) (fun h => ?_) (fun h => ?_)
    · obtain ⟨t1, et1, h⟩ := mLet_use h
      refine lv_iinc (v := t1) (lv' := [(3, .int t1), (0, .ref a_this), (1, .ref a_p1), (2, .int x2), (4, .int x4)]) S.1 S.2.1 dX6_findCuts_145 hl (k := 3) rfl (by rw [et1]; rfl) (by decide) rfl (fun ls hl => ?_)
      clear et1
      refine lv_goto (tgt := 19) S.1 S.2.1 dX6_findCuts_148 (by decide) ?_
      exact hk19 f_wholes f_parts f_firsts x2 t1 h H locs ls hP hD hS (lv_sub hl [1, 2, 3, 0] rfl)
    · refine lv_iload_n S.1 S.2.1 dX6_findCuts_39 rfl (lv_at hl 3 rfl) ?_
      refine lv_iload S.1 S.2.1 dX6_findCuts_40 (lv_at hl 4 rfl) ?_
      refine lv_iadd S.1 S.2.1 dX6_findCuts_42 ?_
      refine lv_bipush (v := (12 : Int32)) S.1 S.2.1 dX6_findCuts_43 (by decide) ?_
      refine mi_icmp_gt (tgt := 145) S h dX6_findCuts_45 (by decide) (fun h => ?_) (fun h => ?_)
      · obtain ⟨t2, et2, h⟩ := mLet_use h
        refine lv_iinc (v := t2) (lv' := [(3, .int t2), (0, .ref a_this), (1, .ref a_p1), (2, .int x2), (4, .int x4)]) S.1 S.2.1 dX6_findCuts_145 hl (k := 3) rfl (by rw [et2]; rfl) (by decide) rfl (fun ls hl => ?_)
        clear et2
        refine lv_goto (tgt := 19) S.1 S.2.1 dX6_findCuts_148 (by decide) ?_
        exact hk19 f_wholes f_parts f_firsts x2 t2 h H locs ls hP hD hS (lv_sub hl [1, 2, 3, 0] rfl)
      · refine lv_iload_n S.1 S.2.1 dX6_findCuts_48 rfl (lv_at hl 3 rfl) ?_
        refine lv_iload S.1 S.2.1 dX6_findCuts_49 (lv_at hl 4 rfl) ?_
        refine lv_iadd S.1 S.2.1 dX6_findCuts_51 ?_
        refine mi_let h (fun t3 h => ?_)
        refine lv_istore (lv' := [(5, .int t3), (0, .ref a_this), (1, .ref a_p1), (2, .int x2), (3, .int x3), (4, .int x4)]) S.1 S.2.1 dX6_findCuts_52 hl (by decide) rfl (fun ls hl => ?_)
        refine lv_aload_n S.1 S.2.1 dX6_findCuts_54 rfl (lv_at hl 2 rfl) ?_
        refine lv_iload_n S.1 S.2.1 dX6_findCuts_55 rfl (lv_at hl 4 rfl) ?_
        refine lv_iload S.1 S.2.1 dX6_findCuts_56 (lv_at hl 0 rfl) ?_
        obtain ⟨r4, hr4, h⟩ := mCall_use h
        refine mc_Pi (va_runS (As := [.ref a_p1, .int x3, .int t3]) (rest := []) S (c_X6_wholeWithin l D cA a_p1 f_p1 x3 t3 hr4) (va_cwS 3 S.2.2.2.2 gX6_findCuts_X6_wholeWithin rfl rfl rfl (by decide +kernel) ⟨Nat.le_of_ble_eq_true rfl, Nat.le_of_ble_eq_true rfl⟩) (pre_PS hK hP [3] rfl) rfl rfl hl.1 rfl (lv_room (Nat.le_of_ble_eq_true rfl)) dX6_findCuts_58 ⟨Nat.le_of_ble_eq_true rfl, Nat.le_of_ble_eq_true rfl⟩) ?_
        refine lv_aload_n S.1 S.2.1 dX6_findCuts_61 rfl (lv_at hl 1 rfl) ?_
        refine mi_get S hK hP in_X6_findCuts_X6 0 rfl rfl 8 (by decide) lk_X6_findCuts_33 rfl dX6_findCuts_62 ?_
        refine lv_iload S.1 S.2.1 dX6_findCuts_65 (lv_at hl 0 rfl) ?_
        refine mi_iald S hK hP 1 rfl h dX6_findCuts_67 (fun t5 h => ?_)
        refine lv_iadd S.1 S.2.1 dX6_findCuts_68 ?_
        refine mi_let h (fun t6 h => ?_)
        refine lv_istore (lv' := [(6, .int t6), (5, .int t3), (0, .ref a_this), (1, .ref a_p1), (2, .int x2), (3, .int x3), (4, .int x4)]) S.1 S.2.1 dX6_findCuts_69 hl (by decide) rfl (fun ls hl => ?_)
        refine lv_iconst (v := (1 : Int32)) S.1 S.2.1 dX6_findCuts_71 (by decide) ?_
        refine lv_aload_n S.1 S.2.1 dX6_findCuts_72 rfl (lv_at hl 2 rfl) ?_
        refine mi_get S hK hP in_X6_findCuts_X6 0 rfl rfl 9 (by decide) lk_X6_findCuts_36 rfl dX6_findCuts_73 ?_
        refine lv_iload S.1 S.2.1 dX6_findCuts_76 (lv_at hl 1 rfl) ?_
        refine mi_iald S hK hP 2 rfl h dX6_findCuts_78 (fun t7 h => ?_)
        refine lv_iadd S.1 S.2.1 dX6_findCuts_79 ?_
        refine mi_let h (fun t8 h => ?_)
        refine lv_istore (lv' := [(7, .int t8), (6, .int t6), (5, .int t3), (0, .ref a_this), (1, .ref a_p1), (2, .int x2), (3, .int x3), (4, .int x4)]) S.1 S.2.1 dX6_findCuts_80 hl (by decide) rfl (fun ls hl => ?_)
        refine lv_iload S.1 S.2.1 dX6_findCuts_82 (lv_at hl 1 rfl) ?_
        refine lv_aload_n S.1 S.2.1 dX6_findCuts_84 rfl (lv_at hl 3 rfl) ?_
        refine mi_get S hK hP in_X6_findCuts_X6 0 rfl rfl 8 (by decide) lk_X6_findCuts_33 rfl dX6_findCuts_85 ?_
        refine lv_iload_n S.1 S.2.1 dX6_findCuts_88 rfl (lv_at hl 6 rfl) ?_
        refine mi_iald S hK hP 1 rfl h dX6_findCuts_89 (fun t9 h => ?_)
        refine mi_icmp_gt (tgt := 115) S h dX6_findCuts_90 (by decide) (fun h => ?_) (fun h => ?_)
        · exact w_X6_findCuts_115 S hr hlk hK hA a_this a_lengths a_fitsBehind a_ways a_reached a_lacking a_costs a_worths a_wholes a_parts a_firsts a_p1 v_this_bestWorth f_p1 hk19 ih f_wholes f_parts f_firsts x2 x3 x4 t6 t8 h H locs ls hP hD hS (lv_sub hl [3, 4, 5, 6, 7, 1, 0] rfl)
        · refine lv_iload S.1 S.2.1 dX6_findCuts_93 (lv_at hl 1 rfl) ?_
          refine lv_aload_n S.1 S.2.1 dX6_findCuts_95 rfl (lv_at hl 3 rfl) ?_
          refine mi_get S hK hP in_X6_findCuts_X6 0 rfl rfl 8 (by decide) lk_X6_findCuts_33 rfl dX6_findCuts_96 ?_
          refine lv_iload_n S.1 S.2.1 dX6_findCuts_99 rfl (lv_at hl 6 rfl) ?_
          refine mi_iald S hK hP 1 rfl h dX6_findCuts_100 (fun t10 h => ?_)
          refine mi_icmp_ne (tgt := 139) S h dX6_findCuts_101 (by decide) (fun h => ?_) (fun h => ?_)
          · obtain ⟨t11, et11, h⟩ := mLet_use h
            refine lv_iinc (v := t11) (lv' := [(4, .int t11), (7, .int t8), (6, .int t6), (5, .int t3), (0, .ref a_this), (1, .ref a_p1), (2, .int x2), (3, .int x3)]) S.1 S.2.1 dX6_findCuts_139 hl (k := 7) rfl (by rw [et11]; rfl) (by decide) rfl (fun ls hl => ?_)
            clear et11
            refine lv_goto (tgt := 33) S.1 S.2.1 dX6_findCuts_142 (by decide) ?_
            exact ih f_wholes f_parts f_firsts x2 x3 t11 h H locs ls hP hD hS (lv_sub hl [4, 5, 6, 7, 0] rfl)
          · refine lv_iload S.1 S.2.1 dX6_findCuts_104 (lv_at hl 0 rfl) ?_
            refine lv_aload_n S.1 S.2.1 dX6_findCuts_106 rfl (lv_at hl 3 rfl) ?_
            refine mi_get S hK hP in_X6_findCuts_X6 0 rfl rfl 9 (by decide) lk_X6_findCuts_36 rfl dX6_findCuts_107 ?_
            refine lv_iload_n S.1 S.2.1 dX6_findCuts_110 rfl (lv_at hl 6 rfl) ?_
            refine mi_iald S hK hP 2 rfl h dX6_findCuts_111 (fun t12 h => ?_)
            refine mi_icmp_ge (tgt := 139) S h dX6_findCuts_112 (by decide) (fun h => ?_) (fun h => ?_)
            · obtain ⟨t13, et13, h⟩ := mLet_use h
              refine lv_iinc (v := t13) (lv' := [(4, .int t13), (7, .int t8), (6, .int t6), (5, .int t3), (0, .ref a_this), (1, .ref a_p1), (2, .int x2), (3, .int x3)]) S.1 S.2.1 dX6_findCuts_139 hl (k := 7) rfl (by rw [et13]; rfl) (by decide) rfl (fun ls hl => ?_)
              clear et13
              refine lv_goto (tgt := 33) S.1 S.2.1 dX6_findCuts_142 (by decide) ?_
              exact ih f_wholes f_parts f_firsts x2 x3 t13 h H locs ls hP hD hS (lv_sub hl [4, 5, 6, 7, 0] rfl)
            · exact w_X6_findCuts_115 S hr hlk hK hA a_this a_lengths a_fitsBehind a_ways a_reached a_lacking a_costs a_worths a_wholes a_parts a_firsts a_p1 v_this_bestWorth f_p1 hk19 ih f_wholes f_parts f_firsts x2 x3 x4 t6 t8 h H locs ls hP hD hS (lv_sub hl [3, 4, 5, 6, 7, 1, 0] rfl)
set_option maxHeartbeats 4000000 in
set_option maxRecDepth 100000 in
theorem w_X6_findCuts_19 {p : Program} {l : Launch} {e : Env} {s : State} {m : MethodId} {args : Array Value} {below : List Frame} {meth : Method} {c : Code} {D : va_G} {cA : Nat → ClassId} {A : Nat → Prop} {r : (Nat → Int32) × (Nat → Int32) × (Nat → Int32)} (S : CallFix p m c cX6_findCuts 8 s args wsX6_findCuts RX6) (hr : meth.sig.returnType = none) (hlk : meth.locks = false) (hK : gK D cA s) (hA : ∀ q : Nat, s.heap.size ≤ q → A q) (a_this a_lengths a_fitsBehind a_ways a_reached a_lacking a_costs a_worths a_wholes a_parts a_firsts a_p1 : Nat) (v_this_bestWorth : Int32) (f_p1 : Nat → Int32) : ∀ (n : Nat) (f_wholes : Nat → Int32) (f_parts : Nat → Int32) (f_firsts : Nat → Int32) (x2 : Int32) (x3 : Int32), m_X6_findCuts_L19 f_p1 n f_wholes f_parts f_firsts x2 x3 = some r → P_X6_findCuts_19 p l e s m args below meth c D cA A r a_this a_lengths a_fitsBehind a_ways a_reached a_lacking a_costs a_worths a_wholes a_parts a_firsts a_p1 v_this_bestWorth f_wholes f_parts f_p1 f_firsts x2 x3 := by
  intro n
  induction n with
  | zero =>
    intro f_wholes f_parts f_firsts x2 x3 h
    have h : none = some r := h
    cases h
  | succ n ih =>
    intro f_wholes f_parts f_firsts x2 x3 h
    intro H locs ls hP hD hS hl
    rw [m_X6_findCuts_L19] at h
    refine lv_iload_n S.1 S.2.1 dX6_findCuts_19 rfl (lv_at hl 3 rfl) ?_
    refine mi_if_lt (tgt := 151) S h dX6_findCuts_20 (by decide) (fun h => ?_) (fun h => ?_)
    · cases h
      exact mi_vretE S hr hlk hP hD hS dX6_findCuts_151
    · refine lv_aload_n S.1 S.2.1 dX6_findCuts_23 rfl (lv_at hl 0 rfl) ?_
      refine mi_get S hK hP in_X6_findCuts_X6 0 rfl rfl 8 (by decide) lk_X6_findCuts_33 rfl dX6_findCuts_24 ?_
      refine lv_iload_n S.1 S.2.1 dX6_findCuts_27 rfl (lv_at hl 3 rfl) ?_
      refine lv_iconst (v := (-1 : Int32)) S.1 S.2.1 dX6_findCuts_28 (by decide) ?_
      refine mi_iast S hK hP hD hS 1 rfl h dX6_findCuts_29 (fun f1 H locs h hP hD hS => ?_)
      have hP : va_P D vwCl [(a_this, .inr (6, [.ref a_lengths, .ref a_fitsBehind, .ref a_ways, .ref a_reached, .ref a_lacking, .ref a_costs, .ref a_worths, .int v_this_bestWorth, .ref a_wholes, .ref a_parts, .ref a_firsts])), (a_wholes, .inl (cA 0, 13, .inl f1)), (a_parts, .inl (cA 0, 13, .inl f_parts)), (a_p1, .inl (cA 0, 12, .inl f_p1)), (a_firsts, .inl (cA 0, 13, .inl f_firsts))] H := hP
      have hD : va_D A [(a_this, .inr (6, [.ref a_lengths, .ref a_fitsBehind, .ref a_ways, .ref a_reached, .ref a_lacking, .ref a_costs, .ref a_worths, .int v_this_bestWorth, .ref a_wholes, .ref a_parts, .ref a_firsts])), (a_wholes, .inl (cA 0, 13, .inl f1)), (a_parts, .inl (cA 0, 13, .inl f_parts)), (a_p1, .inl (cA 0, 12, .inl f_p1)), (a_firsts, .inl (cA 0, 13, .inl f_firsts))] := hD
      refine lv_iconst (v := (1 : Int32)) S.1 S.2.1 dX6_findCuts_30 (by decide) ?_
      refine lv_istore (lv' := [(4, .int (1 : Int32)), (0, .ref a_this), (1, .ref a_p1), (2, .int x2), (3, .int x3)]) S.1 S.2.1 dX6_findCuts_31 hl (by decide) rfl (fun ls hl => ?_)
      exact w_X6_findCuts_33 S hr hlk hK hA a_this a_lengths a_fitsBehind a_ways a_reached a_lacking a_costs a_worths a_wholes a_parts a_firsts a_p1 v_this_bestWorth f_p1 ih mFU f1 f_parts f_firsts x2 x3 (1 : Int32) h H locs ls hP hD hS (lv_sub hl [1, 2, 3, 4, 0] rfl)
set_option maxHeartbeats 4000000 in
set_option maxRecDepth 100000 in
theorem w_X6_findCuts_0 {p : Program} {l : Launch} {e : Env} {s : State} {m : MethodId} {args : Array Value} {below : List Frame} {meth : Method} {c : Code} {D : va_G} {cA : Nat → ClassId} {A : Nat → Prop} {r : (Nat → Int32) × (Nat → Int32) × (Nat → Int32)} (S : CallFix p m c cX6_findCuts 8 s args wsX6_findCuts RX6) (hr : meth.sig.returnType = none) (hlk : meth.locks = false) (hK : gK D cA s) (hA : ∀ q : Nat, s.heap.size ≤ q → A q) (a_this a_lengths a_fitsBehind a_ways a_reached a_lacking a_costs a_worths a_wholes a_parts a_firsts a_p1 : Nat) (v_this_bestWorth : Int32) (f_p1 : Nat → Int32) (f_wholes : Nat → Int32) (f_parts : Nat → Int32) (f_firsts : Nat → Int32) (x2 : Int32) (h : m_X6_findCuts f_wholes f_parts f_p1 f_firsts x2 = some r) : P_X6_findCuts_0 p l e s m args below meth c D cA A r a_this a_lengths a_fitsBehind a_ways a_reached a_lacking a_costs a_worths a_wholes a_parts a_firsts a_p1 v_this_bestWorth f_wholes f_parts f_p1 f_firsts x2 := by
  intro H locs ls hP hD hS hl
  unfold m_X6_findCuts at h
  refine lv_aload_n S.1 S.2.1 dX6_findCuts_0 rfl (lv_at hl 0 rfl) ?_
  refine mi_get S hK hP in_X6_findCuts_X6 0 rfl rfl 8 (by decide) lk_X6_findCuts_33 rfl dX6_findCuts_1 ?_
  refine lv_bipush (v := (12 : Int32)) S.1 S.2.1 dX6_findCuts_4 (by decide) ?_
  refine lv_iconst (v := (0 : Int32)) S.1 S.2.1 dX6_findCuts_6 (by decide) ?_
  refine mi_iast S hK hP hD hS 1 rfl h dX6_findCuts_7 (fun f1 H locs h hP hD hS => ?_)
  have hP : va_P D vwCl [(a_this, .inr (6, [.ref a_lengths, .ref a_fitsBehind, .ref a_ways, .ref a_reached, .ref a_lacking, .ref a_costs, .ref a_worths, .int v_this_bestWorth, .ref a_wholes, .ref a_parts, .ref a_firsts])), (a_wholes, .inl (cA 0, 13, .inl f1)), (a_parts, .inl (cA 0, 13, .inl f_parts)), (a_p1, .inl (cA 0, 12, .inl f_p1)), (a_firsts, .inl (cA 0, 13, .inl f_firsts))] H := hP
  have hD : va_D A [(a_this, .inr (6, [.ref a_lengths, .ref a_fitsBehind, .ref a_ways, .ref a_reached, .ref a_lacking, .ref a_costs, .ref a_worths, .int v_this_bestWorth, .ref a_wholes, .ref a_parts, .ref a_firsts])), (a_wholes, .inl (cA 0, 13, .inl f1)), (a_parts, .inl (cA 0, 13, .inl f_parts)), (a_p1, .inl (cA 0, 12, .inl f_p1)), (a_firsts, .inl (cA 0, 13, .inl f_firsts))] := hD
  refine lv_aload_n S.1 S.2.1 dX6_findCuts_8 rfl (lv_at hl 0 rfl) ?_
  refine mi_get S hK hP in_X6_findCuts_X6 0 rfl rfl 9 (by decide) lk_X6_findCuts_36 rfl dX6_findCuts_9 ?_
  refine lv_bipush (v := (12 : Int32)) S.1 S.2.1 dX6_findCuts_12 (by decide) ?_
  refine lv_iconst (v := (0 : Int32)) S.1 S.2.1 dX6_findCuts_14 (by decide) ?_
  refine mi_iast S hK hP hD hS 2 rfl h dX6_findCuts_15 (fun f2 H locs h hP hD hS => ?_)
  have hP : va_P D vwCl [(a_this, .inr (6, [.ref a_lengths, .ref a_fitsBehind, .ref a_ways, .ref a_reached, .ref a_lacking, .ref a_costs, .ref a_worths, .int v_this_bestWorth, .ref a_wholes, .ref a_parts, .ref a_firsts])), (a_wholes, .inl (cA 0, 13, .inl f1)), (a_parts, .inl (cA 0, 13, .inl f2)), (a_p1, .inl (cA 0, 12, .inl f_p1)), (a_firsts, .inl (cA 0, 13, .inl f_firsts))] H := hP
  have hD : va_D A [(a_this, .inr (6, [.ref a_lengths, .ref a_fitsBehind, .ref a_ways, .ref a_reached, .ref a_lacking, .ref a_costs, .ref a_worths, .int v_this_bestWorth, .ref a_wholes, .ref a_parts, .ref a_firsts])), (a_wholes, .inl (cA 0, 13, .inl f1)), (a_parts, .inl (cA 0, 13, .inl f2)), (a_p1, .inl (cA 0, 12, .inl f_p1)), (a_firsts, .inl (cA 0, 13, .inl f_firsts))] := hD
  refine lv_bipush (v := (11 : Int32)) S.1 S.2.1 dX6_findCuts_16 (by decide) ?_
  refine lv_istore_n (lv' := [(3, .int (11 : Int32)), (0, .ref a_this), (1, .ref a_p1), (2, .int x2)]) S.1 S.2.1 dX6_findCuts_18 rfl hl (by decide) rfl (fun ls hl => ?_)
  exact w_X6_findCuts_19 S hr hlk hK hA a_this a_lengths a_fitsBehind a_ways a_reached a_lacking a_costs a_worths a_wholes a_parts a_firsts a_p1 v_this_bestWorth f_p1 mFU f1 f2 f_firsts x2 (11 : Int32) h H locs ls hP hD hS (lv_sub hl [1, 2, 3, 0] rfl)
set_option maxHeartbeats 4000000 in
set_option maxRecDepth 100000 in
theorem c_X6_findCuts (l : Launch) (D : va_G) (cA : Nat → ClassId) (a_this a_lengths a_fitsBehind a_ways a_reached a_lacking a_costs a_worths a_wholes a_parts a_firsts a_p1 : Nat) (v_this_bestWorth : Int32) (f_wholes : Nat → Int32) (f_parts : Nat → Int32) (f_p1 : Nat → Int32) (f_firsts : Nat → Int32) (x2 : Int32) {r : (Nat → Int32) × (Nat → Int32) × (Nat → Int32)} (h : m_X6_findCuts f_wholes f_parts f_p1 f_firsts x2 = some r) : MEv l yX6_findCuts wsX6_findCuts { frames := 2, cells := 0, slots := 0, locals := 47 } D cA [.ref a_this, .ref a_p1, .int x2] [(a_this, .inr (6, [.ref a_lengths, .ref a_fitsBehind, .ref a_ways, .ref a_reached, .ref a_lacking, .ref a_costs, .ref a_worths, .int v_this_bestWorth, .ref a_wholes, .ref a_parts, .ref a_firsts])), (a_wholes, .inl (cA 0, 13, .inl f_wholes)), (a_parts, .inl (cA 0, 13, .inl f_parts)), (a_p1, .inl (cA 0, 12, .inl f_p1)), (a_firsts, .inl (cA 0, 13, .inl f_firsts))] [(a_this, .inr (6, [.ref a_lengths, .ref a_fitsBehind, .ref a_ways, .ref a_reached, .ref a_lacking, .ref a_costs, .ref a_worths, .int v_this_bestWorth, .ref a_wholes, .ref a_parts, .ref a_firsts])), (a_wholes, .inl (cA 0, 13, .inl r.1)), (a_parts, .inl (cA 0, 13, .inl r.2.1)), (a_p1, .inl (cA 0, 12, .inl f_p1)), (a_firsts, .inl (cA 0, 13, .inl r.2.2))] := by
  refine mE_of (cc := cX6_findCuts) (maxL := 8) (ret := none) (Qc := fun A => va_Qv (fun (_ : Unit) => True) (gPost D A [(a_this, .inr (6, [.ref a_lengths, .ref a_fitsBehind, .ref a_ways, .ref a_reached, .ref a_lacking, .ref a_costs, .ref a_worths, .int v_this_bestWorth, .ref a_wholes, .ref a_parts, .ref a_firsts])), (a_wholes, .inl (cA 0, 13, .inl r.1)), (a_parts, .inl (cA 0, 13, .inl r.2.1)), (a_p1, .inl (cA 0, 12, .inl f_p1)), (a_firsts, .inl (cA 0, 13, .inl r.2.2))]) A) (by decide) rfl (Nat.le_of_ble_eq_true rfl) ?_
  intro p e s m below meth c A S hr hlk hK hA hP hD hS ls hl
  exact w_X6_findCuts_0 S hr hlk hK hA a_this a_lengths a_fitsBehind a_ways a_reached a_lacking a_costs a_worths a_wholes a_parts a_firsts a_p1 v_this_bestWorth f_p1 f_wholes f_parts f_firsts x2 h s.heap [] ls hP hD hS (lv_sub hl [0, 1, 2] rfl)

-- X6_ofCut
theorem in_X6_ofCut_X4 : ∀ w ∈ u_ws RX4 TX4 13, w ∈ wsX6_ofCut := by decide +kernel
theorem lk_X6_ofCut_112 : Cond.fieldLink RX6 112 (TX4 1).1 (TX4 1).2.1 (TX4 1).2.2.1 ∈ wsX6_ofCut := by decide +kernel
theorem in_X6_ofCut_X6 : ∀ w ∈ u_ws RX6 TX6 11, w ∈ wsX6_ofCut := by decide +kernel
theorem lk_X6_ofCut_36 : Cond.fieldLink RX6 36 (TX6 9).1 (TX6 9).2.1 (TX6 9).2.2.1 ∈ wsX6_ofCut := by decide +kernel
theorem lk_X6_ofCut_33 : Cond.fieldLink RX6 33 (TX6 8).1 (TX6 8).2.1 (TX6 8).2.2.1 ∈ wsX6_ofCut := by decide +kernel
theorem lk_X6_ofCut_39 : Cond.fieldLink RX6 39 (TX6 10).1 (TX6 10).2.1 (TX6 10).2.2.1 ∈ wsX6_ofCut := by decide +kernel
def m_X6_ofCut_B84 (f_p1_weathers : Nat → Int32) (f_wholes : Nat → Int32) (f_parts : Nat → Int32) (f_firsts : Nat → Int32) (x4 : Int32) : Option (Int32 × (Nat → Int32) × (Nat → Int32) × (Nat → Int32)) := if (12 : Int32) ≤ x4 then some ((-5 : Int32), f_wholes, f_parts, f_firsts) else mRd f_firsts 13 x4 (fun (t1 : Int32) => some (t1, f_wholes, f_parts, f_firsts))
def m_X6_ofCut_L53 (f_p1_weathers : Nat → Int32) : Nat → (Nat → Int32) → (Nat → Int32) → (Nat → Int32) → Int32 → Int32 → Int32 → Option (Int32 × (Nat → Int32) × (Nat → Int32) × (Nat → Int32))
  | 0, _, _, _, _, _, _ => none
  | n + 1, f_wholes, f_parts, f_firsts, x3, x4, x5 => if x3 ≤ x5 then m_X6_ofCut_B84 f_p1_weathers f_wholes f_parts f_firsts x4 else if (12 : Int32) ≤ x4 then m_X6_ofCut_B84 f_p1_weathers f_wholes f_parts f_firsts x4 else mRd f_firsts 13 x4 (fun (t1 : Int32) => mLet (x4 + t1) (fun (t2 : Int32) => mLet (x5 + (1 : Int32)) (fun (t3 : Int32) => m_X6_ofCut_L53 f_p1_weathers n f_wholes f_parts f_firsts x3 t2 t3)))
def m_X6_ofCut (f_wholes : Nat → Int32) (f_parts : Nat → Int32) (f_p1_weathers : Nat → Int32) (f_firsts : Nat → Int32) (x2 : Int32) (x3 : Int32) : Option (Int32 × (Nat → Int32) × (Nat → Int32) × (Nat → Int32)) := mCall (m_X6_findCuts f_wholes f_parts f_p1_weathers f_firsts x2) (fun (r1 : (Nat → Int32) × (Nat → Int32) × (Nat → Int32)) => if x3 = (-2 : Int32) then mRd r1.1 13 (0 : Int32) (fun (t4 : Int32) => some (t4, r1.1, r1.2.1, r1.2.2)) else if x3 = (-1 : Int32) then mRd r1.2.1 13 (0 : Int32) (fun (t3 : Int32) => some (t3, r1.1, r1.2.1, r1.2.2)) else mRd r1.2.1 13 (0 : Int32) (fun (t2 : Int32) => if x3 < t2 then m_X6_ofCut_L53 f_p1_weathers mFU r1.1 r1.2.1 r1.2.2 x3 (0 : Int32) (0 : Int32) else some ((-5 : Int32), r1.1, r1.2.1, r1.2.2)))
def P_X6_ofCut_84 (p : Program) (l : Launch) (e : Env) (s : State) (m : MethodId) (args : Array Value) (below : List Frame) (meth : Method) (c : Code) (D : va_G) (cA : Nat → ClassId) (A : Nat → Prop) (r : Int32 × (Nat → Int32) × (Nat → Int32) × (Nat → Int32)) (a_p1 a_p1_kinds a_p1_weathers a_p1_prices a_p1_lumps a_p1_past a_p1_evening a_p1_sights a_p1_glimpses a_p1_shown a_this a_lengths a_fitsBehind a_ways a_reached a_lacking a_costs a_worths a_wholes a_parts a_firsts : Nat) (v_p1_burnt : Int32) (v_p1_money : Int32) (v_p1_clock : Int32) (v_p1_sightSize : Int32) (v_this_bestWorth : Int32) (f_wholes : Nat → Int32) (f_parts : Nat → Int32) (f_p1_weathers : Nat → Int32) (f_firsts : Nat → Int32) (x4 : Int32) : Prop := ∀ (H : Heap) (locs : List Loc) (ls : Array Slot), va_P D vwCl [(a_p1, .inr (4, [.ref a_p1_kinds, .ref a_p1_weathers, .ref a_p1_prices, .ref a_p1_lumps, .ref a_p1_past, .ref a_p1_evening, .ref a_p1_sights, .ref a_p1_glimpses, .ref a_p1_shown, .int v_p1_burnt, .int v_p1_money, .int v_p1_clock, .int v_p1_sightSize])), (a_this, .inr (6, [.ref a_lengths, .ref a_fitsBehind, .ref a_ways, .ref a_reached, .ref a_lacking, .ref a_costs, .ref a_worths, .int v_this_bestWorth, .ref a_wholes, .ref a_parts, .ref a_firsts])), (a_wholes, .inl (cA 0, 13, .inl f_wholes)), (a_parts, .inl (cA 0, 13, .inl f_parts)), (a_p1_weathers, .inl (cA 0, 12, .inl f_p1_weathers)), (a_firsts, .inl (cA 0, 13, .inl f_firsts))] H → va_D A [(a_p1, .inr (4, [.ref a_p1_kinds, .ref a_p1_weathers, .ref a_p1_prices, .ref a_p1_lumps, .ref a_p1_past, .ref a_p1_evening, .ref a_p1_sights, .ref a_p1_glimpses, .ref a_p1_shown, .int v_p1_burnt, .int v_p1_money, .int v_p1_clock, .int v_p1_sightSize])), (a_this, .inr (6, [.ref a_lengths, .ref a_fitsBehind, .ref a_ways, .ref a_reached, .ref a_lacking, .ref a_costs, .ref a_worths, .int v_this_bestWorth, .ref a_wholes, .ref a_parts, .ref a_firsts])), (a_wholes, .inl (cA 0, 13, .inl f_wholes)), (a_parts, .inl (cA 0, 13, .inl f_parts)), (a_p1_weathers, .inl (cA 0, 12, .inl f_p1_weathers)), (a_firsts, .inl (cA 0, 13, .inl f_firsts))] → va_S A s.heap H locs → lv_has ls 6 [(0, .ref a_this), (4, .int x4)] → W p l e { frames := 3, cells := 0, slots := 0, locals := 74 } s m args below meth c H locs 0 0 (MQ below (va_Qi (fun (y : Int32) (_ : Unit) => y = r.1) (gPost D A [(a_p1, .inr (4, [.ref a_p1_kinds, .ref a_p1_weathers, .ref a_p1_prices, .ref a_p1_lumps, .ref a_p1_past, .ref a_p1_evening, .ref a_p1_sights, .ref a_p1_glimpses, .ref a_p1_shown, .int v_p1_burnt, .int v_p1_money, .int v_p1_clock, .int v_p1_sightSize])), (a_this, .inr (6, [.ref a_lengths, .ref a_fitsBehind, .ref a_ways, .ref a_reached, .ref a_lacking, .ref a_costs, .ref a_worths, .int v_this_bestWorth, .ref a_wholes, .ref a_parts, .ref a_firsts])), (a_wholes, .inl (cA 0, 13, .inl r.2.1)), (a_parts, .inl (cA 0, 13, .inl r.2.2.1)), (a_p1_weathers, .inl (cA 0, 12, .inl f_p1_weathers)), (a_firsts, .inl (cA 0, 13, .inl r.2.2.2))]) A) args s 0 0 A) (F0 m 84 ls [])
def P_X6_ofCut_53 (p : Program) (l : Launch) (e : Env) (s : State) (m : MethodId) (args : Array Value) (below : List Frame) (meth : Method) (c : Code) (D : va_G) (cA : Nat → ClassId) (A : Nat → Prop) (r : Int32 × (Nat → Int32) × (Nat → Int32) × (Nat → Int32)) (a_p1 a_p1_kinds a_p1_weathers a_p1_prices a_p1_lumps a_p1_past a_p1_evening a_p1_sights a_p1_glimpses a_p1_shown a_this a_lengths a_fitsBehind a_ways a_reached a_lacking a_costs a_worths a_wholes a_parts a_firsts : Nat) (v_p1_burnt : Int32) (v_p1_money : Int32) (v_p1_clock : Int32) (v_p1_sightSize : Int32) (v_this_bestWorth : Int32) (f_wholes : Nat → Int32) (f_parts : Nat → Int32) (f_p1_weathers : Nat → Int32) (f_firsts : Nat → Int32) (x3 : Int32) (x4 : Int32) (x5 : Int32) : Prop := ∀ (H : Heap) (locs : List Loc) (ls : Array Slot), va_P D vwCl [(a_p1, .inr (4, [.ref a_p1_kinds, .ref a_p1_weathers, .ref a_p1_prices, .ref a_p1_lumps, .ref a_p1_past, .ref a_p1_evening, .ref a_p1_sights, .ref a_p1_glimpses, .ref a_p1_shown, .int v_p1_burnt, .int v_p1_money, .int v_p1_clock, .int v_p1_sightSize])), (a_this, .inr (6, [.ref a_lengths, .ref a_fitsBehind, .ref a_ways, .ref a_reached, .ref a_lacking, .ref a_costs, .ref a_worths, .int v_this_bestWorth, .ref a_wholes, .ref a_parts, .ref a_firsts])), (a_wholes, .inl (cA 0, 13, .inl f_wholes)), (a_parts, .inl (cA 0, 13, .inl f_parts)), (a_p1_weathers, .inl (cA 0, 12, .inl f_p1_weathers)), (a_firsts, .inl (cA 0, 13, .inl f_firsts))] H → va_D A [(a_p1, .inr (4, [.ref a_p1_kinds, .ref a_p1_weathers, .ref a_p1_prices, .ref a_p1_lumps, .ref a_p1_past, .ref a_p1_evening, .ref a_p1_sights, .ref a_p1_glimpses, .ref a_p1_shown, .int v_p1_burnt, .int v_p1_money, .int v_p1_clock, .int v_p1_sightSize])), (a_this, .inr (6, [.ref a_lengths, .ref a_fitsBehind, .ref a_ways, .ref a_reached, .ref a_lacking, .ref a_costs, .ref a_worths, .int v_this_bestWorth, .ref a_wholes, .ref a_parts, .ref a_firsts])), (a_wholes, .inl (cA 0, 13, .inl f_wholes)), (a_parts, .inl (cA 0, 13, .inl f_parts)), (a_p1_weathers, .inl (cA 0, 12, .inl f_p1_weathers)), (a_firsts, .inl (cA 0, 13, .inl f_firsts))] → va_S A s.heap H locs → lv_has ls 6 [(0, .ref a_this), (3, .int x3), (4, .int x4), (5, .int x5)] → W p l e { frames := 3, cells := 0, slots := 0, locals := 74 } s m args below meth c H locs 0 0 (MQ below (va_Qi (fun (y : Int32) (_ : Unit) => y = r.1) (gPost D A [(a_p1, .inr (4, [.ref a_p1_kinds, .ref a_p1_weathers, .ref a_p1_prices, .ref a_p1_lumps, .ref a_p1_past, .ref a_p1_evening, .ref a_p1_sights, .ref a_p1_glimpses, .ref a_p1_shown, .int v_p1_burnt, .int v_p1_money, .int v_p1_clock, .int v_p1_sightSize])), (a_this, .inr (6, [.ref a_lengths, .ref a_fitsBehind, .ref a_ways, .ref a_reached, .ref a_lacking, .ref a_costs, .ref a_worths, .int v_this_bestWorth, .ref a_wholes, .ref a_parts, .ref a_firsts])), (a_wholes, .inl (cA 0, 13, .inl r.2.1)), (a_parts, .inl (cA 0, 13, .inl r.2.2.1)), (a_p1_weathers, .inl (cA 0, 12, .inl f_p1_weathers)), (a_firsts, .inl (cA 0, 13, .inl r.2.2.2))]) A) args s 0 0 A) (F0 m 53 ls [])
def P_X6_ofCut_0 (p : Program) (l : Launch) (e : Env) (s : State) (m : MethodId) (args : Array Value) (below : List Frame) (meth : Method) (c : Code) (D : va_G) (cA : Nat → ClassId) (A : Nat → Prop) (r : Int32 × (Nat → Int32) × (Nat → Int32) × (Nat → Int32)) (a_p1 a_p1_kinds a_p1_weathers a_p1_prices a_p1_lumps a_p1_past a_p1_evening a_p1_sights a_p1_glimpses a_p1_shown a_this a_lengths a_fitsBehind a_ways a_reached a_lacking a_costs a_worths a_wholes a_parts a_firsts : Nat) (v_p1_burnt : Int32) (v_p1_money : Int32) (v_p1_clock : Int32) (v_p1_sightSize : Int32) (v_this_bestWorth : Int32) (f_wholes : Nat → Int32) (f_parts : Nat → Int32) (f_p1_weathers : Nat → Int32) (f_firsts : Nat → Int32) (x2 : Int32) (x3 : Int32) : Prop := ∀ (H : Heap) (locs : List Loc) (ls : Array Slot), va_P D vwCl [(a_p1, .inr (4, [.ref a_p1_kinds, .ref a_p1_weathers, .ref a_p1_prices, .ref a_p1_lumps, .ref a_p1_past, .ref a_p1_evening, .ref a_p1_sights, .ref a_p1_glimpses, .ref a_p1_shown, .int v_p1_burnt, .int v_p1_money, .int v_p1_clock, .int v_p1_sightSize])), (a_this, .inr (6, [.ref a_lengths, .ref a_fitsBehind, .ref a_ways, .ref a_reached, .ref a_lacking, .ref a_costs, .ref a_worths, .int v_this_bestWorth, .ref a_wholes, .ref a_parts, .ref a_firsts])), (a_wholes, .inl (cA 0, 13, .inl f_wholes)), (a_parts, .inl (cA 0, 13, .inl f_parts)), (a_p1_weathers, .inl (cA 0, 12, .inl f_p1_weathers)), (a_firsts, .inl (cA 0, 13, .inl f_firsts))] H → va_D A [(a_p1, .inr (4, [.ref a_p1_kinds, .ref a_p1_weathers, .ref a_p1_prices, .ref a_p1_lumps, .ref a_p1_past, .ref a_p1_evening, .ref a_p1_sights, .ref a_p1_glimpses, .ref a_p1_shown, .int v_p1_burnt, .int v_p1_money, .int v_p1_clock, .int v_p1_sightSize])), (a_this, .inr (6, [.ref a_lengths, .ref a_fitsBehind, .ref a_ways, .ref a_reached, .ref a_lacking, .ref a_costs, .ref a_worths, .int v_this_bestWorth, .ref a_wholes, .ref a_parts, .ref a_firsts])), (a_wholes, .inl (cA 0, 13, .inl f_wholes)), (a_parts, .inl (cA 0, 13, .inl f_parts)), (a_p1_weathers, .inl (cA 0, 12, .inl f_p1_weathers)), (a_firsts, .inl (cA 0, 13, .inl f_firsts))] → va_S A s.heap H locs → lv_has ls 6 [(0, .ref a_this), (1, .ref a_p1), (2, .int x2), (3, .int x3)] → W p l e { frames := 3, cells := 0, slots := 0, locals := 74 } s m args below meth c H locs 0 0 (MQ below (va_Qi (fun (y : Int32) (_ : Unit) => y = r.1) (gPost D A [(a_p1, .inr (4, [.ref a_p1_kinds, .ref a_p1_weathers, .ref a_p1_prices, .ref a_p1_lumps, .ref a_p1_past, .ref a_p1_evening, .ref a_p1_sights, .ref a_p1_glimpses, .ref a_p1_shown, .int v_p1_burnt, .int v_p1_money, .int v_p1_clock, .int v_p1_sightSize])), (a_this, .inr (6, [.ref a_lengths, .ref a_fitsBehind, .ref a_ways, .ref a_reached, .ref a_lacking, .ref a_costs, .ref a_worths, .int v_this_bestWorth, .ref a_wholes, .ref a_parts, .ref a_firsts])), (a_wholes, .inl (cA 0, 13, .inl r.2.1)), (a_parts, .inl (cA 0, 13, .inl r.2.2.1)), (a_p1_weathers, .inl (cA 0, 12, .inl f_p1_weathers)), (a_firsts, .inl (cA 0, 13, .inl r.2.2.2))]) A) args s 0 0 A) (F0 m 0 ls [])
set_option maxHeartbeats 4000000 in
set_option maxRecDepth 100000 in
theorem w_X6_ofCut_84 {p : Program} {l : Launch} {e : Env} {s : State} {m : MethodId} {args : Array Value} {below : List Frame} {meth : Method} {c : Code} {D : va_G} {cA : Nat → ClassId} {A : Nat → Prop} {r : Int32 × (Nat → Int32) × (Nat → Int32) × (Nat → Int32)} (S : CallFix p m c cX6_ofCut 6 s args wsX6_ofCut RX6) (hr : meth.sig.returnType = some .int) (hlk : meth.locks = false) (hK : gK D cA s) (hA : ∀ q : Nat, s.heap.size ≤ q → A q) (a_p1 a_p1_kinds a_p1_weathers a_p1_prices a_p1_lumps a_p1_past a_p1_evening a_p1_sights a_p1_glimpses a_p1_shown a_this a_lengths a_fitsBehind a_ways a_reached a_lacking a_costs a_worths a_wholes a_parts a_firsts : Nat) (v_p1_burnt : Int32) (v_p1_money : Int32) (v_p1_clock : Int32) (v_p1_sightSize : Int32) (v_this_bestWorth : Int32) (f_p1_weathers : Nat → Int32) (f_wholes : Nat → Int32) (f_parts : Nat → Int32) (f_firsts : Nat → Int32) (x4 : Int32) (h : m_X6_ofCut_B84 f_p1_weathers f_wholes f_parts f_firsts x4 = some r) : P_X6_ofCut_84 p l e s m args below meth c D cA A r a_p1 a_p1_kinds a_p1_weathers a_p1_prices a_p1_lumps a_p1_past a_p1_evening a_p1_sights a_p1_glimpses a_p1_shown a_this a_lengths a_fitsBehind a_ways a_reached a_lacking a_costs a_worths a_wholes a_parts a_firsts v_p1_burnt v_p1_money v_p1_clock v_p1_sightSize v_this_bestWorth f_wholes f_parts f_p1_weathers f_firsts x4 := by
  intro H locs ls hP hD hS hl
  unfold m_X6_ofCut_B84 at h
  refine lv_iload S.1 S.2.1 dX6_ofCut_84 (lv_at hl 1 rfl) ?_
  refine lv_bipush (v := (12 : Int32)) S.1 S.2.1 dX6_ofCut_86 (by decide) ?_
  refine mi_icmp_ge (tgt := 101) S h dX6_ofCut_88 (by decide) (fun h => ?_) (fun h => ?_)
  · refine lv_bipush (v := (-5 : Int32)) S.1 S.2.1 dX6_ofCut_101 (by decide) ?_
    cases h
    exact mi_iretE S hr hlk rfl hP hD hS dX6_ofCut_103
  · refine lv_aload_n S.1 S.2.1 dX6_ofCut_91 rfl (lv_at hl 0 rfl) ?_
    refine mi_get S hK hP in_X6_ofCut_X6 1 rfl rfl 10 (by decide) lk_X6_ofCut_39 rfl dX6_ofCut_92 ?_
    refine lv_iload S.1 S.2.1 dX6_ofCut_95 (lv_at hl 1 rfl) ?_
    refine mi_iald S hK hP 5 rfl h dX6_ofCut_97 (fun t1 h => ?_)
    refine lv_goto (tgt := 103) S.1 S.2.1 dX6_ofCut_98 (by decide) ?_
    cases h
    exact mi_iretE S hr hlk rfl hP hD hS dX6_ofCut_103
set_option maxHeartbeats 4000000 in
set_option maxRecDepth 100000 in
theorem w_X6_ofCut_53 {p : Program} {l : Launch} {e : Env} {s : State} {m : MethodId} {args : Array Value} {below : List Frame} {meth : Method} {c : Code} {D : va_G} {cA : Nat → ClassId} {A : Nat → Prop} {r : Int32 × (Nat → Int32) × (Nat → Int32) × (Nat → Int32)} (S : CallFix p m c cX6_ofCut 6 s args wsX6_ofCut RX6) (hr : meth.sig.returnType = some .int) (hlk : meth.locks = false) (hK : gK D cA s) (hA : ∀ q : Nat, s.heap.size ≤ q → A q) (a_p1 a_p1_kinds a_p1_weathers a_p1_prices a_p1_lumps a_p1_past a_p1_evening a_p1_sights a_p1_glimpses a_p1_shown a_this a_lengths a_fitsBehind a_ways a_reached a_lacking a_costs a_worths a_wholes a_parts a_firsts : Nat) (v_p1_burnt : Int32) (v_p1_money : Int32) (v_p1_clock : Int32) (v_p1_sightSize : Int32) (v_this_bestWorth : Int32) (f_p1_weathers : Nat → Int32) : ∀ (n : Nat) (f_wholes : Nat → Int32) (f_parts : Nat → Int32) (f_firsts : Nat → Int32) (x3 : Int32) (x4 : Int32) (x5 : Int32), m_X6_ofCut_L53 f_p1_weathers n f_wholes f_parts f_firsts x3 x4 x5 = some r → P_X6_ofCut_53 p l e s m args below meth c D cA A r a_p1 a_p1_kinds a_p1_weathers a_p1_prices a_p1_lumps a_p1_past a_p1_evening a_p1_sights a_p1_glimpses a_p1_shown a_this a_lengths a_fitsBehind a_ways a_reached a_lacking a_costs a_worths a_wholes a_parts a_firsts v_p1_burnt v_p1_money v_p1_clock v_p1_sightSize v_this_bestWorth f_wholes f_parts f_p1_weathers f_firsts x3 x4 x5 := by
  intro n
  induction n with
  | zero =>
    intro f_wholes f_parts f_firsts x3 x4 x5 h
    have h : none = some r := h
    cases h
  | succ n ih =>
    intro f_wholes f_parts f_firsts x3 x4 x5 h
    intro H locs ls hP hD hS hl
    rw [m_X6_ofCut_L53] at h
    refine lv_iload S.1 S.2.1 dX6_ofCut_53 (lv_at hl 3 rfl) ?_
    refine lv_iload_n S.1 S.2.1 dX6_ofCut_55 rfl (lv_at hl 1 rfl) ?_
    refine mi_icmp_ge (tgt := 84) S h dX6_ofCut_56 (by decide) (fun h => ?_) (fun h => ?_)
    · exact w_X6_ofCut_84 S hr hlk hK hA a_p1 a_p1_kinds a_p1_weathers a_p1_prices a_p1_lumps a_p1_past a_p1_evening a_p1_sights a_p1_glimpses a_p1_shown a_this a_lengths a_fitsBehind a_ways a_reached a_lacking a_costs a_worths a_wholes a_parts a_firsts v_p1_burnt v_p1_money v_p1_clock v_p1_sightSize v_this_bestWorth f_p1_weathers f_wholes f_parts f_firsts x4 h H locs ls hP hD hS (lv_sub hl [0, 2] rfl)
    · refine lv_iload S.1 S.2.1 dX6_ofCut_59 (lv_at hl 2 rfl) ?_
      refine lv_bipush (v := (12 : Int32)) S.1 S.2.1 dX6_ofCut_61 (by decide) ?_
      refine mi_icmp_ge (tgt := 84) S h dX6_ofCut_63 (by decide) (fun h => ?_) (fun h => ?_)
      · exact w_X6_ofCut_84 S hr hlk hK hA a_p1 a_p1_kinds a_p1_weathers a_p1_prices a_p1_lumps a_p1_past a_p1_evening a_p1_sights a_p1_glimpses a_p1_shown a_this a_lengths a_fitsBehind a_ways a_reached a_lacking a_costs a_worths a_wholes a_parts a_firsts v_p1_burnt v_p1_money v_p1_clock v_p1_sightSize v_this_bestWorth f_p1_weathers f_wholes f_parts f_firsts x4 h H locs ls hP hD hS (lv_sub hl [0, 2] rfl)
      · refine lv_iload S.1 S.2.1 dX6_ofCut_66 (lv_at hl 2 rfl) ?_
        refine lv_aload_n S.1 S.2.1 dX6_ofCut_68 rfl (lv_at hl 0 rfl) ?_
        refine mi_get S hK hP in_X6_ofCut_X6 1 rfl rfl 10 (by decide) lk_X6_ofCut_39 rfl dX6_ofCut_69 ?_
        refine lv_iload S.1 S.2.1 dX6_ofCut_72 (lv_at hl 2 rfl) ?_
        refine mi_iald S hK hP 5 rfl h dX6_ofCut_74 (fun t1 h => ?_)
        refine lv_iadd S.1 S.2.1 dX6_ofCut_75 ?_
        refine mi_let h (fun t2 h => ?_)
        refine lv_istore (lv' := [(4, .int t2), (0, .ref a_this), (3, .int x3), (5, .int x5)]) S.1 S.2.1 dX6_ofCut_76 hl (by decide) rfl (fun ls hl => ?_)
        obtain ⟨t3, et3, h⟩ := mLet_use h
        refine lv_iinc (v := t3) (lv' := [(5, .int t3), (4, .int t2), (0, .ref a_this), (3, .int x3)]) S.1 S.2.1 dX6_ofCut_78 hl (k := 3) rfl (by rw [et3]; rfl) (by decide) rfl (fun ls hl => ?_)
        clear et3
        refine lv_goto (tgt := 53) S.1 S.2.1 dX6_ofCut_81 (by decide) ?_
        exact ih f_wholes f_parts f_firsts x3 t2 t3 h H locs ls hP hD hS (lv_sub hl [2, 3, 1, 0] rfl)
set_option maxHeartbeats 4000000 in
set_option maxRecDepth 100000 in
theorem w_X6_ofCut_0 {p : Program} {l : Launch} {e : Env} {s : State} {m : MethodId} {args : Array Value} {below : List Frame} {meth : Method} {c : Code} {D : va_G} {cA : Nat → ClassId} {A : Nat → Prop} {r : Int32 × (Nat → Int32) × (Nat → Int32) × (Nat → Int32)} (S : CallFix p m c cX6_ofCut 6 s args wsX6_ofCut RX6) (hr : meth.sig.returnType = some .int) (hlk : meth.locks = false) (hK : gK D cA s) (hA : ∀ q : Nat, s.heap.size ≤ q → A q) (a_p1 a_p1_kinds a_p1_weathers a_p1_prices a_p1_lumps a_p1_past a_p1_evening a_p1_sights a_p1_glimpses a_p1_shown a_this a_lengths a_fitsBehind a_ways a_reached a_lacking a_costs a_worths a_wholes a_parts a_firsts : Nat) (v_p1_burnt : Int32) (v_p1_money : Int32) (v_p1_clock : Int32) (v_p1_sightSize : Int32) (v_this_bestWorth : Int32) (f_p1_weathers : Nat → Int32) (f_wholes : Nat → Int32) (f_parts : Nat → Int32) (f_firsts : Nat → Int32) (x2 : Int32) (x3 : Int32) (h : m_X6_ofCut f_wholes f_parts f_p1_weathers f_firsts x2 x3 = some r) : P_X6_ofCut_0 p l e s m args below meth c D cA A r a_p1 a_p1_kinds a_p1_weathers a_p1_prices a_p1_lumps a_p1_past a_p1_evening a_p1_sights a_p1_glimpses a_p1_shown a_this a_lengths a_fitsBehind a_ways a_reached a_lacking a_costs a_worths a_wholes a_parts a_firsts v_p1_burnt v_p1_money v_p1_clock v_p1_sightSize v_this_bestWorth f_wholes f_parts f_p1_weathers f_firsts x2 x3 := by
  intro H locs ls hP hD hS hl
  unfold m_X6_ofCut at h
  refine lv_aload_n S.1 S.2.1 dX6_ofCut_0 rfl (lv_at hl 0 rfl) ?_
  refine lv_aload_n S.1 S.2.1 dX6_ofCut_1 rfl (lv_at hl 1 rfl) ?_
  refine mi_get S hK hP in_X6_ofCut_X4 0 rfl rfl 1 (by decide) lk_X6_ofCut_112 rfl dX6_ofCut_2 ?_
  refine lv_iload_n S.1 S.2.1 dX6_ofCut_5 rfl (lv_at hl 2 rfl) ?_
  obtain ⟨r1, hr1, h⟩ := mCall_use h
  refine mc_Ev (W1 := [(a_p1, .inr (4, [.ref a_p1_kinds, .ref a_p1_weathers, .ref a_p1_prices, .ref a_p1_lumps, .ref a_p1_past, .ref a_p1_evening, .ref a_p1_sights, .ref a_p1_glimpses, .ref a_p1_shown, .int v_p1_burnt, .int v_p1_money, .int v_p1_clock, .int v_p1_sightSize])), (a_this, .inr (6, [.ref a_lengths, .ref a_fitsBehind, .ref a_ways, .ref a_reached, .ref a_lacking, .ref a_costs, .ref a_worths, .int v_this_bestWorth, .ref a_wholes, .ref a_parts, .ref a_firsts])), (a_wholes, .inl (cA 0, 13, .inl r1.1)), (a_parts, .inl (cA 0, 13, .inl r1.2.1)), (a_p1_weathers, .inl (cA 0, 12, .inl f_p1_weathers)), (a_firsts, .inl (cA 0, 13, .inl r1.2.2))]) (va_runV (As := [.ref a_p1_weathers, .int x2]) (rest := []) S (c_X6_findCuts l D cA a_this a_lengths a_fitsBehind a_ways a_reached a_lacking a_costs a_worths a_wholes a_parts a_firsts a_p1_weathers v_this_bestWorth f_wholes f_parts f_p1_weathers f_firsts x2 hr1 H.size) (cwV 2 S.2.2.2.2 gX6_ofCut_X6_findCuts rfl rfl rfl (by decide +kernel) ⟨Nat.le_of_ble_eq_true rfl, Nat.le_of_ble_eq_true rfl⟩) (pre_EV hK hP hD [1, 2, 3, 4, 5] rfl (by decide) (ci := 6) (q0 := 1) rfl rfl) rfl rfl hl.1 rfl (lv_room (Nat.le_of_ble_eq_true rfl)) dX6_ofCut_6 ⟨Nat.le_of_ble_eq_true rfl, Nat.le_of_ble_eq_true rfl⟩) hP hD hS hA [1, 2, 3, 4, 5] rfl [0] (wr := [(a_p1, .inr (4, [.ref a_p1_kinds, .ref a_p1_weathers, .ref a_p1_prices, .ref a_p1_lumps, .ref a_p1_past, .ref a_p1_evening, .ref a_p1_sights, .ref a_p1_glimpses, .ref a_p1_shown, .int v_p1_burnt, .int v_p1_money, .int v_p1_clock, .int v_p1_sightSize]))]) rfl (by decide) (by decide) [0, 1, 2, 3, 4, 5] rfl (by decide) (fun H locs hP hD hS => ?_)
  refine lv_iload_n S.1 S.2.1 dX6_ofCut_9 rfl (lv_at hl 3 rfl) ?_
  refine lv_bipush (v := (-2 : Int32)) S.1 S.2.1 dX6_ofCut_10 (by decide) ?_
  refine mi_icmp_ne (tgt := 22) S h dX6_ofCut_12 (by decide) (fun h => ?_) (fun h => ?_)
  · refine lv_iload_n S.1 S.2.1 dX6_ofCut_22 rfl (lv_at hl 3 rfl) ?_
    refine lv_iconst (v := (-1 : Int32)) S.1 S.2.1 dX6_ofCut_23 (by decide) ?_
    refine mi_icmp_ne (tgt := 34) S h dX6_ofCut_24 (by decide) (fun h => ?_) (fun h => ?_)
    · refine lv_iload_n S.1 S.2.1 dX6_ofCut_34 rfl (lv_at hl 3 rfl) ?_
      refine lv_aload_n S.1 S.2.1 dX6_ofCut_35 rfl (lv_at hl 0 rfl) ?_
      refine mi_get S hK hP in_X6_ofCut_X6 1 rfl rfl 9 (by decide) lk_X6_ofCut_36 rfl dX6_ofCut_36 ?_
      refine lv_iconst (v := (0 : Int32)) S.1 S.2.1 dX6_ofCut_39 (by decide) ?_
      refine mi_iald S hK hP 3 rfl h dX6_ofCut_40 (fun t2 h => ?_)
      refine mi_icmp_lt (tgt := 47) S h dX6_ofCut_41 (by decide) (fun h => ?_) (fun h => ?_)
      · refine lv_iconst (v := (0 : Int32)) S.1 S.2.1 dX6_ofCut_47 (by decide) ?_
        refine lv_istore (lv' := [(4, .int (0 : Int32)), (0, .ref a_this), (1, .ref a_p1), (2, .int x2), (3, .int x3)]) S.1 S.2.1 dX6_ofCut_48 hl (by decide) rfl (fun ls hl => ?_)
        refine lv_iconst (v := (0 : Int32)) S.1 S.2.1 dX6_ofCut_50 (by decide) ?_
        refine lv_istore (lv' := [(5, .int (0 : Int32)), (4, .int (0 : Int32)), (0, .ref a_this), (1, .ref a_p1), (2, .int x2), (3, .int x3)]) S.1 S.2.1 dX6_ofCut_51 hl (by decide) rfl (fun ls hl => ?_)
        exact w_X6_ofCut_53 S hr hlk hK hA a_p1 a_p1_kinds a_p1_weathers a_p1_prices a_p1_lumps a_p1_past a_p1_evening a_p1_sights a_p1_glimpses a_p1_shown a_this a_lengths a_fitsBehind a_ways a_reached a_lacking a_costs a_worths a_wholes a_parts a_firsts v_p1_burnt v_p1_money v_p1_clock v_p1_sightSize v_this_bestWorth f_p1_weathers mFU r1.1 r1.2.1 r1.2.2 x3 (0 : Int32) (0 : Int32) h H locs ls hP hD hS (lv_sub hl [2, 5, 1, 0] rfl)
      · refine lv_bipush (v := (-5 : Int32)) S.1 S.2.1 dX6_ofCut_44 (by decide) ?_
        cases h
        exact mi_iretE S hr hlk rfl hP hD hS dX6_ofCut_46
    · refine lv_aload_n S.1 S.2.1 dX6_ofCut_27 rfl (lv_at hl 0 rfl) ?_
      refine mi_get S hK hP in_X6_ofCut_X6 1 rfl rfl 9 (by decide) lk_X6_ofCut_36 rfl dX6_ofCut_28 ?_
      refine lv_iconst (v := (0 : Int32)) S.1 S.2.1 dX6_ofCut_31 (by decide) ?_
      refine mi_iald S hK hP 3 rfl h dX6_ofCut_32 (fun t3 h => ?_)
      cases h
      exact mi_iretE S hr hlk rfl hP hD hS dX6_ofCut_33
  · refine lv_aload_n S.1 S.2.1 dX6_ofCut_15 rfl (lv_at hl 0 rfl) ?_
    refine mi_get S hK hP in_X6_ofCut_X6 1 rfl rfl 8 (by decide) lk_X6_ofCut_33 rfl dX6_ofCut_16 ?_
    refine lv_iconst (v := (0 : Int32)) S.1 S.2.1 dX6_ofCut_19 (by decide) ?_
    refine mi_iald S hK hP 2 rfl h dX6_ofCut_20 (fun t4 h => ?_)
    cases h
    exact mi_iretE S hr hlk rfl hP hD hS dX6_ofCut_21
set_option maxHeartbeats 4000000 in
set_option maxRecDepth 100000 in
theorem c_X6_ofCut (l : Launch) (D : va_G) (cA : Nat → ClassId) (a_p1 a_p1_kinds a_p1_weathers a_p1_prices a_p1_lumps a_p1_past a_p1_evening a_p1_sights a_p1_glimpses a_p1_shown a_this a_lengths a_fitsBehind a_ways a_reached a_lacking a_costs a_worths a_wholes a_parts a_firsts : Nat) (v_p1_burnt : Int32) (v_p1_money : Int32) (v_p1_clock : Int32) (v_p1_sightSize : Int32) (v_this_bestWorth : Int32) (f_wholes : Nat → Int32) (f_parts : Nat → Int32) (f_p1_weathers : Nat → Int32) (f_firsts : Nat → Int32) (x2 : Int32) (x3 : Int32) {r : Int32 × (Nat → Int32) × (Nat → Int32) × (Nat → Int32)} (h : m_X6_ofCut f_wholes f_parts f_p1_weathers f_firsts x2 x3 = some r) : MEi l yX6_ofCut wsX6_ofCut { frames := 3, cells := 0, slots := 0, locals := 74 } D cA [.ref a_this, .ref a_p1, .int x2, .int x3] [(a_p1, .inr (4, [.ref a_p1_kinds, .ref a_p1_weathers, .ref a_p1_prices, .ref a_p1_lumps, .ref a_p1_past, .ref a_p1_evening, .ref a_p1_sights, .ref a_p1_glimpses, .ref a_p1_shown, .int v_p1_burnt, .int v_p1_money, .int v_p1_clock, .int v_p1_sightSize])), (a_this, .inr (6, [.ref a_lengths, .ref a_fitsBehind, .ref a_ways, .ref a_reached, .ref a_lacking, .ref a_costs, .ref a_worths, .int v_this_bestWorth, .ref a_wholes, .ref a_parts, .ref a_firsts])), (a_wholes, .inl (cA 0, 13, .inl f_wholes)), (a_parts, .inl (cA 0, 13, .inl f_parts)), (a_p1_weathers, .inl (cA 0, 12, .inl f_p1_weathers)), (a_firsts, .inl (cA 0, 13, .inl f_firsts))] [(a_p1, .inr (4, [.ref a_p1_kinds, .ref a_p1_weathers, .ref a_p1_prices, .ref a_p1_lumps, .ref a_p1_past, .ref a_p1_evening, .ref a_p1_sights, .ref a_p1_glimpses, .ref a_p1_shown, .int v_p1_burnt, .int v_p1_money, .int v_p1_clock, .int v_p1_sightSize])), (a_this, .inr (6, [.ref a_lengths, .ref a_fitsBehind, .ref a_ways, .ref a_reached, .ref a_lacking, .ref a_costs, .ref a_worths, .int v_this_bestWorth, .ref a_wholes, .ref a_parts, .ref a_firsts])), (a_wholes, .inl (cA 0, 13, .inl r.2.1)), (a_parts, .inl (cA 0, 13, .inl r.2.2.1)), (a_p1_weathers, .inl (cA 0, 12, .inl f_p1_weathers)), (a_firsts, .inl (cA 0, 13, .inl r.2.2.2))] r.1 := by
  refine mE_of (cc := cX6_ofCut) (maxL := 6) (ret := (some .int)) (Qc := fun A => va_Qi (fun (y : Int32) (_ : Unit) => y = r.1) (gPost D A [(a_p1, .inr (4, [.ref a_p1_kinds, .ref a_p1_weathers, .ref a_p1_prices, .ref a_p1_lumps, .ref a_p1_past, .ref a_p1_evening, .ref a_p1_sights, .ref a_p1_glimpses, .ref a_p1_shown, .int v_p1_burnt, .int v_p1_money, .int v_p1_clock, .int v_p1_sightSize])), (a_this, .inr (6, [.ref a_lengths, .ref a_fitsBehind, .ref a_ways, .ref a_reached, .ref a_lacking, .ref a_costs, .ref a_worths, .int v_this_bestWorth, .ref a_wholes, .ref a_parts, .ref a_firsts])), (a_wholes, .inl (cA 0, 13, .inl r.2.1)), (a_parts, .inl (cA 0, 13, .inl r.2.2.1)), (a_p1_weathers, .inl (cA 0, 12, .inl f_p1_weathers)), (a_firsts, .inl (cA 0, 13, .inl r.2.2.2))]) A) (by decide) rfl (Nat.le_of_ble_eq_true rfl) ?_
  intro p e s m below meth c A S hr hlk hK hA hP hD hS ls hl
  exact w_X6_ofCut_0 S hr hlk hK hA a_p1 a_p1_kinds a_p1_weathers a_p1_prices a_p1_lumps a_p1_past a_p1_evening a_p1_sights a_p1_glimpses a_p1_shown a_this a_lengths a_fitsBehind a_ways a_reached a_lacking a_costs a_worths a_wholes a_parts a_firsts v_p1_burnt v_p1_money v_p1_clock v_p1_sightSize v_this_bestWorth f_p1_weathers f_wholes f_parts f_firsts x2 x3 h s.heap [] ls hP hD hS (lv_sub hl [0, 1, 2, 3] rfl)

