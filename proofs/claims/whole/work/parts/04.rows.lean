/-! the walk's own rows: a mirror of each method is a term built of mLet, mRd, mWr, mCall, if; a row of a walk takes 'mirror = some r' to the mirror of what is left -/
def mLet {α β : Type} (e : α) (K : α → Option β) : Option β := K e
def mRd {α β : Type} (f : Nat → α) (n : Nat) (i : Int32) (K : α → Option β) : Option β := if i < 0 ∨ n ≤ i.toNatClampNeg then none else K (f i.toNatClampNeg)
def mWr {β : Type} (f : Nat → Int32) (n : Nat) (i x : Int32) (K : (Nat → Int32) → Option β) : Option β := if i < 0 ∨ n ≤ i.toNatClampNeg then none else K (upd f i.toNatClampNeg x)
def mWrL {β : Type} (f : Nat → Int64) (n : Nat) (i : Int32) (x : Int64) (K : (Nat → Int64) → Option β) : Option β := if i < 0 ∨ n ≤ i.toNatClampNeg then none else K (vp_updL f i.toNatClampNeg x)
def mWrZ {β : Type} (f : Nat → Int32) (n : Nat) (i x : Int32) (K : (Nat → Int32) → Option β) : Option β := if i < 0 ∨ n ≤ i.toNatClampNeg then none else K (upd f i.toNatClampNeg (vp_nar .boolean x))
def mWrB {β : Type} (f : Nat → Int32) (n : Nat) (i x : Int32) (K : (Nat → Int32) → Option β) : Option β := if i < 0 ∨ n ≤ i.toNatClampNeg then none else K (upd f i.toNatClampNeg (vp_nar .byte x))
def mCall {α β : Type} (o : Option α) (K : α → Option β) : Option β := match o with
  | none => none
  | some x => K x
def mDiv {β : Type} (x y : Int32) (K : Int32 → Option β) : Option β := if y = 0 then none else K (x / y)
def mRem {β : Type} (x y : Int32) (K : Int32 → Option β) : Option β := if y = 0 then none else K (x - x / y * y)
def mDivL {β : Type} (x y : Int64) (K : Int64 → Option β) : Option β := if y = 0 then none else K (x / y)
def mRemL {β : Type} (x y : Int64) (K : Int64 → Option β) : Option β := if y = 0 then none else K (x - x / y * y)
def mCpy {β : Type} (f g : Nat → Int32) (n0 n1 : Nat) (sp dp n : Int32) (K : (Nat → Int32) → Option β) : Option β := if sp < 0 ∨ dp < 0 ∨ n < 0 ∨ n0 < sp.toNatClampNeg + n.toNatClampNeg ∨ n1 < dp.toNatClampNeg + n.toNatClampNeg then none else K (va_cpy f g sp.toNatClampNeg dp.toNatClampNeg n.toNatClampNeg)
def mZ {β : Type} (v : Int32) (K : Option β) : Option β := if v &&& 1 = v then K else none
theorem mRd_use {α β : Type} {f : Nat → α} {n : Nat} {i : Int32} {K : α → Option β} {r : β} (h : mRd f n i K = some r) : vp_in i n ∧ K (f i.toNatClampNeg) = some r := by
  unfold mRd at h
  by_cases c : i < 0 ∨ n ≤ i.toNatClampNeg
  · rw [if_pos c] at h; cases h
  · rw [if_neg c] at h; exact ⟨c, h⟩
theorem mWr_use {β : Type} {f : Nat → Int32} {n : Nat} {i x : Int32} {K : (Nat → Int32) → Option β} {r : β} (h : mWr f n i x K = some r) : vp_in i n ∧ K (upd f i.toNatClampNeg x) = some r := by
  unfold mWr at h
  by_cases c : i < 0 ∨ n ≤ i.toNatClampNeg
  · rw [if_pos c] at h; cases h
  · rw [if_neg c] at h; exact ⟨c, h⟩
theorem mWrL_use {β : Type} {f : Nat → Int64} {n : Nat} {i : Int32} {x : Int64} {K : (Nat → Int64) → Option β} {r : β} (h : mWrL f n i x K = some r) : vp_in i n ∧ K (vp_updL f i.toNatClampNeg x) = some r := by
  unfold mWrL at h
  by_cases c : i < 0 ∨ n ≤ i.toNatClampNeg
  · rw [if_pos c] at h; cases h
  · rw [if_neg c] at h; exact ⟨c, h⟩
theorem mWrZ_use {β : Type} {f : Nat → Int32} {n : Nat} {i x : Int32} {K : (Nat → Int32) → Option β} {r : β} (h : mWrZ f n i x K = some r) : vp_in i n ∧ K (upd f i.toNatClampNeg (vp_nar .boolean x)) = some r := by
  unfold mWrZ at h
  by_cases c : i < 0 ∨ n ≤ i.toNatClampNeg
  · rw [if_pos c] at h; cases h
  · rw [if_neg c] at h; exact ⟨c, h⟩
theorem mWrB_use {β : Type} {f : Nat → Int32} {n : Nat} {i x : Int32} {K : (Nat → Int32) → Option β} {r : β} (h : mWrB f n i x K = some r) : vp_in i n ∧ K (upd f i.toNatClampNeg (vp_nar .byte x)) = some r := by
  unfold mWrB at h
  by_cases c : i < 0 ∨ n ≤ i.toNatClampNeg
  · rw [if_pos c] at h; cases h
  · rw [if_neg c] at h; exact ⟨c, h⟩
theorem mCall_use {α β : Type} {o : Option α} {K : α → Option β} {r : β} (h : mCall o K = some r) : ∃ x, o = some x ∧ K x = some r := by
  cases o with
  | none => cases h
  | some x => exact ⟨x, rfl, h⟩
theorem mNz_use {α β : Type} {c : Prop} [Decidable c] {K : Option β} {r : β} (h : (if c then none else K) = some r) : ¬ c ∧ K = some r := by
  by_cases q : c
  · rw [if_pos q] at h; cases h
  · rw [if_neg q] at h; exact ⟨q, h⟩
theorem mZ_use {β : Type} {v : Int32} {K : Option β} {r : β} (h : mZ v K = some r) : v &&& 1 = v ∧ K = some r := by
  unfold mZ at h
  by_cases c : v &&& 1 = v
  · rw [if_pos c] at h; exact ⟨c, h⟩
  · rw [if_neg c] at h; cases h
theorem mLet_use {α β : Type} {x : α} {K : α → Option β} {r : β} (h : mLet x K = some r) : ∃ y, y = x ∧ K y = some r := ⟨x, rfl, h⟩
def mFU : Nat := 1000
def mK6 {β : Type} (i : Int32) (A0 A1 A2 A3 A4 A5 : Option β) : Option β := if i = 0 then A0 else if i = 1 then A1 else if i = 2 then A2 else if i = 3 then A3 else if i = 4 then A4 else if i = 5 then A5 else none
def mK2 {β : Type} (i : Int32) (A0 A1 : Option β) : Option β := if i = 0 then A0 else if i = 1 then A1 else none
def gk6 (k0 k1 k2 k3 k4 k5 : Nat) : Nat → Option Nat := fun i => match i with
  | 0 => some k0
  | 1 => some k1
  | 2 => some k2
  | 3 => some k3
  | 4 => some k4
  | 5 => some k5
  | _ => none
def gk2 (k0 k1 : Nat) : Nat → Option Nat := fun i => match i with
  | 0 => some k0
  | 1 => some k1
  | _ => none
theorem sw_out {x : Int32} {lo hi : Int} (n : Nat) (e : lo + n = hi + 1) (h : ∀ k : Nat, k < n → ¬ x = Int32.ofInt (lo + k)) : x.toInt < lo ∨ hi < x.toInt := by
  rcases Int.lt_or_le x.toInt lo with q | q
  · exact Or.inl q
  · rcases Int.lt_or_le hi x.toInt with q2 | q2
    · exact Or.inr q2
    · refine absurd ?_ (h (x.toInt - lo).toNat (by omega))
      rw [show lo + ((x.toInt - lo).toNat : Int) = x.toInt by omega]
      exact (Int32.ofInt_toInt x).symm
theorem mIf_t {β : Type} {c : Prop} [Decidable c] {T E : Option β} {r : β} (h : (if c then T else E) = some r) (q : c) : T = some r := by rw [if_pos q] at h; exact h
theorem mIf_e {β : Type} {c : Prop} [Decidable c] {T E : Option β} {r : β} (h : (if c then T else E) = some r) (q : ¬ c) : E = some r := by rw [if_neg q] at h; exact h
/-- the classes whose objects the worlds hold -/
abbrev vwCl : List vw_C := [(RX0, TX0, 0), (RX1, TX1, 0), (RX2, TX2, 6), (RX3, TX3, 0), (RX4, TX4, 13), (RX5, TX5, 0), (RX6, TX6, 11), (RX7, TX7, 0), (RX8, TX8, 0), (RX9, TX9, 3), (RX10, TX10, 6), (RX11, TX11, 12), (RX12, TX12, 25)]
abbrev gT (cA : Nat → ClassId) : List (ClassId × FieldType) := [(cA 0, .int), (cA 1, .byte), (cA 2, .long), (cA 3, .boolean), (cA 4, .object "CoalWood$Pit"), (cA 5, .object "CoalWood$Plain")]
def nestL : List (String × Nat × MethodName × String) := [("CoalWood$Pit", 11, ⟨"CoalWood$Plain", "<init>", "()V"⟩, "CoalWood"), ("CoalWood$Pit", 14, ⟨"CoalWood$Back", "<init>", "()V"⟩, "CoalWood"), ("CoalWood$Back", 1, ⟨"CoalWood$Plain", "<init>", "()V"⟩, "CoalWood"), ("CoalWood$Pit", 17, ⟨"CoalWood$Slack", "<init>", "()V"⟩, "CoalWood"), ("CoalWood$Slack", 1, ⟨"CoalWood$Plain", "<init>", "()V"⟩, "CoalWood"), ("CoalWood$Pit", 20, ⟨"CoalWood$Damp", "<init>", "()V"⟩, "CoalWood"), ("CoalWood$Damp", 3, ⟨"CoalWood$Plain", "<init>", "()V"⟩, "CoalWood"), ("CoalWood$Pit", 23, ⟨"CoalWood$Cannel", "<init>", "()V"⟩, "CoalWood"), ("CoalWood$Cannel", 3, ⟨"CoalWood$Back", "<init>", "()V"⟩, "CoalWood"), ("CoalWood$Pit", 26, ⟨"CoalWood$Spit", "<init>", "()V"⟩, "CoalWood"), ("CoalWood$Spit", 3, ⟨"CoalWood$Damp", "<init>", "()V"⟩, "CoalWood"), ("CoalWood", 29, ⟨"CoalWood$Text", "<init>", "()V"⟩, "CoalWood"), ("CoalWood", 36, ⟨"CoalWood$Plans", "<init>", "()V"⟩, "CoalWood"), ("CoalWood", 43, ⟨"CoalWood$Clues", "<init>", "()V"⟩, "CoalWood"), ("CoalWood$Pit", 100, ⟨"CoalWood", "isLayer", "(I)Z"⟩, "CoalWood"), ("CoalWood$Pit", 104, ⟨"CoalWood", "isWeather", "(I)Z"⟩, "CoalWood"), ("CoalWood$Pit", 107, ⟨"CoalWood", "within", "(III)Z"⟩, "CoalWood"), ("CoalWood$Pit", 111, ⟨"CoalWood", "isSize", "(I)Z"⟩, "CoalWood"), ("CoalWood$Text", 19, ⟨"CoalWood", "within", "(III)Z"⟩, "CoalWood"), ("CoalWood$Clues", 69, ⟨"CoalWood", "isWeather", "(I)Z"⟩, "CoalWood"), ("CoalWood$Clues", 89, ⟨"CoalWood", "isLayer", "(I)Z"⟩, "CoalWood"), ("CoalWood$Pit", 157, ⟨"CoalWood", "mixed", "(JJ)J"⟩, "CoalWood"), ("CoalWood$Table", 41, ⟨"CoalWood", "mixed", "(JJ)J"⟩, "CoalWood")]
/-- words of the tables that the printed lists leave out -/
def extraW : List Cond := [.methodLink RX1 9 ⟨"CoalWood$Back", "burnsFor", "(I)I"⟩, .sameMethod "CoalWood$Back" "CoalWood$Plain" "burnsFor" "(I)I", .superclass RX1 RX0, .superclass RX0 RX5, .instanceMethod yX5_burnsFor, .initialized RX5, .code yX5_burnsFor cX5_burnsFor 2 (some .int)]
theorem extraW_ok : ∀ w ∈ extraW, (w.onTables && w.keeps) = true := by
  intro w hw
  exact List.all_eq_true.mp (show extraW.all (fun w => w.onTables && w.keeps) = true by decide +kernel) w hw
def gK (D : va_G) (cA : Nat → ClassId) (U : State) : Prop := va_K D vwCl (gT cA) U ∧ (∀ q ∈ nestL, va_Nw (.methodLinkNest q.1 q.2.1 q.2.2.1 q.2.2.2) U) ∧ ∀ w ∈ extraW, va_Nw w U
theorem gK.warm {D : va_G} {cA : Nat → ClassId} {s U : State} (hW : s.WarmedH U.vm) (h : gK D cA s) : gK D cA U := ⟨va_K.moved hW.alike h.1, fun q hq => va_Nw.warmM hW (h.2.1 q hq), fun w hw => word_at hW (Or.inl (extraW_ok w hw)) (h.2.2 w hw)⟩
theorem gK.same {D : va_G} {cA : Nat → ClassId} {s U : State} (hv : s.vm = U.vm) (h : gK D cA s) : gK D cA U := ⟨va_K.moved (by rw [hv]; exact Vm.Alike.refl U.vm) h.1, fun q hq => va_Nw.same rfl hv (h.2.1 q hq), fun w hw => va_Nw.same (by have := extraW_ok w hw; simp only [Bool.and_eq_true] at this; exact this.1) hv (h.2.2 w hw)⟩
/-- contracts: pure ones (the heap stays), with effect (the world w becomes w2, nothing is made) -/
def MPi (l : Launch) (y : MethodName) (ws : List Cond) (rm : Room) (D : va_G) (cA : Nat → ClassId) (av : List Value) (w : va_W) (r : Int32) : Prop := Met l y ws rm (va_Pc av (fun U => va_P D vwCl w U.heap ∧ gK D cA U)) (vp_Si (fun x => x = r)) 0 0 (fun _ => False)
def MPl (l : Launch) (y : MethodName) (ws : List Cond) (rm : Room) (D : va_G) (cA : Nat → ClassId) (av : List Value) (w : va_W) (r : Int64) : Prop := Met l y ws rm (va_Pc av (fun U => va_P D vwCl w U.heap ∧ gK D cA U)) (vp_Sl (fun x => x = r)) 0 0 (fun _ => False)
abbrev gPre (D : va_G) (cA : Nat → ClassId) (w : va_W) (sz : Nat) : State → Prop := fun U => U.heap.size = sz ∧ va_P D vwCl w U.heap ∧ gK D cA U ∧ va_D (fun _ => True) w
abbrev gPost (D : va_G) (A : Nat → Prop) (w : va_W) : Unit → State → Prop := fun _ t => va_P D vwCl w t.heap ∧ va_D A w
def MEi (l : Launch) (y : MethodName) (ws : List Cond) (rm : Room) (D : va_G) (cA : Nat → ClassId) (av : List Value) (w w2 : va_W) (r : Int32) : Prop := ∀ sz : Nat, Met l y ws rm (va_Pc av (gPre D cA w sz)) (va_Qi (fun (x : Int32) (_ : Unit) => x = r) (gPost D (va_A w sz) w2) (va_A w sz)) 0 0 (va_A w sz)
def MEl (l : Launch) (y : MethodName) (ws : List Cond) (rm : Room) (D : va_G) (cA : Nat → ClassId) (av : List Value) (w w2 : va_W) (r : Int64) : Prop := ∀ sz : Nat, Met l y ws rm (va_Pc av (gPre D cA w sz)) (va_Ql (fun (x : Int64) (_ : Unit) => x = r) (gPost D (va_A w sz) w2) (va_A w sz)) 0 0 (va_A w sz)
def MEv (l : Launch) (y : MethodName) (ws : List Cond) (rm : Room) (D : va_G) (cA : Nat → ClassId) (av : List Value) (w w2 : va_W) : Prop := ∀ sz : Nat, Met l y ws rm (va_Pc av (gPre D cA w sz)) (va_Qv (fun (_ : Unit) => True) (gPost D (va_A w sz) w2) (va_A w sz)) 0 0 (va_A w sz)
section GB
variable {p : Program} {l : Launch} {e : Env} {R : Room} {s : State} {m : MethodId} {args : Array Value} {below : List Frame} {meth : Method} {c : Code} {H H0 : Heap} {locs : List Loc} {cells slots : Nat} {Q : State → Prop}
variable {cc : ByteArray} {nL pc : Nat} {Ts : List Cond} {own : String} {D : va_G} {cA : Nat → ClassId} {ws : va_W} {A : Nat → Prop} {ls : Array Slot} {rest : List Value} {β : Type} {r : β} {a : Nat}
theorem mi_let {x : Int32} {K : Int32 → Option β} (h : mLet x K = some r) (kk : ∀ y : Int32, K y = some r → W p l e R s m args below meth c H locs cells slots Q (F0 m pc ls (.int y :: rest))) : W p l e R s m args below meth c H locs cells slots Q (F0 m pc ls (.int x :: rest)) := kk x h
theorem mi_letL {x : Int64} {K : Int64 → Option β} (h : mLet x K = some r) (kk : ∀ y : Int64, K y = some r → W p l e R s m args below meth c H locs cells slots Q (F0 m pc ls (.long y :: rest))) : W p l e R s m args below meth c H locs cells slots Q (F0 m pc ls (.long x :: rest)) := kk x h
theorem mi_get (S : CallFix p m c cc nL s args Ts own) (hK : gK D cA s) (hP : va_P D vwCl ws H) {C : String} {T : u_T} {N ci index : Nat} (hin : ∀ w ∈ u_ws C T N, w ∈ Ts) (q0 : Nat) {fs : List Value} (he : ws[q0]? = some (a, .inr (ci, fs))) (hc : vwCl[ci]? = some (C, T, N)) (k : Nat) (hk : k < N) (hlink : Cond.fieldLink own index (T k).1 (T k).2.1 (T k).2.2.1 ∈ Ts) {v : Value} (hv : fs[k]? = some v) (hdg : decode cc pc = .ok (.getfield index, 3))
    (kk : W p l e R s m args below meth c H locs cells slots Q (F0 m (pc + 3) ls (v :: rest))) : W p l e R s m args below meth c H locs cells slots Q (F0 m pc ls (.ref a :: rest)) :=
  va_get S.1 S.2.1 S.2.2.2.2 hin S.2.2.2.1 hK.1 hP q0 he hc k hk (S.2.2.2.2 _ hlink) (fun _ h => h) hv hdg kk
theorem mi_put (S : CallFix p m c cc nL s args Ts own) (hK : gK D cA s) (hP : va_P D vwCl ws H) (hD : va_D A ws) (hS : va_S A H0 H locs) {C : String} {T : u_T} {N ci index : Nat} (hin : ∀ w ∈ u_ws C T N, w ∈ Ts) {ty0 : Nat → FieldType} (hty : ∀ k, k < N → parseFieldDescriptor (T k).2.2.1 = some (ty0 k)) (hnm : ∀ a, a < N → ∀ b, b < N → a ≠ b → (T a).2.1 ≠ (T b).2.1) (q0 : Nat) {fs : List Value} (he : ws[q0]? = some (a, .inr (ci, fs))) (hc : vwCl[ci]? = some (C, T, N)) (k : Nat) (hk : k < N) (hlink : Cond.fieldLink own index (T k).1 (T k).2.1 (T k).2.2.1 ∈ Ts) (hfin : (T k).2.2.2 = false) {v : Value} (hn : narrow (ty0 k) v = v) (hfit : fits (ty0 k) v = true) (hl : k < fs.length) (hdg : decode cc pc = .ok (.putfield index, 3))
    (kk : ∀ (H1 : Heap) (locs1 : List Loc), va_P D vwCl (ws.set q0 (a, .inr (ci, fs.set k v))) H1 → va_D A (ws.set q0 (a, .inr (ci, fs.set k v))) → va_S A H0 H1 locs1 → W p l e R s m args below meth c H1 locs1 cells slots Q (F0 m (pc + 3) ls rest)) : W p l e R s m args below meth c H locs cells slots Q (F0 m pc ls (v :: .ref a :: rest)) :=
  va_put S.1 S.2.1 S.2.2.2.2 hin ty0 hty hnm S.2.2.2.1 hK.1 hP hD hS q0 he hc k hk (S.2.2.2.2 _ hlink) (fun _ h => h) hfin (hty k hk) hn hfit hl hdg kk
theorem mi_iald (S : CallFix p m c cc nL s args Ts own) (hK : gK D cA s) (hP : va_P D vwCl ws H) (q0 : Nat) {n : Nat} {f : Nat → Int32} (ha : ws[q0]? = some (a, .inl (cA 0, n, .inl f))) {i : Int32} {K : Int32 → Option β} (h : mRd f n i K = some r) (hdg : decode cc pc = .ok (.iaload, 1))
    (kk : ∀ x : Int32, K x = some r → W p l e R s m args below meth c H locs cells slots Q (F0 m (pc + 1) ls (.int x :: rest))) : W p l e R s m args below meth c H locs cells slots Q (F0 m pc ls (.int i :: .ref a :: rest)) :=
  va_iald S.1 S.2.1 hK.1 hP q0 0 ha rfl (mRd_use h).1 hdg (kk _ (mRd_use h).2)
theorem mi_bald (S : CallFix p m c cc nL s args Ts own) (hK : gK D cA s) (hP : va_P D vwCl ws H) (q0 : Nat) {n : Nat} {f : Nat → Int32} (ha : ws[q0]? = some (a, .inl (cA 1, n, .inl f))) {i : Int32} {K : Int32 → Option β} (h : mRd f n i K = some r) (hdg : decode cc pc = .ok (.baload, 1))
    (kk : ∀ x : Int32, K x = some r → W p l e R s m args below meth c H locs cells slots Q (F0 m (pc + 1) ls (.int x :: rest))) : W p l e R s m args below meth c H locs cells slots Q (F0 m pc ls (.int i :: .ref a :: rest)) :=
  va_bald S.1 S.2.1 hK.1 hP q0 1 ha rfl (mRd_use h).1 hdg (kk _ (mRd_use h).2)
theorem mi_zald (S : CallFix p m c cc nL s args Ts own) (hK : gK D cA s) (hP : va_P D vwCl ws H) (q0 : Nat) {n : Nat} {f : Nat → Int32} (ha : ws[q0]? = some (a, .inl (cA 3, n, .inl f))) {i : Int32} {K : Int32 → Option β} (h : mRd f n i K = some r) (hdg : decode cc pc = .ok (.baload, 1))
    (kk : ∀ x : Int32, K x = some r → W p l e R s m args below meth c H locs cells slots Q (F0 m (pc + 1) ls (.int x :: rest))) : W p l e R s m args below meth c H locs cells slots Q (F0 m pc ls (.int i :: .ref a :: rest)) :=
  va_zald S.1 S.2.1 hK.1 hP q0 3 ha rfl (mRd_use h).1 hdg (kk _ (mRd_use h).2)
theorem mi_lald (S : CallFix p m c cc nL s args Ts own) (hK : gK D cA s) (hP : va_P D vwCl ws H) (q0 : Nat) {n : Nat} {f : Nat → Int64} (ha : ws[q0]? = some (a, .inl (cA 2, n, .inr (.inl f)))) {i : Int32} {K : Int64 → Option β} (h : mRd f n i K = some r) (hdg : decode cc pc = .ok (.laload, 1))
    (kk : ∀ x : Int64, K x = some r → W p l e R s m args below meth c H locs cells slots Q (F0 m (pc + 1) ls (.long x :: rest))) : W p l e R s m args below meth c H locs cells slots Q (F0 m pc ls (.int i :: .ref a :: rest)) :=
  va_lald S.1 S.2.1 hK.1 hP q0 2 ha rfl (mRd_use h).1 hdg (kk _ (mRd_use h).2)
theorem mi_iast (S : CallFix p m c cc nL s args Ts own) (hK : gK D cA s) (hP : va_P D vwCl ws H) (hD : va_D A ws) (hS : va_S A H0 H locs) (q0 : Nat) {n : Nat} {f : Nat → Int32} (ha : ws[q0]? = some (a, .inl (cA 0, n, .inl f))) {i x : Int32} {K : (Nat → Int32) → Option β} (h : mWr f n i x K = some r) (hdg : decode cc pc = .ok (.iastore, 1))
    (kk : ∀ (f1 : Nat → Int32) (H1 : Heap) (locs1 : List Loc), K f1 = some r → va_P D vwCl (ws.set q0 (a, .inl (cA 0, n, .inl f1))) H1 → va_D A (ws.set q0 (a, .inl (cA 0, n, .inl f1))) → va_S A H0 H1 locs1 → W p l e R s m args below meth c H1 locs1 cells slots Q (F0 m (pc + 1) ls rest)) : W p l e R s m args below meth c H locs cells slots Q (F0 m pc ls (.int x :: .int i :: .ref a :: rest)) :=
  va_iast S.1 S.2.1 hK.1 hP hD hS q0 0 ha rfl (mWr_use h).1 hdg (fun H1 locs1 => kk _ H1 locs1 (mWr_use h).2)
theorem mi_zast (S : CallFix p m c cc nL s args Ts own) (hK : gK D cA s) (hP : va_P D vwCl ws H) (hD : va_D A ws) (hS : va_S A H0 H locs) (q0 : Nat) {n : Nat} {f : Nat → Int32} (ha : ws[q0]? = some (a, .inl (cA 3, n, .inl f))) {i x : Int32} {K : (Nat → Int32) → Option β} (h : mWrZ f n i x K = some r) (hdg : decode cc pc = .ok (.bastore, 1))
    (kk : ∀ (f1 : Nat → Int32) (H1 : Heap) (locs1 : List Loc), K f1 = some r → va_P D vwCl (ws.set q0 (a, .inl (cA 3, n, .inl f1))) H1 → va_D A (ws.set q0 (a, .inl (cA 3, n, .inl f1))) → va_S A H0 H1 locs1 → W p l e R s m args below meth c H1 locs1 cells slots Q (F0 m (pc + 1) ls rest)) : W p l e R s m args below meth c H locs cells slots Q (F0 m pc ls (.int x :: .int i :: .ref a :: rest)) :=
  va_zast S.1 S.2.1 hK.1 hP hD hS q0 3 ha rfl (mWrZ_use h).1 hdg (fun H1 locs1 => kk _ H1 locs1 (mWrZ_use h).2)
theorem mi_bast (S : CallFix p m c cc nL s args Ts own) (hK : gK D cA s) (hP : va_P D vwCl ws H) (hD : va_D A ws) (hS : va_S A H0 H locs) (q0 : Nat) {n : Nat} {f : Nat → Int32} (ha : ws[q0]? = some (a, .inl (cA 1, n, .inl f))) {i x : Int32} {K : (Nat → Int32) → Option β} (h : mWrB f n i x K = some r) (hdg : decode cc pc = .ok (.bastore, 1))
    (kk : ∀ (f1 : Nat → Int32) (H1 : Heap) (locs1 : List Loc), K f1 = some r → va_P D vwCl (ws.set q0 (a, .inl (cA 1, n, .inl f1))) H1 → va_D A (ws.set q0 (a, .inl (cA 1, n, .inl f1))) → va_S A H0 H1 locs1 → W p l e R s m args below meth c H1 locs1 cells slots Q (F0 m (pc + 1) ls rest)) : W p l e R s m args below meth c H locs cells slots Q (F0 m pc ls (.int x :: .int i :: .ref a :: rest)) :=
  va_bast S.1 S.2.1 hK.1 hP hD hS q0 1 ha rfl (mWrB_use h).1 hdg (fun H1 locs1 => kk _ H1 locs1 (mWrB_use h).2)
theorem mi_last (S : CallFix p m c cc nL s args Ts own) (hK : gK D cA s) (hP : va_P D vwCl ws H) (hD : va_D A ws) (hS : va_S A H0 H locs) (q0 : Nat) {n : Nat} {f : Nat → Int64} (ha : ws[q0]? = some (a, .inl (cA 2, n, .inr (.inl f)))) {i : Int32} {x : Int64} {K : (Nat → Int64) → Option β} (h : mWrL f n i x K = some r) (hdg : decode cc pc = .ok (.lastore, 1))
    (kk : ∀ (f1 : Nat → Int64) (H1 : Heap) (locs1 : List Loc), K f1 = some r → va_P D vwCl (ws.set q0 (a, .inl (cA 2, n, .inr (.inl f1)))) H1 → va_D A (ws.set q0 (a, .inl (cA 2, n, .inr (.inl f1)))) → va_S A H0 H1 locs1 → W p l e R s m args below meth c H1 locs1 cells slots Q (F0 m (pc + 1) ls rest)) : W p l e R s m args below meth c H locs cells slots Q (F0 m pc ls (.long x :: .int i :: .ref a :: rest)) :=
  va_last S.1 S.2.1 hK.1 hP hD hS q0 2 ha rfl (mWrL_use h).1 hdg (fun H1 locs1 => kk _ H1 locs1 (mWrL_use h).2)
theorem mi_copyi (S : CallFix p m c cc nL s args Ts own) (hml : c.maxLocals = ls.size) {index : Nat} (hlink : (Cond.methodLink own index arraycopyName).before args s = true) (hnat : (Cond.native arraycopyName).before args s = true) (hstat : (Cond.static arraycopyName).before args s = true) (hini : (Cond.initialized "java/lang/System").before args s = true) (hK : gK D cA s) (hP : va_P D vwCl ws H) (hD : va_D A ws) (hS : va_S A H0 H locs) (q0 q1 : Nat) {a0 n0 n1 : Nat} {f g : Nat → Int32} (ha0 : ws[q0]? = some (a0, .inl (cA 0, n0, .inl f))) (ha1 : ws[q1]? = some (a, .inl (cA 0, n1, .inl g))) {sp dp n : Int32} {K : (Nat → Int32) → Option β} (h : mCpy f g n0 n1 sp dp n K = some r)
    (hframes : 1 ≤ R.frames) (hlocals : (rest.map fun v => v.category).sum + (nativeFrameWords "java/lang/System" "arraycopy" 5 + 11) ≤ R.locals) (hdg : decode cc pc = .ok (.invokestatic index, 3))
    (kk : ∀ (f1 : Nat → Int32) (H1 : Heap) (locs1 : List Loc), K f1 = some r → va_P D vwCl (ws.set q1 (a, .inl (cA 0, n1, .inl f1))) H1 → va_D A (ws.set q1 (a, .inl (cA 0, n1, .inl f1))) → va_S A H0 H1 locs1 → W p l e R s m args below meth c H1 locs1 cells slots Q (F0 m (pc + 3) ls rest)) : W p l e R s m args below meth c H locs cells slots Q (F0 m pc ls (.int n :: .int dp :: .ref a :: .int sp :: .ref a0 :: rest)) := by
  unfold mCpy at h
  obtain ⟨h1, h2⟩ := mNz_use (α := Unit) h
  exact va_copyi S.1 S.2.1 hml S.2.2.2.1 hlink hnat hstat hini hK.1 hP hD hS q0 q1 0 0 ha0 ha1 rfl rfl rfl (fun q => h1 (Or.inl q)) (fun q => h1 (Or.inr (Or.inl q))) (fun q => h1 (Or.inr (Or.inr (Or.inl q)))) (Nat.not_lt.mp (fun q => h1 (Or.inr (Or.inr (Or.inr (Or.inl q)))))) (Nat.not_lt.mp (fun q => h1 (Or.inr (Or.inr (Or.inr (Or.inr q)))))) (fun _ _ => rfl) hframes hlocals hdg (fun H1 locs1 => kk _ H1 locs1 h2)
theorem mi_idiv (S : CallFix p m c cc nL s args Ts own) {x y : Int32} {K : Int32 → Option β} (h : mDiv x y K = some r) (hdg : decode cc pc = .ok (.idiv, 1)) (kk : ∀ z : Int32, K z = some r → W p l e R s m args below meth c H locs cells slots Q (F0 m (pc + 1) ls (.int z :: rest))) : W p l e R s m args below meth c H locs cells slots Q (F0 m pc ls (.int y :: .int x :: rest)) := by
  unfold mDiv at h
  obtain ⟨h1, h2⟩ := mNz_use (α := Unit) h
  exact lv_idiv S.1 S.2.1 hdg h1 (kk _ h2)
theorem mi_irem (S : CallFix p m c cc nL s args Ts own) {x y : Int32} {K : Int32 → Option β} (h : mRem x y K = some r) (hdg : decode cc pc = .ok (.irem, 1)) (kk : ∀ z : Int32, K z = some r → W p l e R s m args below meth c H locs cells slots Q (F0 m (pc + 1) ls (.int z :: rest))) : W p l e R s m args below meth c H locs cells slots Q (F0 m pc ls (.int y :: .int x :: rest)) := by
  unfold mRem at h
  obtain ⟨h1, h2⟩ := mNz_use (α := Unit) h
  exact lv_irem S.1 S.2.1 hdg h1 (kk _ h2)
theorem mi_ldiv (S : CallFix p m c cc nL s args Ts own) {x y : Int64} {K : Int64 → Option β} (h : mDivL x y K = some r) (hdg : decode cc pc = .ok (.ldiv, 1)) (kk : ∀ z : Int64, K z = some r → W p l e R s m args below meth c H locs cells slots Q (F0 m (pc + 1) ls (.long z :: rest))) : W p l e R s m args below meth c H locs cells slots Q (F0 m pc ls (.long y :: .long x :: rest)) := by
  unfold mDivL at h
  obtain ⟨h1, h2⟩ := mNz_use (α := Unit) h
  exact lv_ldiv S.1 S.2.1 hdg h1 (kk _ h2)
theorem mi_lrem (S : CallFix p m c cc nL s args Ts own) {x y : Int64} {K : Int64 → Option β} (h : mRemL x y K = some r) (hdg : decode cc pc = .ok (.lrem, 1)) (kk : ∀ z : Int64, K z = some r → W p l e R s m args below meth c H locs cells slots Q (F0 m (pc + 1) ls (.long z :: rest))) : W p l e R s m args below meth c H locs cells slots Q (F0 m pc ls (.long y :: .long x :: rest)) := by
  unfold mRemL at h
  obtain ⟨h1, h2⟩ := mNz_use (α := Unit) h
  exact lv_lrem S.1 S.2.1 hdg h1 (kk _ h2)
theorem mi_if_eq (S : CallFix p m c cc nL s args Ts own) {x : Int32} {off : Int} {tgt : Nat} {T E : Option β} (h : (if x = 0 then T else E) = some r) (hdg : decode cc pc = .ok (.ifCond .eq off, 3)) (ht : (pc : Int) + off = (tgt : Int))
    (kt : T = some r → W p l e R s m args below meth c H locs cells slots Q (F0 m tgt ls rest)) (kf : E = some r → W p l e R s m args below meth c H locs cells slots Q (F0 m (pc + 3) ls rest)) : W p l e R s m args below meth c H locs cells slots Q (F0 m pc ls (.int x :: rest)) :=
  lv_if_eq S.1 S.2.1 hdg ht (fun q => kt (mIf_t h q)) (fun q => kf (mIf_e h q))
theorem mi_if_ne (S : CallFix p m c cc nL s args Ts own) {x : Int32} {off : Int} {tgt : Nat} {T E : Option β} (h : (if x = 0 then T else E) = some r) (hdg : decode cc pc = .ok (.ifCond .ne off, 3)) (ht : (pc : Int) + off = (tgt : Int))
    (kt : E = some r → W p l e R s m args below meth c H locs cells slots Q (F0 m tgt ls rest)) (kf : T = some r → W p l e R s m args below meth c H locs cells slots Q (F0 m (pc + 3) ls rest)) : W p l e R s m args below meth c H locs cells slots Q (F0 m pc ls (.int x :: rest)) :=
  lv_if_ne S.1 S.2.1 hdg ht (fun q => kt (mIf_e h q)) (fun q => kf (mIf_t h q))
theorem mi_if_lt (S : CallFix p m c cc nL s args Ts own) {x : Int32} {off : Int} {tgt : Nat} {T E : Option β} (h : (if x < 0 then T else E) = some r) (hdg : decode cc pc = .ok (.ifCond .lt off, 3)) (ht : (pc : Int) + off = (tgt : Int))
    (kt : T = some r → W p l e R s m args below meth c H locs cells slots Q (F0 m tgt ls rest)) (kf : E = some r → W p l e R s m args below meth c H locs cells slots Q (F0 m (pc + 3) ls rest)) : W p l e R s m args below meth c H locs cells slots Q (F0 m pc ls (.int x :: rest)) :=
  lv_if_lt S.1 S.2.1 hdg ht (fun q => kt (mIf_t h q)) (fun q => kf (mIf_e h q))
theorem mi_if_ge (S : CallFix p m c cc nL s args Ts own) {x : Int32} {off : Int} {tgt : Nat} {T E : Option β} (h : (if 0 ≤ x then T else E) = some r) (hdg : decode cc pc = .ok (.ifCond .ge off, 3)) (ht : (pc : Int) + off = (tgt : Int))
    (kt : T = some r → W p l e R s m args below meth c H locs cells slots Q (F0 m tgt ls rest)) (kf : E = some r → W p l e R s m args below meth c H locs cells slots Q (F0 m (pc + 3) ls rest)) : W p l e R s m args below meth c H locs cells slots Q (F0 m pc ls (.int x :: rest)) :=
  lv_if_ge S.1 S.2.1 hdg ht (fun q => kt (mIf_t h q)) (fun q => kf (mIf_e h q))
theorem mi_if_gt (S : CallFix p m c cc nL s args Ts own) {x : Int32} {off : Int} {tgt : Nat} {T E : Option β} (h : (if 0 < x then T else E) = some r) (hdg : decode cc pc = .ok (.ifCond .gt off, 3)) (ht : (pc : Int) + off = (tgt : Int))
    (kt : T = some r → W p l e R s m args below meth c H locs cells slots Q (F0 m tgt ls rest)) (kf : E = some r → W p l e R s m args below meth c H locs cells slots Q (F0 m (pc + 3) ls rest)) : W p l e R s m args below meth c H locs cells slots Q (F0 m pc ls (.int x :: rest)) :=
  lv_if_gt S.1 S.2.1 hdg ht (fun q => kt (mIf_t h q)) (fun q => kf (mIf_e h q))
theorem mi_if_le (S : CallFix p m c cc nL s args Ts own) {x : Int32} {off : Int} {tgt : Nat} {T E : Option β} (h : (if x ≤ 0 then T else E) = some r) (hdg : decode cc pc = .ok (.ifCond .le off, 3)) (ht : (pc : Int) + off = (tgt : Int))
    (kt : T = some r → W p l e R s m args below meth c H locs cells slots Q (F0 m tgt ls rest)) (kf : E = some r → W p l e R s m args below meth c H locs cells slots Q (F0 m (pc + 3) ls rest)) : W p l e R s m args below meth c H locs cells slots Q (F0 m pc ls (.int x :: rest)) :=
  lv_if_le S.1 S.2.1 hdg ht (fun q => kt (mIf_t h q)) (fun q => kf (mIf_e h q))
theorem mi_icmp_eq (S : CallFix p m c cc nL s args Ts own) {x y : Int32} {off : Int} {tgt : Nat} {T E : Option β} (h : (if x = y then T else E) = some r) (hdg : decode cc pc = .ok (.if_icmp .eq off, 3)) (ht : (pc : Int) + off = (tgt : Int))
    (kt : T = some r → W p l e R s m args below meth c H locs cells slots Q (F0 m tgt ls rest)) (kf : E = some r → W p l e R s m args below meth c H locs cells slots Q (F0 m (pc + 3) ls rest)) : W p l e R s m args below meth c H locs cells slots Q (F0 m pc ls (.int y :: .int x :: rest)) :=
  lv_icmp_eq S.1 S.2.1 hdg ht (fun q => kt (mIf_t h q)) (fun q => kf (mIf_e h q))
theorem mi_icmp_ne (S : CallFix p m c cc nL s args Ts own) {x y : Int32} {off : Int} {tgt : Nat} {T E : Option β} (h : (if x = y then T else E) = some r) (hdg : decode cc pc = .ok (.if_icmp .ne off, 3)) (ht : (pc : Int) + off = (tgt : Int))
    (kt : E = some r → W p l e R s m args below meth c H locs cells slots Q (F0 m tgt ls rest)) (kf : T = some r → W p l e R s m args below meth c H locs cells slots Q (F0 m (pc + 3) ls rest)) : W p l e R s m args below meth c H locs cells slots Q (F0 m pc ls (.int y :: .int x :: rest)) :=
  lv_icmp_ne S.1 S.2.1 hdg ht (fun q => kt (mIf_e h q)) (fun q => kf (mIf_t h q))
theorem mi_icmp_lt (S : CallFix p m c cc nL s args Ts own) {x y : Int32} {off : Int} {tgt : Nat} {T E : Option β} (h : (if x < y then T else E) = some r) (hdg : decode cc pc = .ok (.if_icmp .lt off, 3)) (ht : (pc : Int) + off = (tgt : Int))
    (kt : T = some r → W p l e R s m args below meth c H locs cells slots Q (F0 m tgt ls rest)) (kf : E = some r → W p l e R s m args below meth c H locs cells slots Q (F0 m (pc + 3) ls rest)) : W p l e R s m args below meth c H locs cells slots Q (F0 m pc ls (.int y :: .int x :: rest)) :=
  lv_icmp_lt S.1 S.2.1 hdg ht (fun q => kt (mIf_t h q)) (fun q => kf (mIf_e h q))
theorem mi_icmp_ge (S : CallFix p m c cc nL s args Ts own) {x y : Int32} {off : Int} {tgt : Nat} {T E : Option β} (h : (if y ≤ x then T else E) = some r) (hdg : decode cc pc = .ok (.if_icmp .ge off, 3)) (ht : (pc : Int) + off = (tgt : Int))
    (kt : T = some r → W p l e R s m args below meth c H locs cells slots Q (F0 m tgt ls rest)) (kf : E = some r → W p l e R s m args below meth c H locs cells slots Q (F0 m (pc + 3) ls rest)) : W p l e R s m args below meth c H locs cells slots Q (F0 m pc ls (.int y :: .int x :: rest)) :=
  lv_icmp_ge S.1 S.2.1 hdg ht (fun q => kt (mIf_t h q)) (fun q => kf (mIf_e h q))
theorem mi_icmp_gt (S : CallFix p m c cc nL s args Ts own) {x y : Int32} {off : Int} {tgt : Nat} {T E : Option β} (h : (if y < x then T else E) = some r) (hdg : decode cc pc = .ok (.if_icmp .gt off, 3)) (ht : (pc : Int) + off = (tgt : Int))
    (kt : T = some r → W p l e R s m args below meth c H locs cells slots Q (F0 m tgt ls rest)) (kf : E = some r → W p l e R s m args below meth c H locs cells slots Q (F0 m (pc + 3) ls rest)) : W p l e R s m args below meth c H locs cells slots Q (F0 m pc ls (.int y :: .int x :: rest)) :=
  lv_icmp_gt S.1 S.2.1 hdg ht (fun q => kt (mIf_t h q)) (fun q => kf (mIf_e h q))
theorem mi_icmp_le (S : CallFix p m c cc nL s args Ts own) {x y : Int32} {off : Int} {tgt : Nat} {T E : Option β} (h : (if x ≤ y then T else E) = some r) (hdg : decode cc pc = .ok (.if_icmp .le off, 3)) (ht : (pc : Int) + off = (tgt : Int))
    (kt : T = some r → W p l e R s m args below meth c H locs cells slots Q (F0 m tgt ls rest)) (kf : E = some r → W p l e R s m args below meth c H locs cells slots Q (F0 m (pc + 3) ls rest)) : W p l e R s m args below meth c H locs cells slots Q (F0 m pc ls (.int y :: .int x :: rest)) :=
  lv_icmp_le S.1 S.2.1 hdg ht (fun q => kt (mIf_t h q)) (fun q => kf (mIf_e h q))
theorem mi_k6 (S : CallFix p m c cc nL s args Ts own) (hK : gK D cA s) (hP : va_P D vwCl ws H) (q0 : Nat) {k0 k1 k2 k3 k4 k5 : Nat} (ha : ws[q0]? = some (a, .inl (cA 5, 6, .inr (.inr (.inr (.inr (gk6 k0 k1 k2 k3 k4 k5))))))) {i : Int32} {A0 A1 A2 A3 A4 A5 : Option β} (h : mK6 i A0 A1 A2 A3 A4 A5 = some r) (hdg : decode cc pc = .ok (.aaload, 1)) (w0 : A0 = some r → W p l e R s m args below meth c H locs cells slots Q (F0 m (pc + 1) ls (.ref k0 :: rest))) (w1 : A1 = some r → W p l e R s m args below meth c H locs cells slots Q (F0 m (pc + 1) ls (.ref k1 :: rest))) (w2 : A2 = some r → W p l e R s m args below meth c H locs cells slots Q (F0 m (pc + 1) ls (.ref k2 :: rest))) (w3 : A3 = some r → W p l e R s m args below meth c H locs cells slots Q (F0 m (pc + 1) ls (.ref k3 :: rest))) (w4 : A4 = some r → W p l e R s m args below meth c H locs cells slots Q (F0 m (pc + 1) ls (.ref k4 :: rest))) (w5 : A5 = some r → W p l e R s m args below meth c H locs cells slots Q (F0 m (pc + 1) ls (.ref k5 :: rest))) : W p l e R s m args below meth c H locs cells slots Q (F0 m pc ls (.int i :: .ref a :: rest)) := by
  unfold mK6 at h
  by_cases e0 : i = 0
  · have h := mIf_t h e0
    subst e0
    exact va_aldq S.1 S.2.1 hK.1 hP q0 5 ha rfl (by unfold vp_in; decide) hdg (w0 h)
  have h := mIf_e h e0
  by_cases e1 : i = 1
  · have h := mIf_t h e1
    subst e1
    exact va_aldq S.1 S.2.1 hK.1 hP q0 5 ha rfl (by unfold vp_in; decide) hdg (w1 h)
  have h := mIf_e h e1
  by_cases e2 : i = 2
  · have h := mIf_t h e2
    subst e2
    exact va_aldq S.1 S.2.1 hK.1 hP q0 5 ha rfl (by unfold vp_in; decide) hdg (w2 h)
  have h := mIf_e h e2
  by_cases e3 : i = 3
  · have h := mIf_t h e3
    subst e3
    exact va_aldq S.1 S.2.1 hK.1 hP q0 5 ha rfl (by unfold vp_in; decide) hdg (w3 h)
  have h := mIf_e h e3
  by_cases e4 : i = 4
  · have h := mIf_t h e4
    subst e4
    exact va_aldq S.1 S.2.1 hK.1 hP q0 5 ha rfl (by unfold vp_in; decide) hdg (w4 h)
  have h := mIf_e h e4
  by_cases e5 : i = 5
  · have h := mIf_t h e5
    subst e5
    exact va_aldq S.1 S.2.1 hK.1 hP q0 5 ha rfl (by unfold vp_in; decide) hdg (w5 h)
  have h := mIf_e h e5
  cases h
theorem mi_k2 (S : CallFix p m c cc nL s args Ts own) (hK : gK D cA s) (hP : va_P D vwCl ws H) (q0 : Nat) {k0 k1 : Nat} (ha : ws[q0]? = some (a, .inl (cA 4, 2, .inr (.inr (.inr (.inr (gk2 k0 k1))))))) {i : Int32} {A0 A1 : Option β} (h : mK2 i A0 A1 = some r) (hdg : decode cc pc = .ok (.aaload, 1)) (w0 : A0 = some r → W p l e R s m args below meth c H locs cells slots Q (F0 m (pc + 1) ls (.ref k0 :: rest))) (w1 : A1 = some r → W p l e R s m args below meth c H locs cells slots Q (F0 m (pc + 1) ls (.ref k1 :: rest))) : W p l e R s m args below meth c H locs cells slots Q (F0 m pc ls (.int i :: .ref a :: rest)) := by
  unfold mK2 at h
  by_cases e0 : i = 0
  · have h := mIf_t h e0
    subst e0
    exact va_aldq S.1 S.2.1 hK.1 hP q0 4 ha rfl (by unfold vp_in; decide) hdg (w0 h)
  have h := mIf_e h e0
  by_cases e1 : i = 1
  · have h := mIf_t h e1
    subst e1
    exact va_aldq S.1 S.2.1 hK.1 hP q0 4 ha rfl (by unfold vp_in; decide) hdg (w1 h)
  have h := mIf_e h e1
  cases h

/-- ends -/
theorem mi_iretP (S : CallFix p m c cc nL s args Ts own) (hr : meth.sig.returnType = some .int) (hlk : meth.locks = false) {v x : Int32} (hv : v = x) (hdg : decode cc pc = .ok (.ireturn, 1)) : W p l e R s m args below meth c s.heap [] 0 0 (MQ below (vp_Si (fun y => y = x)) args s 0 0 (fun _ => False)) (F0 m pc ls [.int v]) :=
  W.iret S.1 S.2.1 hr (fun t ht _ => ⟨v, rfl, hv, ht⟩) (fun q hq => by cases hq) hdg hlk
theorem mi_zretP (S : CallFix p m c cc nL s args Ts own) (hr : meth.sig.returnType = some .boolean) (hlk : meth.locks = false) {v x : Int32} (hv : v = x) (hz : v &&& 1 = v) (hdg : decode cc pc = .ok (.ireturn, 1)) : W p l e R s m args below meth c s.heap [] 0 0 (MQ below (vp_Si (fun y => y = x)) args s 0 0 (fun _ => False)) (F0 m pc ls [.int v]) :=
  W.zret S.1 S.2.1 hr (by show Value.int (v &&& 1) = _; rw [hz]) (fun t ht _ => ⟨v, rfl, hv, ht⟩) (fun q hq => by cases hq) hdg hlk
theorem mi_lretP (S : CallFix p m c cc nL s args Ts own) (hr : meth.sig.returnType = some .long) (hlk : meth.locks = false) {v x : Int64} (hv : v = x) (hdg : decode cc pc = .ok (.lreturn, 1)) : W p l e R s m args below meth c s.heap [] 0 0 (MQ below (vp_Sl (fun y => y = x)) args s 0 0 (fun _ => False)) (F0 m pc ls [.long v]) :=
  W.lret S.1 S.2.1 hr (fun t ht _ => ⟨v, rfl, hv, ht⟩) (fun q hq => by cases hq) hdg hlk
theorem mi_iretE (S : CallFix p m c cc nL s args Ts own) (hr : meth.sig.returnType = some .int) (hlk : meth.locks = false) {v x : Int32} (hv : v = x) (hP : va_P D vwCl ws H) (hD : va_D A ws) (hS : va_S A s.heap H locs) (hdg : decode cc pc = .ok (.ireturn, 1)) : W p l e R s m args below meth c H locs 0 0 (MQ below (va_Qi (fun (y : Int32) (_ : Unit) => y = x) (gPost D A ws) A) args s 0 0 A) (F0 m pc ls [.int v]) :=
  W.iret S.1 S.2.1 hr (fun t ht _ => ⟨⟨v, (), rfl, hv, by rw [ht]; exact hP, hD⟩, hS.F ht⟩) hS.2.2 hdg hlk
theorem mi_zretE (S : CallFix p m c cc nL s args Ts own) (hr : meth.sig.returnType = some .boolean) (hlk : meth.locks = false) {v x : Int32} (hv : v = x) (hz : v &&& 1 = v) (hP : va_P D vwCl ws H) (hD : va_D A ws) (hS : va_S A s.heap H locs) (hdg : decode cc pc = .ok (.ireturn, 1)) : W p l e R s m args below meth c H locs 0 0 (MQ below (va_Qi (fun (y : Int32) (_ : Unit) => y = x) (gPost D A ws) A) args s 0 0 A) (F0 m pc ls [.int v]) :=
  W.zret S.1 S.2.1 hr (by show Value.int (v &&& 1) = _; rw [hz]) (fun t ht _ => ⟨⟨v, (), rfl, hv, by rw [ht]; exact hP, hD⟩, hS.F ht⟩) hS.2.2 hdg hlk
theorem mi_lretE (S : CallFix p m c cc nL s args Ts own) (hr : meth.sig.returnType = some .long) (hlk : meth.locks = false) {v x : Int64} (hv : v = x) (hP : va_P D vwCl ws H) (hD : va_D A ws) (hS : va_S A s.heap H locs) (hdg : decode cc pc = .ok (.lreturn, 1)) : W p l e R s m args below meth c H locs 0 0 (MQ below (va_Ql (fun (y : Int64) (_ : Unit) => y = x) (gPost D A ws) A) args s 0 0 A) (F0 m pc ls [.long v]) :=
  W.lret S.1 S.2.1 hr (fun t ht _ => ⟨⟨v, (), rfl, hv, by rw [ht]; exact hP, hD⟩, hS.F ht⟩) hS.2.2 hdg hlk
theorem mi_vretE (S : CallFix p m c cc nL s args Ts own) (hr : meth.sig.returnType = none) (hlk : meth.locks = false) (hP : va_P D vwCl ws H) (hD : va_D A ws) (hS : va_S A s.heap H locs) (hdg : decode cc pc = .ok (.return_, 1)) : W p l e R s m args below meth c H locs 0 0 (MQ below (va_Qv (fun (_ : Unit) => True) (gPost D A ws) A) args s 0 0 A) (F0 m pc ls []) :=
  W.vret S.1 S.2.1 hr (fun t ht _ => ⟨⟨(), rfl, trivial, by rw [ht]; exact hP, hD⟩, hS.F ht⟩) hS.2.2 hdg hlk
end GB
section GE
variable {l : Launch} {y : MethodName} {ws ws' : List Cond} {rm : Room} {D : va_G} {cA : Nat → ClassId} {av : List Value} {w w2 : va_W} {cc : ByteArray} {maxL : Nat} {ret : Option FieldType}
theorem mP_blind : FrameBlind (va_Pc av (fun U => va_P D vwCl w U.heap ∧ gK D cA U)) := fun a U g mk q => ⟨q.1, q.2.1, gK.same (s := U) (U := U.calling g mk a) rfl q.2.2⟩
theorem mE_blind {sz : Nat} : FrameBlind (va_Pc av (gPre D cA w sz)) := fun a U g mk q => ⟨q.1, q.2.1, q.2.2.1, gK.same (s := U) (U := U.calling g mk a) rfl q.2.2.2.1, q.2.2.2.2⟩
theorem mP_of {Qc : Array Value → State → Outcome → State → Prop} (hy : plainName y.cls = true) (hw : ws = Cond.code y cc maxL ret :: ws') (hn : (lg_sl av).length ≤ maxL)
    (body : ∀ (p : Program) (e : Env) (s : State) (m : MethodId) (below : List Frame) (meth : Method) (c : Code), CallFix p m c cc maxL s av.toArray ws y.cls → meth.sig.returnType = ret → meth.locks = false → gK D cA s → va_P D vwCl w s.heap → ∀ ls : Array Slot, lv_has ls maxL (lv_args 0 av) → W p l e rm s m av.toArray below meth c s.heap [] 0 0 (MQ below Qc av.toArray s 0 0 (fun _ => False)) (F0 m 0 ls [])) : Met l y ws rm (va_Pc av (fun U => va_P D vwCl w U.heap ∧ gK D cA U)) Qc 0 0 (fun _ => False) := by
  refine Met.ofW (cc := cc) (maxL := maxL) (ret := ret) hy hw ?_
  intro p e s m args below meth c s₁ B hml hv
  obtain ⟨rfl, hP, hK⟩ := hv
  have hl := lv_entry av (n := maxL) hn
  rw [lg_entry_eq]
  exact body p e s m below meth c ⟨B.exec, B.bytes, hml, findClass_of_methodNamed B.named, atoms_spec (ws := ws) B.pre⟩ B.returns B.notSynchronized hK hP _ hl
theorem mE_of {Qc : (Nat → Prop) → Array Value → State → Outcome → State → Prop} (hy : plainName y.cls = true) (hw : ws = Cond.code y cc maxL ret :: ws') (hn : (lg_sl av).length ≤ maxL)
    (body : ∀ (p : Program) (e : Env) (s : State) (m : MethodId) (below : List Frame) (meth : Method) (c : Code) (A : Nat → Prop), CallFix p m c cc maxL s av.toArray ws y.cls → meth.sig.returnType = ret → meth.locks = false → gK D cA s → (∀ q : Nat, s.heap.size ≤ q → A q) → va_P D vwCl w s.heap → va_D A w → va_S A s.heap s.heap [] → ∀ ls : Array Slot, lv_has ls maxL (lv_args 0 av) → W p l e rm s m av.toArray below meth c s.heap [] 0 0 (MQ below (Qc A) av.toArray s 0 0 A) (F0 m 0 ls [])) : ∀ sz : Nat, Met l y ws rm (va_Pc av (gPre D cA w sz)) (Qc (va_A w sz)) 0 0 (va_A w sz) := by
  intro sz
  refine Met.ofW (cc := cc) (maxL := maxL) (ret := ret) hy hw ?_
  intro p e s m args below meth c s₁ B hml hv
  obtain ⟨rfl, hsz, hP, hK, hD0⟩ := hv
  subst hsz
  have hl := lv_entry av (n := maxL) hn
  rw [lg_entry_eq]
  exact body p e s m below meth c (va_A w s.heap.size) ⟨B.exec, B.bytes, hml, findClass_of_methodNamed B.named, atoms_spec (ws := ws) B.pre⟩ B.returns B.notSynchronized hK (fun q h => Or.inr h) hP (hD0.self (sz := s.heap.size)) va_S.rf _ hl
end GE
theorem mMapF {α γ : Type} (f : γ → Option α) : ∀ (is : List γ) (w : List α), is.map f = w.map some → is.filterMap f = w
  | [], [], _ => rfl
  | [], _ :: _, h => by cases h
  | _ :: _, [], h => by cases h
  | i :: is, x :: w, h => by
    rw [List.map_cons, List.map_cons] at h
    injection h with h1 h2
    rw [List.filterMap_cons_some h1, mMapF f is w h2]
section GC
variable {p : Program} {l : Launch} {e : Env} {R : Room} {s : State} {m : MethodId} {args : Array Value} {below : List Frame} {meth : Method} {c : Code} {H H0 : Heap} {locs : List Loc} {cells slots : Nat} {Q : State → Prop}
variable {pc : Nat} {D : va_G} {cA : Nat → ClassId} {W0 w w2 wr W1 : va_W} {A : Nat → Prop} {ls : Array Slot} {rest st As : List Value} {a : Array Value}
theorem pre_PV {b ci q0 : Nat} {q : vw_C} {fs : List Value} (hK : gK D cA s) (hP : va_P D vwCl W0 H) (is : List Nat) (hw : is.map (fun i => W0[i]?) = w.map some) (hc : vwCl[ci]? = some q) (he : W0[q0]? = some (b, .inr (ci, fs))) : PreV s H q.1 b (va_Pc (.ref b :: As) (fun U => va_P D vwCl w U.heap ∧ gK D cA U)) As :=
  ⟨mP_blind, va_recv hK.1 hP hc he, fun U hU hW => ⟨rfl, by rw [hU]; exact hP.sub is (mMapF _ _ _ hw), hK.warm hW⟩⟩
theorem pre_PS (hK : gK D cA s) (hP : va_P D vwCl W0 H) (is : List Nat) (hw : is.map (fun i => W0[i]?) = w.map some) : PreS s H (va_Pc As (fun U => va_P D vwCl w U.heap ∧ gK D cA U)) As :=
  ⟨mP_blind, fun U hU hW => ⟨rfl, by rw [hU]; exact hP.sub is (mMapF _ _ _ hw), hK.warm hW⟩⟩
theorem pre_EV {b ci q0 : Nat} {q : vw_C} {fs : List Value} (hK : gK D cA s) (hP : va_P D vwCl W0 H) (hD : va_D A W0) (is : List Nat) (hw : is.map (fun i => W0[i]?) = w.map some) (hnd : va_nd is = true) (hc : vwCl[ci]? = some q) (he : W0[q0]? = some (b, .inr (ci, fs))) : PreV s H q.1 b (va_Pc (.ref b :: As) (gPre D cA w H.size)) As :=
  ⟨mE_blind, va_recv hK.1 hP hc he, fun U hU hW => ⟨rfl, by rw [hU], by rw [hU]; exact hP.sub is (mMapF _ _ _ hw), hK.warm hW, (hD.sub is hnd hw).weaken (fun _ _ _ _ => trivial)⟩⟩
theorem pre_ES (hK : gK D cA s) (hP : va_P D vwCl W0 H) (hD : va_D A W0) (is : List Nat) (hw : is.map (fun i => W0[i]?) = w.map some) (hnd : va_nd is = true) : PreS s H (va_Pc As (gPre D cA w H.size)) As :=
  ⟨mE_blind, fun U hU hW => ⟨rfl, by rw [hU], by rw [hU]; exact hP.sub is (mMapF _ _ _ hw), hK.warm hW, (hD.sub is hnd hw).weaken (fun _ _ _ _ => trivial)⟩⟩
theorem mc_Pi {x : Int32} (hrun : va_Run p l e R s m args below meth c H locs cells slots 0 0 (F0 m pc ls st) rest (vp_Si (fun y => y = x) a) (fun _ => False)) (kk : W p l e R s m args below meth c H locs cells slots Q (F0 m (pc + 3) ls (.int x :: rest))) : W p l e R s m args below meth c H locs cells slots Q (F0 m pc ls st) :=
  vp_callSi hrun.run (fun r hr => by rw [hr]; exact kk)
theorem mc_Pl {x : Int64} (hrun : va_Run p l e R s m args below meth c H locs cells slots 0 0 (F0 m pc ls st) rest (vp_Sl (fun y => y = x) a) (fun _ => False)) (kk : W p l e R s m args below meth c H locs cells slots Q (F0 m (pc + 3) ls (.long x :: rest))) : W p l e R s m args below meth c H locs cells slots Q (F0 m pc ls st) :=
  vp_callSl hrun.run (fun r hr => by rw [hr]; exact kk)
theorem mc_Ei {x : Int32} (hrun : va_Run p l e R s m args below meth c H locs cells slots 0 0 (F0 m pc ls st) rest (va_Qi (fun (y : Int32) (_ : Unit) => y = x) (gPost D (va_A w H.size) w2) (va_A w H.size) a) (va_A w H.size)) (hP : va_P D vwCl W0 H) (hD : va_D A W0) (hS : va_S A H0 H locs) (hA : ∀ q : Nat, H0.size ≤ q → A q) (is : List Nat) (hw : is.map (fun i => W0[i]?) = w.map some) (isR : List Nat) (hR : isR.map (fun i => W0[i]?) = wr.map some) (hnd : va_nd isR = true) (hdis : ∀ i ∈ isR, i ∉ is) (perm : List Nat) (hp : perm.map (fun i => (wr ++ w2)[i]?) = W1.map some) (hpn : va_nd perm = true)
    (kk : ∀ (H1 : Heap) (locs1 : List Loc), va_P D vwCl W1 H1 → va_D A W1 → va_S A H0 H1 locs1 → W p l e R s m args below meth c H1 locs1 cells slots Q (F0 m (pc + 3) ls (.int x :: rest))) : W p l e R s m args below meth c H locs cells slots Q (F0 m pc ls st) := by
  have hF := va_free (wc := w) hD hS hA is hw
  refine va_calli hrun hS (fun q _ h => hF q h) hF (fun r u t H1 locs1 ht hvm hpo hB hz1 hk1 hS1 => ?_)
  obtain ⟨hP1, hD1⟩ := hB
  rw [ht] at hP1
  obtain ⟨hP2, hD2⟩ := va_join (wr := wr) (w1 := w2) hP hD is isR hw hR hnd hdis hk1 hF hP1 hD1
  rw [hpo]
  exact kk H1 locs1 (hP2.sub perm (mMapF _ _ _ hp)) (hD2.sub perm hpn hp) hS1
theorem mc_El {x : Int64} (hrun : va_Run p l e R s m args below meth c H locs cells slots 0 0 (F0 m pc ls st) rest (va_Ql (fun (y : Int64) (_ : Unit) => y = x) (gPost D (va_A w H.size) w2) (va_A w H.size) a) (va_A w H.size)) (hP : va_P D vwCl W0 H) (hD : va_D A W0) (hS : va_S A H0 H locs) (hA : ∀ q : Nat, H0.size ≤ q → A q) (is : List Nat) (hw : is.map (fun i => W0[i]?) = w.map some) (isR : List Nat) (hR : isR.map (fun i => W0[i]?) = wr.map some) (hnd : va_nd isR = true) (hdis : ∀ i ∈ isR, i ∉ is) (perm : List Nat) (hp : perm.map (fun i => (wr ++ w2)[i]?) = W1.map some) (hpn : va_nd perm = true)
    (kk : ∀ (H1 : Heap) (locs1 : List Loc), va_P D vwCl W1 H1 → va_D A W1 → va_S A H0 H1 locs1 → W p l e R s m args below meth c H1 locs1 cells slots Q (F0 m (pc + 3) ls (.long x :: rest))) : W p l e R s m args below meth c H locs cells slots Q (F0 m pc ls st) := by
  have hF := va_free (wc := w) hD hS hA is hw
  refine va_calll hrun hS (fun q _ h => hF q h) hF (fun r u t H1 locs1 ht hvm hpo hB hz1 hk1 hS1 => ?_)
  obtain ⟨hP1, hD1⟩ := hB
  rw [ht] at hP1
  obtain ⟨hP2, hD2⟩ := va_join (wr := wr) (w1 := w2) hP hD is isR hw hR hnd hdis hk1 hF hP1 hD1
  rw [hpo]
  exact kk H1 locs1 (hP2.sub perm (mMapF _ _ _ hp)) (hD2.sub perm hpn hp) hS1
theorem mc_Ev (hrun : va_Run p l e R s m args below meth c H locs cells slots 0 0 (F0 m pc ls st) rest (va_Qv (fun (_ : Unit) => True) (gPost D (va_A w H.size) w2) (va_A w H.size) a) (va_A w H.size)) (hP : va_P D vwCl W0 H) (hD : va_D A W0) (hS : va_S A H0 H locs) (hA : ∀ q : Nat, H0.size ≤ q → A q) (is : List Nat) (hw : is.map (fun i => W0[i]?) = w.map some) (isR : List Nat) (hR : isR.map (fun i => W0[i]?) = wr.map some) (hnd : va_nd isR = true) (hdis : ∀ i ∈ isR, i ∉ is) (perm : List Nat) (hp : perm.map (fun i => (wr ++ w2)[i]?) = W1.map some) (hpn : va_nd perm = true)
    (kk : ∀ (H1 : Heap) (locs1 : List Loc), va_P D vwCl W1 H1 → va_D A W1 → va_S A H0 H1 locs1 → W p l e R s m args below meth c H1 locs1 cells slots Q (F0 m (pc + 3) ls rest)) : W p l e R s m args below meth c H locs cells slots Q (F0 m pc ls st) := by
  have hF := va_free (wc := w) hD hS hA is hw
  refine va_callv hrun hS (fun q _ h => hF q h) hF (fun u t H1 locs1 ht hvm hpo hB hz1 hk1 hS1 => ?_)
  obtain ⟨hP1, hD1⟩ := hB
  rw [ht] at hP1
  obtain ⟨hP2, hD2⟩ := va_join (wr := wr) (w1 := w2) hP hD is isR hw hR hnd hdis hk1 hF hP1 hD1
  exact kk H1 locs1 (hP2.sub perm (mMapF _ _ _ hp)) (hD2.sub perm hpn hp) hS1
end GC
section GS
variable {p : Program} {l : Launch} {e : Env} {R : Room} {s : State} {m : MethodId} {args : Array Value} {below : List Frame} {meth : Method} {c : Code} {H : Heap} {locs : List Loc} {cells slots : Nat}
/-- a super call whose method the superclass itself inherits -/
theorem va_runSI {x y : MethodName} {owner : String} {bytes cc : ByteArray} {maxL nL mc ms n index : Nat} {ret : Option FieldType} {ws : List Cond} {rm : Room} {Pc : Array Value → State → Prop} {Qc : Array Value → State → Outcome → State → Prop} {free : Addr → Prop} {Ts : List Cond} {own C : String} {cC : ClassId} {b : Addr} {As rest : List Value} {g : JFrame}
    (hat : ClassAt s C cC) (S : CallFix p m c cc nL s args Ts own) (hM : Met l y ws rm Pc Qc mc ms free) (hyx : y = ⟨owner, x.name, x.desc⟩) (hl1 : (Cond.methodLink own index x).before args s = true) (hl2 : (Cond.sameMethod x.cls owner x.name x.desc).before args s = true) (hl3 : (Cond.superclass own x.cls).before args s = true) (hl5 : (Cond.superclass x.cls owner).before args s = true) (hl4 : (Cond.instanceMethod y).before args s = true) (hini : (Cond.initialized y.cls).before args s = true) (hcode : (Cond.code y bytes maxL ret).before args s = true) (hno : x.name ≠ "<init>") (hlen : ∀ sig, parseMethodDescriptor y.desc = some sig → n = sig.parameters.length)
    (hrc : rm.cells = mc) (hrs : rm.slots = ms) (hfr : rm.frames + 1 ≤ R.frames) (hlo : 8 + (maxL + 11) + rm.locals ≤ R.locals) (hws : ∀ w ∈ ws, ∀ (a' : Array Value) (U : State), s.WarmedH U.vm → w.before a' U = true) (hcw : Cond.code y bytes maxL ret ∈ ws) (hp : PreV s H C b Pc As)
    (hg : g.method = m) (hn : As.length = n) (hsize : g.locals.size = nL) (hstack : g.stack = As.reverse ++ .ref b :: rest) (hW : 2 * g.monitorRoom + (rest.map fun v => v.category).sum ≤ 8) (hdg : decode cc g.pc = .ok (.invokespecial index, 3)) (hf : cells + mc ≤ R.cells ∧ slots + ms ≤ R.slots) :
    va_Run p l e R s m args below meth c H locs cells slots mc ms g rest (Qc (Value.ref b :: As).toArray) (free) := by
  have hK : Back l R p e below s args y 3 8 (PreOf R mc ms Pc) (PostOf Qc mc ms free) := back_of (bytes := bytes) (maxL := maxL) (ret := ret) hM hp.1 hrc hrs hfr hlo hws hcw (fun a' U hW => word_at hW (Or.inl (by first | rfl | simp [Cond.onTables, Cond.keeps, Cond.steady])) hini)
  obtain ⟨hx, hb, hml, ho, -⟩ := S
  obtain ⟨-, ⟨cellB, hcB, hoB, hclB⟩, hPc⟩ := hp
  obtain ⟨hfc, kB, hkB, -⟩ := hat
  cases hfc.symm.trans hclB
  subst hyx
  intro T hT X
  obtain ⟨mk, methM, hnamed, hmethM, hstM, habM⟩ := Cond.instanceMethod_spec hl4
  obtain ⟨methM', cM, hmethM', -, -, -, -, -, -, hsigM⟩ := Cond.code_spec hnamed hcode
  cases hmethM.symm.trans hmethM'
  obtain ⟨ps, dk, kp, hps, hdk, hkp, hsuper, -, -, hnid⟩ := Cond.superclass_spec ho hl3
  obtain ⟨po, k2, k3, hpo, hk2, hk3, hsuper2, -, -, -⟩ := Cond.superclass_spec hps hl5
  have hpm : po = mk.cls := Option.some.inj (hpo.symm.trans (findClass_of_methodNamed hnamed))
  have hsz : ∃ z, s.vm.classes.size = z + 1 := ⟨s.vm.classes.size - 1, by have := (Array.getElem?_eq_some_iff.mp hk2).1; omega⟩
  have hsub : s.vm.isSubclass ps mk.cls = true := by
    obtain ⟨z, hz⟩ := hsz
    subst hpm
    simp [Vm.isSubclass, hz, Vm.isSubclassAux, hk2, hsuper2]
  obtain ⟨vm₁, X₁, hstep₁⟩ := X.invokespecialUp hx ho hl1 hl2 hnamed hmethM hstM habM hno hdk hnid hps hsuper hsub (a := b) (cell := cellB) (by rw [hT]; exact hcB)
    (fun z h => by rw [h] at hoB; cases hoB) hkB (g := g) hg (argsL := As) (rest := rest) (hn.trans (hlen _ hsigM)) hstack (by rw [hb]; exact hdg)
  obtain ⟨v, B, X', hpost, hsteps⟩ := hK m meth c ⟨T.setVm vm₁, locs, cells, slots⟩ { g with stack := rest } (.invokespecial index) mk (Value.ref b :: As).toArray X₁ hg (hsize.trans hml.symm) (by rw [hb]; exact hdg) hW (X₁.named hnamed) ⟨hf.1, hf.2, hPc (T.setVm vm₁) hT X₁.warmed⟩
  obtain ⟨U', l2, c2, s2⟩ := B
  obtain ⟨g', mk', t, L, e1, e2, hq, h1, hL, h2, h3⟩ := hpost
  dsimp only [Pt.U, Pt.locs, Pt.cells, Pt.slots] at X' e1 e2 h1 h2 h3 hsteps
  subst h1; subst h2; subst h3
  exact ⟨v, (T.setVm vm₁).calling g' mk' (Value.ref b :: As).toArray, t, U', L, hT, X', hL, e1, e2, hq, fun target h => hstep₁ _ (by rw [doInvoke_state]; exact hsteps.trans h)⟩
end GS
