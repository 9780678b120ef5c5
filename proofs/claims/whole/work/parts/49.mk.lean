-- ===== making: the cells come one behind another, at addresses that are known ahead
def nmL : List Nat := [19, 20, 48, 49, 50, 51, 52, 53, 54, 55, 56, 57, 58, 59, 60, 61, 62, 63, 21, 22, 23, 24, 25, 26, 27, 28, 29, 30, 31, 64, 65, 66, 67, 68, 32, 69, 70, 71, 72, 73, 74, 33, 34, 35, 36, 37, 38, 75, 76, 77, 78, 79, 80, 81, 82, 83, 84, 85, 86, 87, 88, 89, 90, 91, 92, 93, 94, 95, 96, 97, 98, 39, 40, 41, 99, 100, 101, 102, 103, 104, 105, 106, 107, 108, 109, 110, 111, 112, 113, 114, 115, 116, 117, 118, 119, 120, 121, 122, 42, 43, 123, 124, 125, 126, 127, 128, 129, 130, 131, 132, 133, 134, 135, 136, 137, 138, 139, 140, 141, 142, 143, 144, 145, 146, 44, 45, 46, 47, 0, 1, 2, 3, 4, 5, 6, 7, 8, 9, 10, 11, 12, 13, 14, 15, 16, 17, 18]
def psL : List Nat := [128, 129, 130, 131, 132, 133, 134, 135, 136, 137, 138, 139, 140, 141, 142, 143, 144, 145, 146, 0, 1, 18, 19, 20, 21, 22, 23, 24, 25, 26, 27, 28, 34, 41, 42, 43, 44, 45, 46, 71, 72, 73, 98, 99, 124, 125, 126, 127, 2, 3, 4, 5, 6, 7, 8, 9, 10, 11, 12, 13, 14, 15, 16, 17, 29, 30, 31, 32, 33, 35, 36, 37, 38, 39, 40, 47, 48, 49, 50, 51, 52, 53, 54, 55, 56, 57, 58, 59, 60, 61, 62, 63, 64, 65, 66, 67, 68, 69, 70, 74, 75, 76, 77, 78, 79, 80, 81, 82, 83, 84, 85, 86, 87, 88, 89, 90, 91, 92, 93, 94, 95, 96, 97, 100, 101, 102, 103, 104, 105, 106, 107, 108, 109, 110, 111, 112, 113, 114, 115, 116, 117, 118, 119, 120, 121, 122, 123]
def nm (k : Nat) : Nat := nmL.getD k 0
def ps (i : Nat) : Nat := psL.getD i 0
theorem nm_ok0 : (List.range 147).all (fun k => decide (nm k < 147) && decide (ps (nm k) = k) && decide (ps k < 147) && decide (nm (ps k) = k)) = true := by decide +kernel
theorem nm_ok (k : Nat) (hk : k < 147) : nm k < 147 ∧ ps (nm k) = k ∧ ps k < 147 ∧ nm (ps k) = k := by
  have h := List.all_eq_true.mp nm_ok0 k (List.mem_range.mpr hk)
  simp only [Bool.and_eq_true, decide_eq_true_eq] at h
  exact ⟨h.1.1.1, h.1.1.2, h.1.2, h.2⟩
def hlN (X : Cx) (sz N : Nat) (g : Mem) (H : Heap) : Prop := H.size = sz + N ∧ ∀ k, k < N → va_at X.2.1 vwCl (sz + k, g (nm k)) H
def adX (X : Cx) (sz : Nat) : Prop := ∀ i, i < 147 → X.2.2.1 i = sz + ps i
def aoX (U : State) : Prop := (Cond.arrayOver (.array .int)).before #[] U = true ∧ (Cond.arrayOver (.array .long)).before #[] U = true
theorem ao_args {U : State} {args args' : Array Value} {ty : FieldType} : (Cond.arrayOver ty).before args U = (Cond.arrayOver ty).before args' U := rfl
theorem ao_vm {s U : State} (h : s.vm.Alike U.vm) (ty : FieldType) : (Cond.arrayOver ty).before #[] U = (Cond.arrayOver ty).before #[] s := by
  have h1 := Cond.arrayOver_setVmC (args := #[]) h ty
  rw [← h1]
  simp only [Cond.before, Cond.holds, Cond.value, State.vm_setVm]
  rfl
theorem aoX.moved {s U : State} (h : s.vm.Alike U.vm) (ha : aoX s) : aoX U := ⟨by rw [ao_vm h]; exact ha.1, by rw [ao_vm h]; exact ha.2⟩
def kyX (X : Cx) (U : State) : Prop := kxX X U ∧ aoX U
theorem kyX.warm {X : Cx} {s U : State} (hW : s.WarmedH U.vm) (h : kyX X s) : kyX X U := ⟨h.1.warm hW, h.2.moved hW.alike⟩
theorem kyX.same {X : Cx} {s U : State} (hW : s.vm = U.vm) (h : kyX X s) : kyX X U := ⟨h.1.same hW, h.2.moved (by rw [hW]; exact Vm.Alike.refl _)⟩
def PreN (X : Cx) (sz N : Nat) (g : Mem) (U : State) : Prop := adX X sz ∧ N ≤ 147 ∧ kyX X U ∧ hlN X sz N g U.heap
def QcN (X : Cx) (sz : Nat) (Q : Mem → Nat → Prop) : Array Value → State → Outcome → State → Prop := fun _ st oc t => (∃ (g : Mem) (N : Nat), oc = .returned none ∧ Q g N ∧ N ≤ 147 ∧ hlN X sz N g t.heap) ∧ va_F (fun q => sz ≤ q) st t
def rmN (d mc ms : Nat) : Room := { frames := d, cells := mc, slots := ms, locals := 38 * d }
def CtM (X : Cx) (sz d mc ms : Nat) (y : MethodName) (as : List Value) (g : Mem) (N : Nat) (Q : Mem → Nat → Prop) : Prop := ∃ (cc : ByteArray) (n : Nat), Cond.code y cc n none ∈ gtb ∧ n ≤ 19 ∧ Met X.1 y (Cond.code y cc n none :: gtb) (rmN d mc ms) (va_Pc as (PreN X sz N g)) (QcN X sz Q) mc ms (fun q => sz ≤ q)
theorem PreN.blind {X : Cx} {sz N : Nat} {as : List Value} {g : Mem} : FrameBlind (va_Pc as (PreN X sz N g)) := by
  intro a U fr mk h
  obtain ⟨h0, h1, h2, h3, h4⟩ := h
  exact ⟨h0, h1, h2, kyX.same (s := U) rfl h3, h4⟩
def FxN (X : Cx) (sz : Nat) (p : Program) (s : State) (m : MethodId) (args : Array Value) (meth : Method) (c : Code) (R : Room) (own : String) (cc : ByteArray) (nL d : Nat) : Prop := p.tables.exec = Jvm.exec ∧ c.code = cc ∧ c.maxLocals = nL ∧ s.vm.findClass own = some m.cls ∧ (∀ w ∈ gtb, w.before args s = true) ∧ adX X sz ∧ kyX X s ∧ sz ≤ s.heap.size ∧ d ≤ R.frames ∧ 38 * d ≤ R.locals
def KN (X : Cx) (sz : Nat) (p : Program) (e : Env) (R : Room) (s : State) (m : MethodId) (args : Array Value) (below : List Frame) (meth : Method) (c : Code) (nL : Nat) (Qw : State → Prop) (g : Mem) (N cells slots pc : Nat) (vs : Lv) (st : List Value) : Prop := N ≤ 147 ∧ ∀ (H : Heap) (locs : List Loc) (ls : Array Slot), hlN X sz N g H → va_S (fun q => sz ≤ q) s.heap H locs → lsh ls nL vs → W p X.1 e R s m args below meth c H locs cells slots Qw (F0 m pc ls st)
/-- the world as a list -/
def wdN (sz N : Nat) (g : Mem) : va_W := (List.range N).map (fun k => (sz + k, g (nm k)))
theorem wdN_get {sz N : Nat} {g : Mem} {k : Nat} (hk : k < N) : (wdN sz N g)[k]? = some (sz + k, g (nm k)) := by
  unfold wdN
  rw [List.getElem?_map, List.getElem?_range hk]
  rfl
theorem wdN_in {sz N : Nat} {g : Mem} {k : Nat} {q : Nat × va_E} (h : (wdN sz N g)[k]? = some q) : k < N ∧ q = (sz + k, g (nm k)) := by
  have hl : k < (wdN sz N g).length := (List.getElem?_eq_some_iff.mp h).1
  have h1 : k < N := by simpa [wdN] using hl
  rw [wdN_get h1] at h
  cases h
  exact ⟨h1, rfl⟩
theorem wdN_P {X : Cx} {sz N : Nat} {g : Mem} {H : Heap} (h : hlN X sz N g H) : va_P X.2.1 vwCl (wdN sz N g) H := by
  intro k q hk
  obtain ⟨h1, rfl⟩ := wdN_in hk
  exact h.2 k h1
theorem wdN_D {sz N : Nat} {g : Mem} : va_D (fun q => sz ≤ q) (wdN sz N g) := by
  refine ⟨fun i j p q hi hj hpq => ?_, fun k q hk => ?_⟩
  · obtain ⟨a1, rfl⟩ := wdN_in hi
    obtain ⟨b1, rfl⟩ := wdN_in hj
    have : sz + i = sz + j := hpq
    omega
  · obtain ⟨a1, rfl⟩ := wdN_in hk
    exact Nat.le_add_right _ _
theorem wdN_at {X : Cx} {sz N : Nat} {g : Mem} {o : Nat} {e : va_E} (ha : adX X sz) (ho : o < 147) (hN : ps o < N) (hg : g o = e) : (wdN sz N g)[ps o]? = some (X.2.2.1 o, e) := by
  rw [wdN_get hN, (nm_ok o ho).2.2.2, hg, ha o ho]
theorem hlN_of {X : Cx} {sz N : Nat} {g : Mem} {H H1 : Heap} {o : Nat} {e : va_E} (ho : o < 147) (hN : ps o < N) (hN2 : N ≤ 147) (hs : H1.size = H.size) (hh : hlN X sz N g H) (ha : adX X sz) (h : va_P X.2.1 vwCl ((wdN sz N g).set (ps o) (X.2.2.1 o, e)) H1) : hlN X sz N (va_up g o e) H1 := by
  refine ⟨by rw [hs]; exact hh.1, fun k hk => ?_⟩
  have hlen : ps o < (wdN sz N g).length := by simpa [wdN] using hN
  by_cases hko : k = ps o
  · have := h (ps o) (X.2.2.1 o, e) (List.getElem?_set_self hlen)
    rw [hko, (nm_ok o ho).2.2.2, up_same, ← ha o ho]
    exact this
  · have := h k (sz + k, g (nm k)) (by rw [List.getElem?_set_ne (fun z => hko z.symm)]; exact wdN_get hk)
    rw [up_ne (fun z => hko (by rw [← (nm_ok k (by omega)).2.1, z]))]
    exact this
theorem hlN_new {X : Cx} {sz N : Nat} {g : Mem} {H H1 : Heap} {o : Nat} {e : va_E} (ho : nm N = o) (hN2 : N < 147) (hs : H1.size = sz + N + 1) (hh : hlN X sz N g H) (hq : ∀ q, q < sz + N → H1[q]? = H[q]?) (h : va_at X.2.1 vwCl (sz + N, e) H1) : hlN X sz (N + 1) (va_up g o e) H1 := by
  refine ⟨by rw [hs]; rfl, fun k hk => ?_⟩
  by_cases hko : k = N
  · rw [hko, ho, up_same]
    exact h
  · rw [up_ne (fun z => hko (by rw [← (nm_ok k (by omega)).2.1, z, ← ho, (nm_ok N hN2).2.1]))]
    exact (hh.2 k (by omega)).kept (hq _ (by show sz + k < sz + N; omega))
theorem va_S_grow {A : Nat → Prop} {H0 H H1 : Heap} {locs : List Loc} (hS : va_S A H0 H locs) (hs : H.size ≤ H1.size) (hq : ∀ q, q < H.size → H1[q]? = H[q]?) : va_S A H0 H1 locs := ⟨Nat.le_trans hS.1 hs, fun x h1 h2 => (hq x (Nat.lt_of_lt_of_le h1 hS.1)).trans (hS.2.1 x h1 h2), hS.2.2⟩
theorem arrV_congr {c : ClassId} {N : Nat} {f f' : Nat → Value} (h : ∀ j, j < N → f j = f' j) : arrV c N f = arrV c N f' := by
  unfold arrV
  congr 2
  funext j
  exact h j.val j.isLt
theorem mk_outer (c : ClassId) (N h0 : Nat) : ∀ i : Nat, Jvm.Free.Multi.outerC c N h0 i = arrV c N (fun j => va_rf (if j < i then some (h0 + 1 + j) else none))
  | 0 => by
    show ({ cls := c, slots := Array.replicate N .null, vm := .none } : Cell) = _
    rw [arrV_new]
    refine congrArg (arrV c N) (funext fun j => ?_)
    simp [va_rf]
  | i + 1 => by
    show (Jvm.Free.Multi.outerC c N h0 i).setSlot i (.ref (h0 + 1 + i)) = _
    rw [mk_outer c N h0 i, arrV_store]
    refine congrArg (arrV c N) (funext fun j => ?_)
    by_cases e : j = i
    · subst e
      simp [updV, va_rf]
    · by_cases h : j < i
      · simp [updV, e, h, Nat.lt_succ_of_lt h]
      · simp [updV, e, h, show ¬ j < i + 1 by omega]
/-- many names at once -/
def va_ups (g : Mem) (lo n : Nat) (e : va_E) : Mem := fun j => if lo ≤ j ∧ j < lo + n then e else g j
/-- a final field of a class, in its constructor -/
def FQ (own : String) (idx ci k : Nat) (ty : FieldType) : Prop := ∃ (C : String) (T : u_T) (N : Nat) (ty0 : Nat → FieldType), vwCl[ci]? = some (C, T, N) ∧ k < N ∧ (∀ w ∈ u_ws C T N, w ∈ gtb) ∧ (∀ k, k < N → parseFieldDescriptor (T k).2.2.1 = some (ty0 k)) ∧ (∀ a, a < N → ∀ b, b < N → a ≠ b → (T a).2.1 ≠ (T b).2.1) ∧ (T k).2.2.2 = true ∧ (T k).1 = own ∧ parseFieldDescriptor (T k).2.2.1 = some ty ∧ Cond.fieldLink own idx (T k).1 (T k).2.1 (T k).2.2.1 ∈ gtb
/-- a field of a class, in its own code -/
def FR (own : String) (idx ci k : Nat) (ty : FieldType) : Prop := ∃ (C : String) (T : u_T) (N : Nat) (ty0 : Nat → FieldType), vwCl[ci]? = some (C, T, N) ∧ k < N ∧ (∀ w ∈ u_ws C T N, w ∈ gtb) ∧ (∀ k, k < N → parseFieldDescriptor (T k).2.2.1 = some (ty0 k)) ∧ (∀ a, a < N → ∀ b, b < N → a ≠ b → (T a).2.1 ≠ (T b).2.1) ∧ (T k).2.2.2 = false ∧ parseFieldDescriptor (T k).2.2.1 = some ty ∧ Cond.fieldLink own idx (T k).1 (T k).2.1 (T k).2.2.1 ∈ gtb
/-- a class that can be made here -/
def NC (own : String) (idx ci N : Nat) (fs : List Value) : Prop := ∃ (C : String) (T : u_T) (ty : Nat → FieldType), vwCl[ci]? = some (C, T, N) ∧ (∀ w ∈ u_ws C T N, w ∈ gtb) ∧ (∀ k, k < N → parseFieldDescriptor (T k).2.2.1 = some (ty k)) ∧ Cond.classLink own idx C ∈ gtb ∧ Cond.instantiable C N ∈ gtb ∧ Cond.initialized C ∈ gtb ∧ ∀ j, j < N → defaultValue (ty j) = vp_V fs j
/-- a constructor that can be called here -/
def IL (own : String) (idx : Nat) (y : MethodName) (n : Nat) : Prop := Cond.methodLink own idx y ∈ gtb ∧ Cond.instanceMethod y ∈ gtb ∧ Cond.initialized y.cls ∈ gtb ∧ y.name = "<init>" ∧ MnameOk y n
theorem oi_i : Cond.instanceMethod objectInit ∈ gtb := (gtb_of (tb1 (List.mem_of_getElem? (i := 20) (by decide +kernel))) (by decide +kernel))
theorem oi_c : Cond.code objectInit ⟨#[0xb1]⟩ 1 none ∈ gtb := (gtb_of (tb1 (List.mem_of_getElem? (i := 21) (by decide +kernel))) (by decide +kernel))
theorem ac_int : Cond.arrayClass .int ∈ gtb := (gtb_of (tb1 (List.mem_of_getElem? (i := 46) (by decide +kernel))) (by decide +kernel))
theorem ac_long : Cond.arrayClass .long ∈ gtb := (gtb_of (tb1 (List.mem_of_getElem? (i := 82) (by decide +kernel))) (by decide +kernel))
theorem ac_byte : Cond.arrayClass .byte ∈ gtb := (gtb_of (tb1 (List.mem_of_getElem? (i := 48) (by decide +kernel))) (by decide +kernel))
theorem ac_bool : Cond.arrayClass .boolean ∈ gtb := (gtb_of (tb1 (List.mem_of_getElem? (i := 47) (by decide +kernel))) (by decide +kernel))
section MK
variable {X : Cx} {sz : Nat} {p : Program} {e : Env} {R : Room} {s : State} {m : MethodId} {args : Array Value} {below : List Frame} {meth : Method} {c : Code} {nL d : Nat} {Qw : State → Prop} {own : String} {cc : ByteArray} {g : Mem} {N cells slots pc : Nat} {vs : Lv} {st : List Value}
theorem n_aload_n (F : FxN X sz p s m args meth c R own cc nL d) {k : Fin 4} (i : Nat) {v : Nat} (hd : decode cc pc = .ok (.aload_n k, 1)) (hi : (k : Nat) = i) (hv : lget vs i = some (.ref v)) (h : KN X sz p e R s m args below meth c nL Qw g N cells slots (pc + 1) vs (.ref v :: st)) : KN X sz p e R s m args below meth c nL Qw g N cells slots pc vs st :=
  ⟨h.1, fun H locs ls hh hS hl => lv_aload_n F.1 F.2.1 hd hi (lsh_at hl hv) (h.2 H locs ls hh hS hl)⟩
theorem n_iconst (F : FxN X sz p s m args meth c R own cc nL d) {n : Int} {v : Int32} (hd : decode cc pc = .ok (.iconst n, 1)) (hv : Int32.ofInt n = v) (h : KN X sz p e R s m args below meth c nL Qw g N cells slots (pc + 1) vs (.int v :: st)) : KN X sz p e R s m args below meth c nL Qw g N cells slots pc vs st :=
  ⟨h.1, fun H locs ls hh hS hl => lv_iconst F.1 F.2.1 hd hv (h.2 H locs ls hh hS hl)⟩
theorem n_bipush (F : FxN X sz p s m args meth c R own cc nL d) {n : Int} {v : Int32} (hd : decode cc pc = .ok (.bipush n, 2)) (hv : (Int8.ofInt n).toInt32 = v) (h : KN X sz p e R s m args below meth c nL Qw g N cells slots (pc + 2) vs (.int v :: st)) : KN X sz p e R s m args below meth c nL Qw g N cells slots pc vs st :=
  ⟨h.1, fun H locs ls hh hS hl => lv_bipush F.1 F.2.1 hd hv (h.2 H locs ls hh hS hl)⟩
theorem n_sipush (F : FxN X sz p s m args meth c R own cc nL d) {n : Int} {v : Int32} (hd : decode cc pc = .ok (.sipush n, 3)) (hv : (Int16.ofInt n).toInt32 = v) (h : KN X sz p e R s m args below meth c nL Qw g N cells slots (pc + 3) vs (.int v :: st)) : KN X sz p e R s m args below meth c nL Qw g N cells slots pc vs st :=
  ⟨h.1, fun H locs ls hh hS hl => lv_sipush F.1 F.2.1 hd hv (h.2 H locs ls hh hS hl)⟩
theorem n_lconst (F : FxN X sz p s m args meth c R own cc nL d) {n : Fin 2} {v : Int64} (hd : decode cc pc = .ok (.lconst n, 1)) (hv : Int64.ofNat (n : Nat) = v) (h : KN X sz p e R s m args below meth c nL Qw g N cells slots (pc + 1) vs (.long v :: st)) : KN X sz p e R s m args below meth c nL Qw g N cells slots pc vs st :=
  ⟨h.1, fun H locs ls hh hS hl => lv_lconst F.1 F.2.1 hd hv (h.2 H locs ls hh hS hl)⟩
theorem n_dup (F : FxN X sz p s m args meth c R own cc nL d) {a : Value} (hd : decode cc pc = .ok (.dup, 1)) (ha : a.category = 1) (h : KN X sz p e R s m args below meth c nL Qw g N cells slots (pc + 1) vs (a :: a :: st)) : KN X sz p e R s m args below meth c nL Qw g N cells slots pc vs (a :: st) :=
  ⟨h.1, fun H locs ls hh hS hl => lv_dup F.1 F.2.1 hd ha (h.2 H locs ls hh hS hl)⟩
theorem n_astore_n (F : FxN X sz p s m args meth c R own cc nL d) {k : Fin 4} (i : Nat) {v : Nat} (hd : decode cc pc = .ok (.astore_n k, 1)) (hi : (k : Nat) = i) (hn : i < nL) (h : KN X sz p e R s m args below meth c nL Qw g N cells slots (pc + 1) (lset vs i (.ref v)) st) : KN X sz p e R s m args below meth c nL Qw g N cells slots pc vs (.ref v :: st) :=
  ⟨h.1, fun H locs ls hh hS hl => lv_astore_n F.1 F.2.1 hd hi hl hn rfl (fun ls2 hl2 => h.2 H locs ls2 hh hS (lsh_set hl2))⟩
theorem n_obj (F : FxN X sz p s m args meth c R own cc nL d) {idx o : Nat} (hd : decode cc pc = .ok (.invokespecial idx, 3)) (hL : Cond.methodLink own idx objectInit ∈ gtb) (hd1 : 1 ≤ d) (hr : (st.map fun v => v.category).sum ≤ 8) (h : KN X sz p e R s m args below meth c nL Qw g N cells slots (pc + 3) vs st) : KN X sz p e R s m args below meth c nL Qw g N cells slots pc vs (rf X o :: st) :=
  ⟨h.1, fun H locs ls hh hS hl => by
    have w1 := F.2.2.2.2.2.2.2.2.1
    have w2 := F.2.2.2.2.2.2.2.2.2
    refine W.objInit F.1 F.2.1 F.2.2.2.1 (F.2.2.2.2.1 _ hL) (F.2.2.2.2.1 _ oi_i) (F.2.2.2.2.1 _ oi_c) rfl (by show ls.size = c.maxLocals; rw [F.2.2.1]; exact hl.1) rfl hd (by omega) ?_ (h.2 H locs ls hh hS hl)
    have : 2 * (F0 m pc ls (rf X o :: st)).monitorRoom = 0 := rfl
    omega⟩
theorem n_getf (F : FxN X sz p s m args meth c R own cc nL d) {idx ci k o : Nat} {fs : List Value} {v : Value} (hd : decode cc pc = .ok (.getfield idx, 3)) (hF : FL own idx ci k) (ho : o < 147) (hp : ps o < N) (hg : g o = .inr (ci, fs)) (hv : fs[k]? = some v) (h : KN X sz p e R s m args below meth c nL Qw g N cells slots (pc + 3) vs (v :: st)) : KN X sz p e R s m args below meth c nL Qw g N cells slots pc vs (rf X o :: st) :=
  ⟨h.1, fun H locs ls hh hS hl => by
    obtain ⟨C, T, Nn, f1, f2, f3, f4⟩ := hF
    rcases f4 with f4 | ⟨z, f4⟩
    · exact va_get F.1 F.2.1 F.2.2.2.2.1 f3 F.2.2.2.1 F.2.2.2.2.2.2.1.1.1 (wdN_P hh) (ps o) (wdN_at F.2.2.2.2.2.1 ho hp hg) f1 k f2 (F.2.2.2.2.1 _ f4) (fun _ q => q) hv hd (h.2 H locs ls hh hS hl)
    · exact va_getN F.1 F.2.1 F.2.2.2.2.1 f3 F.2.2.2.1 F.2.2.2.2.2.2.1.1.1 (wdN_P hh) (ps o) (wdN_at F.2.2.2.2.2.1 ho hp hg) f1 k f2 (va_Nw.use rfl (F.2.2.2.2.2.2.1.1.2.2 _ f4)) (fun _ q => q) hv hd (h.2 H locs ls hh hS hl)⟩
theorem hlN_put {o : Nat} {e1 : va_E} {H H1 : Heap} (ha : adX X sz) (ho : o < 147) (hp : ps o < N) (hN : N ≤ 147) (hh : hlN X sz N g H) (hz : H1.size = H.size) (hq : ∀ q, q ≠ X.2.2.1 o → H1[q]? = H[q]?) (h : va_at X.2.1 vwCl (X.2.2.1 o, e1) H1) : hlN X sz N (va_up g o e1) H1 := by
  refine ⟨by rw [hz]; exact hh.1, fun k hk => ?_⟩
  by_cases hko : k = ps o
  · rw [hko, (nm_ok o ho).2.2.2, up_same, ← ha o ho]
    exact h
  · rw [up_ne (fun z => hko (by rw [← (nm_ok k (by omega)).2.1, z]))]
    exact (hh.2 k hk).kept (hq _ (fun z => by rw [ha o ho] at z; have z : sz + k = sz + ps o := z; omega))
theorem n_put (F : FxN X sz p s m args meth c R own cc nL d) {idx ci k o : Nat} {fs : List Value} {v : Value} {ty : FieldType} (hd : decode cc pc = .ok (.putfield idx, 3)) (hF : FR own idx ci k ty) (ho : o < 147) (hp : ps o < N) (hg : g o = .inr (ci, fs)) (hn : narrow ty v = v) (hf : fits ty v = true) (hk : k < fs.length) (h : KN X sz p e R s m args below meth c nL Qw (va_up g o (.inr (ci, fs.set k v))) N cells slots (pc + 3) vs st) : KN X sz p e R s m args below meth c nL Qw g N cells slots pc vs (v :: rf X o :: st) := by
  refine ⟨h.1, fun H locs ls hh hS hl => ?_⟩
  obtain ⟨C, T, Nn, ty0, f1, f2, f3, f5, f6, f7, f8, f4⟩ := hF
  have hK := F.2.2.2.2.2.2.1.1.1
  have he := wdN_at F.2.2.2.2.2.1 ho hp hg
  have hap := va_apart (own := own) F.2.2.2.2.1 f3 ty0 f5 f6 hK f1
  obtain ⟨r, h1, cell, q1, q2, q3, q4⟩ := wdN_P hh (ps o) _ he
  have hr : r = (C, T, Nn) := Option.some.inj (h1.symm.trans f1)
  subst hr
  obtain ⟨hSl, hfc, kC, hkC, hkind⟩ := hK.1 ci _ f1
  obtain ⟨cf, kf, fi, f, hi, hsl⟩ := hSl k f2
  have hlay := F.2.2.2.2.1 _ (f3 _ (u_in_lay f2))
  unfold u_lay at hlay
  rw [if_neg (by rw [f7]; decide)] at hlay
  have hst := (u_facts hfc hkC (u_lays F.2.2.2.2.1 f3 f2) hi).1
  have h6 := u_store hfc hkC hkind hlay hi f8 hn hf
  refine W.putK F.1 F.2.1 (f := f) ⟨F.2.2.2.1, F.2.2.2.2.1 _ f4, ⟨_, _, _, hi⟩, hst⟩ (by rw [q2]; exact h6) q1 q3 (by rw [hsl]; exact k2_hasslot (q4 k f2)) rfl rfl hd fun H' e1 e2 e3 => ?_
  rw [hsl] at e1 ⊢
  exact h.2 H' _ ls (hlN_put F.2.2.2.2.2.1 ho hp h.1 hh e2 e3 ⟨_, f1, t_OB.to (V := updV (vp_V fs) k v) ⟨_, e1, q2, q3, t_set q4 hap f2 v⟩ (fun j _ => vp_updV_set hk v j)⟩) (hS.put e2 e3 (by rw [F.2.2.2.2.2.1 o ho]; exact Nat.le_add_right _ _)) hl
theorem n_putF (F : FxN X sz p s m args meth c R own cc nL d) (hin : meth.name = "<init>") {idx ci k o : Nat} {fs : List Value} {v : Value} {ty : FieldType} (hd : decode cc pc = .ok (.putfield idx, 3)) (hF : FQ own idx ci k ty) (ho : o < 147) (hp : ps o < N) (hg : g o = .inr (ci, fs)) (hn : narrow ty v = v) (hf : fits ty v = true) (hk : k < fs.length) (h : KN X sz p e R s m args below meth c nL Qw (va_up g o (.inr (ci, fs.set k v))) N cells slots (pc + 3) vs st) : KN X sz p e R s m args below meth c nL Qw g N cells slots pc vs (v :: rf X o :: st) := by
  refine ⟨h.1, fun H locs ls hh hS hl => ?_⟩
  obtain ⟨C, T, Nn, ty0, f1, f2, f3, f5, f6, f7, f9, f8, f4⟩ := hF
  have hK := F.2.2.2.2.2.2.1.1.1
  have he := wdN_at F.2.2.2.2.2.1 ho hp hg
  have hap := va_apart (own := own) F.2.2.2.2.1 f3 ty0 f5 f6 hK f1
  obtain ⟨r, h1, cell, q1, q2, q3, q4⟩ := wdN_P hh (ps o) _ he
  have hr : r = (C, T, Nn) := Option.some.inj (h1.symm.trans f1)
  subst hr
  obtain ⟨hSl, hfc, kC, hkC, hkind⟩ := hK.1 ci _ f1
  obtain ⟨cf, kf, fi, f, hi, hsl⟩ := hSl k f2
  have hlay := F.2.2.2.2.1 _ (f3 _ (u_in_lay f2))
  unfold u_lay at hlay
  rw [if_pos f7] at hlay
  have hst := (u_facts hfc hkC (u_lays F.2.2.2.2.1 f3 f2) hi).1
  have hcf : m.cls = cf := by
    obtain ⟨_, _, c', _, _, _, -, -, hf', -, -, -, hown2, -⟩ := Cond.laysFinal_spec hlay
    have e1 : c' = cf := by have := hi.symm.trans hf'; simp at this; exact this.1.symm
    rw [f9] at hown2
    rw [← e1]; exact Option.some.inj (F.2.2.2.1.symm.trans hown2)
  have h6 := u_fits hfc hkC hkind (Or.inr hlay) hi f8 hn hf
  refine W.putFinK F.1 F.2.1 F.2.2.2.1 (F.2.2.2.2.1 _ f4) hi hst hcf hin (by rw [q2]; exact h6) q1 q3 (by rw [hsl]; exact k2_hasslot (q4 k f2)) rfl rfl hd fun H' e1 e2 e3 => ?_
  rw [hsl] at e1 ⊢
  exact h.2 H' _ ls (hlN_put F.2.2.2.2.2.1 ho hp h.1 hh e2 e3 ⟨_, f1, t_OB.to (V := updV (vp_V fs) k v) ⟨_, e1, q2, q3, t_set q4 hap f2 v⟩ (fun j _ => vp_updV_set hk v j)⟩) (hS.put e2 e3 (by rw [F.2.2.2.2.2.1 o ho]; exact Nat.le_add_right _ _)) hl
theorem n_iast (F : FxN X sz p s m args meth c R own cc nL d) {o n k : Nat} {f : Nat → Int32} {i x : Int32} (hd : decode cc pc = .ok (.iastore, 1)) (ho : o < 147) (hp : ps o < N) (hg : g o = aI X n f) (hi : i = nI k) (hk : k < n) (hn : n < 2 ^ 31) (h : KN X sz p e R s m args below meth c nL Qw (va_up g o (aI X n (upd f k x))) N cells slots (pc + 1) vs st) : KN X sz p e R s m args below meth c nL Qw g N cells slots pc vs (.int x :: .int i :: rf X o :: st) := by
  subst hi
  refine ⟨h.1, fun H locs ls hh hS hl => ?_⟩
  have hK := F.2.2.2.2.2.2.1.1.1
  have he := wdN_at F.2.2.2.2.2.1 ho hp hg
  have hc := wdN_P hh (ps o) _ he
  have hin := vp_in_nI hk hn
  refine W.iast F.1 F.2.1 hc ((hK.2 0 _ rfl).1 n (fun j => .int (f j))) (fun q => by cases q) (by show ¬ (nI k < 0 ∨ (arrV _ _ _).slots.size ≤ _); rw [arrV_size]; exact hin) rfl rfl hd fun H1 e1 z oq => ?_
  rw [nI_clamp (by omega)] at e1 ⊢
  refine h.2 H1 _ ls (hlN_put F.2.2.2.2.2.1 ho hp h.1 hh z oq ?_) (hS.put z oq (by rw [F.2.2.2.2.2.1 o ho]; exact Nat.le_add_right _ _)) hl
  show H1[X.2.2.1 o]? = some (vp_cell _ _)
  rw [e1, vp_cell_i, vp_cell_i, arrV_store]
  congr 2
  funext q
  by_cases hq : q = k
  · subst hq
    simp [updV, upd]
  · simp [updV, upd, hq]
theorem n_new (F : FxN X sz p s m args meth c R own cc nL d) {idx ci Nn o : Nat} {fs : List Value} (hd : decode cc pc = .ok (.new idx, 3)) (hF : NC own idx ci Nn fs) (hN : N < 147) (ho : nm N = o) (hcells : cells + 1 ≤ R.cells) (hslots : slots + Nn ≤ R.slots) (h : KN X sz p e R s m args below meth c nL Qw (va_up g o (.inr (ci, fs))) (N + 1) (cells + 1) (slots + Nn) (pc + 3) vs (rf X o :: st)) : KN X sz p e R s m args below meth c nL Qw g N cells slots pc vs st := by
  refine ⟨by omega, fun H locs ls hh hS hl => ?_⟩
  obtain ⟨C, T, ty, f1, f2, f3, f4, f5, f6, f7⟩ := hF
  have hKn := F.2.2.2.2.2.2.1.1.1.1 ci _ f1
  have hrf : rf X o = .ref (sz + N) := by
    show Value.ref (X.2.2.1 o) = _
    rw [← ho, F.2.2.2.2.2.1 _ (nm_ok N hN).1, (nm_ok N hN).2.1]
  rw [hrf] at h
  refine W.newcK F.1 F.2.1 F.2.2.2.1 (F.2.2.2.2.1 _ f4) (F.2.2.2.2.1 _ f5) (F.2.2.2.2.1 _ f6) rfl hd hcells hslots hKn.2.1 hh.1 fun H1 kC hkC e1 z1 o1 => ?_
  exact h.2 H1 locs ls (hlN_new ho hN z1 hh o1 ⟨_, f1, (u_born ty F.2.2.2.2.1 f2 hKn hkC e1 f3).to f7⟩) (va_S_grow hS (by rw [z1, hh.1]; omega) (fun q hq => o1 q (by rw [hh.1] at hq; exact hq))) hl
theorem n_newa (F : FxN X sz p s m args meth c R own cc nL d) {atype : ArrayType} {ty : FieldType} {n : Int32} {n' o t0 : Nat} {a0 : vp_A} (hd : decode cc pc = .ok (.newarray atype, 2)) (hty : newarray.typeOf atype = ty) (hac : Cond.arrayClass ty ∈ gtb) (ht : (tysX X)[t0]? = some (X.2.2.2.1 t0, ty)) (hra : va_RA s (X.2.2.2.1 t0) ty → s.vm.findClass ("[" ++ ty.toString) = some (X.2.2.2.1 t0)) (ha : ∀ cA : ClassId, vp_cell cA a0 = arrV cA n' (fun _ => defaultValue ty)) (hn : ¬ n < 0) (hnn : n.toNatClampNeg = n') (hb : n' * componentBytes ty ≤ 536870912) (hN : N < 147) (ho : nm N = o) (hcells : cells + 1 ≤ R.cells) (hslots : slots + n' ≤ R.slots) (h : KN X sz p e R s m args below meth c nL Qw (va_up g o (.inl (X.2.2.2.1 t0, a0))) (N + 1) (cells + 1) (slots + n') (pc + 2) vs (rf X o :: st)) : KN X sz p e R s m args below meth c nL Qw g N cells slots pc vs (.int n :: st) := by
  subst hty
  refine ⟨by omega, fun H locs ls hh hS hl => ?_⟩
  have hrf : rf X o = .ref (sz + N) := by
    show Value.ref (X.2.2.1 o) = _
    rw [← ho, F.2.2.2.2.2.1 _ (nm_ok N hN).1, (nm_ok N hN).2.1]
  rw [hrf] at h
  refine va_newaK F.1 F.2.1 (F.2.2.2.2.1 _ hac) rfl hd rfl hn hnn hb hcells hslots hh.1 fun H1 cA e1 z1 o1 hAr hNm => ?_
  have hfc := hra (F.2.2.2.2.2.2.1.1.1.2 t0 _ ht).2
  have ec : cA = X.2.2.2.1 t0 := Option.some.inj (hNm.symm.trans hfc)
  subst ec
  refine h.2 H1 locs ls (hlN_new ho hN z1 hh o1 ?_) (va_S_grow hS (by rw [z1, hh.1]; omega) (fun q hq => o1 q (by rw [hh.1] at hq; exact hq))) hl
  show H1[sz + N]? = some (vp_cell _ _)
  rw [ha]
  exact e1
theorem n_mna (F : FxN X sz p s m args meth c R own cc nL d) {idx n' o lo t1 t0 : Nat} {n k : Int32} {ty : FieldType} {z : vp_A} (hd : decode cc pc = .ok (.multianewarray idx 2, 4)) (hcl : Cond.classLink own idx ("[" ++ (FieldType.array ty).toString) ∈ gtb) (hover : (Cond.arrayOver (.array ty)).before #[] s = true) (hac : Cond.arrayClass ty ∈ gtb) (hra0 : s.vm.findClass (FieldType.array ty).toString = some (X.2.2.2.1 t0)) (hra1 : s.vm.findClass ("[" ++ (FieldType.array ty).toString) = some (X.2.2.2.1 t1)) (hn : ¬ n < 0) (hk : ¬ k < 0) (hnn : n.toNatClampNeg = n') (hkk : k.toNatClampNeg = 6)
    (hb1 : n' * 4 ≤ 536870912) (hb2 : 6 * componentBytes ty ≤ 536870912) (hdf : fits ty (defaultValue ty) = true) (hdd : (defaultValue ty).isDefault = true) (hz : ∀ c : ClassId, Jvm.Free.Multi.innerC c 6 (defaultValue ty) = vp_cell c z) (hN : N + 1 + n' ≤ 147) (ho : nm N = o) (hlo : ∀ j, j < n' → nm (N + 1 + j) = lo + j) (hcells : cells + (1 + n') ≤ R.cells) (hslots : slots + (n' + n' * 6) ≤ R.slots)
    (h : KN X sz p e R s m args below meth c nL Qw (va_ups (va_up g o (.inl (X.2.2.2.1 t1, n', .inr (.inr (.inr (.inr (fun k => some (X.2.2.1 (lo + k))))))))) lo n' (.inl (X.2.2.2.1 t0, z))) (N + 1 + n') (cells + 1 + n') (slots + n' + n' * 6) (pc + 4) vs (rf X o :: st)) : KN X sz p e R s m args below meth c nL Qw g N cells slots pc vs (.int k :: .int n :: st) := by
  subst hnn
  refine ⟨by omega, fun H locs ls hh hS hl => ?_⟩
  have hrf : rf X o = .ref (sz + N) := by
    show Value.ref (X.2.2.1 o) = _
    rw [← ho, F.2.2.2.2.2.1 _ (nm_ok N (by omega)).1, (nm_ok N (by omega)).2.1]
  rw [hrf] at h
  intro T hT Xs
  obtain ⟨vm₁, cA, comp, -, fA, fC, -, -, X', step⟩ := Xs.multianewarray2F F.1 F.2.2.2.1 (F.2.2.2.2.1 _ hcl) (by rw [ao_args (args' := #[])]; exact hover) (F.2.2.2.2.1 _ hac) (g := F0 m pc ls (.int k :: .int n :: st)) rfl (by rw [F.2.1]; exact hd) rfl hn hk hb1 (by rw [hkk]; exact hb2) (by rw [hkk]; decide) hdf hdd hcells (by rw [hkk]; exact hslots)
  have ec := Option.some.inj (hra0.symm.trans fC)
  have eA := Option.some.inj (hra1.symm.trans fA)
  subst ec
  subst eA
  rw [hkk] at X' step
  obtain ⟨f1, f2, -, -⟩ := Jvm.Free.Multi.fill_facts (T.setVm vm₁) (X.2.2.2.1 t1) (X.2.2.2.1 t0) n.toNatClampNeg 6 (defaultValue ty) n.toNatClampNeg
  have hold := fun (x : Nat) (hx : x < (T.setVm vm₁).heap.size) => Jvm.Free.Multi.fill_old (T.setVm vm₁) (X.2.2.2.1 t1) (X.2.2.2.1 t0) n.toNatClampNeg 6 (defaultValue ty) (a := x) hx n.toNatClampNeg
  have hrow := fun (j : Nat) (hj : j < n.toNatClampNeg) => Jvm.Free.Multi.fill_inner (T.setVm vm₁) (X.2.2.2.1 t1) (X.2.2.2.1 t0) n.toNatClampNeg 6 (defaultValue ty) n.toNatClampNeg j hj
  have hTh : (T.setVm vm₁).heap = H := hT
  rw [hTh] at f1 f2 hold hrow
  rw [hh.1] at f1 f2 hold hrow
  have hTs : T.heap.size = sz + N := by rw [hT]; exact hh.1
  rw [hTs] at step
  generalize Jvm.Free.Multi.fill (T.setVm vm₁) (X.2.2.2.1 t1) (X.2.2.2.1 t0) n.toNatClampNeg 6 (defaultValue ty) n.toNatClampNeg = Fl at *
  have hl2 : hlN X sz (N + 1 + n.toNatClampNeg) (va_ups (va_up g o (.inl (X.2.2.2.1 t1, n.toNatClampNeg, .inr (.inr (.inr (.inr (fun k => some (X.2.2.1 (lo + k))))))))) lo n.toNatClampNeg (.inl (X.2.2.2.1 t0, z))) Fl.heap := by
    refine ⟨by rw [f1]; omega, fun q hq => ?_⟩
    by_cases e1 : q < N
    · have hnl : ¬ (lo ≤ nm q ∧ nm q < lo + n.toNatClampNeg) := fun zz => by
        have h2 := hlo (nm q - lo) (by omega)
        rw [show lo + (nm q - lo) = nm q by omega] at h2
        have h3 := (nm_ok q (by omega)).2.1
        have h4 := (nm_ok (N + 1 + (nm q - lo)) (by omega)).2.1
        rw [h2, h3] at h4
        omega
      unfold va_ups
      rw [if_neg hnl, up_ne (fun zz => by
        have h3 := (nm_ok q (by omega)).2.1
        have h4 := (nm_ok N (by omega)).2.1
        rw [zz, ← ho, h4] at h3
        omega)]
      exact (hh.2 q e1).kept (hold _ (by show sz + q < sz + N; omega))
    · by_cases e2 : q = N
      · have hnl : ¬ (lo ≤ nm q ∧ nm q < lo + n.toNatClampNeg) := fun zz => by
          have h2 := hlo (nm q - lo) (by omega)
          rw [show lo + (nm q - lo) = nm q by omega] at h2
          have h3 := (nm_ok q (by omega)).2.1
          have h4 := (nm_ok (N + 1 + (nm q - lo)) (by omega)).2.1
          rw [h2, h3] at h4
          omega
        unfold va_ups
        rw [if_neg hnl, e2, ho, up_same]
        show Fl.heap[sz + N]? = some (vp_cell _ _)
        rw [f2, mk_outer, vp_cell_q]
        congr 1
        refine arrV_congr (fun j hj => ?_)
        rw [if_pos hj]
        show va_rf (some (sz + N + 1 + j)) = va_rf (some (X.2.2.1 (lo + j)))
        have h2 := hlo j hj
        have h5 := nm_ok (N + 1 + j) (by omega)
        rw [h2] at h5
        rw [F.2.2.2.2.2.1 _ h5.1, h5.2.1]
        congr 2
        omega
      · obtain ⟨j, rfl⟩ : ∃ j, q = N + 1 + j := ⟨q - N - 1, by omega⟩
        have hj : j < n.toNatClampNeg := by omega
        unfold va_ups
        rw [hlo j hj, if_pos ⟨by omega, by omega⟩]
        show Fl.heap[sz + (N + 1 + j)]? = some (vp_cell _ _)
        rw [← hz, show sz + (N + 1 + j) = sz + N + 1 + j by omega]
        exact hrow j hj
  obtain ⟨t2, a1, b1⟩ := h.2 Fl.heap locs ls hl2 (va_S_grow hS (by rw [f1, hh.1]; omega) (fun q hq => hold q (by rw [hh.1] at hq; exact hq))) hl Fl rfl X'
  exact ⟨t2, step t2 a1, b1⟩
theorem n_call (F : FxN X sz p s m args meth c R own cc nL d) {idx n d1 o mc ms : Nat} {y : MethodName} {as r : List Value} (hd : decode cc pc = .ok (.invokespecial idx, 3)) (hL : IL own idx y n) (hn : as.length = n) (hr8 : (r.map fun v => v.category).sum ≤ 8) (hd1 : d1 + 1 ≤ d) (hcm : cells + mc ≤ R.cells) (hsm : slots + ms ≤ R.slots) (hN : N ≤ 147) (hst : st = as.reverse ++ rf X o :: r) (hC : CtM X sz d1 mc ms y (rf X o :: as) g N (fun g' N' => KN X sz p e R s m args below meth c nL Qw g' N' (cells + mc) (slots + ms) (pc + 3) vs r)) : KN X sz p e R s m args below meth c nL Qw g N cells slots pc vs st := by
  refine ⟨hN, fun H locs ls hh hS hl => ?_⟩
  obtain ⟨bytes, n9, c1, c2, hM⟩ := hC
  obtain ⟨l1, l2, l3, l5, l4⟩ := hL
  have hPre : ∀ U : State, U.heap = H → s.WarmedH U.vm → va_Pc (rf X o :: as) (PreN X sz N g) (rf X o :: as).toArray U := fun U hU hW => ⟨rfl, F.2.2.2.2.2.1, hN, F.2.2.2.2.2.2.1.warm hW, by rw [hU]; exact hh⟩
  have hR : (rmN d1 mc ms).frames + 1 ≤ R.frames ∧ 8 + (n9 + 11) + (rmN d1 mc ms).locals ≤ R.locals := ⟨Nat.le_trans hd1 F.2.2.2.2.2.2.2.2.1, by have := F.2.2.2.2.2.2.2.2.2; show 8 + (n9 + 11) + 38 * d1 ≤ R.locals; omega⟩
  have hr : va_Run p X.1 e R s m args below meth c H locs cells slots mc ms (F0 m pc ls st) r (QcN X sz (fun g' N' => KN X sz p e R s m args below meth c nL Qw g' N' (cells + mc) (slots + ms) (pc + 3) vs r) (rf X o :: as).toArray) (fun q => sz ≤ q) :=
    va_runI ⟨F.1, F.2.1, F.2.2.1, F.2.2.2.1, F.2.2.2.2.1⟩ hM (cwI n F.2.2.2.2.1 (gtb_in c1) rfl rfl rfl (F.2.2.2.2.1 _ l3) (F.2.2.2.2.1 _ l1) (F.2.2.2.2.1 _ l2) l5 l4 hR) ⟨PreN.blind, hPre⟩ rfl hn hl.1 hst (lv_room hr8) hd ⟨hcm, hsm⟩
  intro T hT Xs
  obtain ⟨v, st₀, t, T', L, k0, X', hLo, e1, e2, ⟨⟨g9, N9, k1, k2, k4, k3⟩, hz, hk⟩, stp⟩ := hr T hT Xs
  cases k1
  rw [k0] at hz hk
  obtain ⟨t2, a1, b1⟩ := k2.2 T'.heap (locs ++ L) ls (by rw [e1]; exact k3) ⟨Nat.le_trans hS.1 (by rw [e1]; exact hz), fun q h1 h2 => by rw [e1, hk q (Nat.lt_of_lt_of_le h1 hS.1) h2]; exact hS.2.1 q h1 h2, fun q hq => by
      rcases List.mem_append.mp hq with h | h
      · exact hS.2.2 q h
      · exact hLo q h⟩ hl T' rfl X'
  exact ⟨t2, stp t2 a1, b1⟩
end MK
theorem CtM_intro {X : Cx} {sz d mc ms : Nat} {y : MethodName} {cc : ByteArray} {nL : Nat} {as : List Value} {g : Mem} {N : Nat} {Q : Mem → Nat → Prop} {own : String} (vs0 : Lv) (hc : Cond.code y cc nL none ∈ gtb) (hn : nL ≤ 19) (hp : plainName y.cls = true) (ho : y.cls = own) (hin : y.name = "<init>") (hl : (lg_sl as).length ≤ nL) (hv : asc 0 vs0 = lv_args 0 as)
    (h : ∀ (p : Program) (e : Env) (s : State) (m : MethodId) (below : List Frame) (meth : Method) (c : Code) (Qw : State → Prop), FxN X sz p s m as.toArray meth c (rmN d mc ms) own cc nL d → meth.name = "<init>" → (∀ g' N' pc vs, N' ≤ 147 → decode cc pc = .ok (.return_, 1) → Q g' N' → KN X sz p e (rmN d mc ms) s m as.toArray below meth c nL Qw g' N' mc ms pc vs []) → KN X sz p e (rmN d mc ms) s m as.toArray below meth c nL Qw g N 0 0 0 vs0 []) : CtM X sz d mc ms y as g N Q := by
  refine ⟨cc, nL, hc, hn, Met.ofW (cc := cc) (maxL := nL) (ret := none) hp rfl ?_⟩
  intro p e s m args below meth c s₁ B hml hv'
  obtain ⟨rfl, ha, hN, hk, hh⟩ := hv'
  have F : FxN X sz p s m as.toArray meth c (rmN d mc ms) own cc nL d := ⟨B.exec, B.bytes, hml, by rw [← ho]; exact findClass_of_methodNamed B.named, fun w hw => atoms_spec (ws := Cond.code y cc nL none :: gtb) B.pre w (List.mem_cons_of_mem _ hw), ha, hk, by rw [hh.1]; omega, Nat.le_refl _, Nat.le_refl _⟩
  have hr := B.returns
  have hlocks := B.notSynchronized
  have hle := lv_entry as (n := nL) hl
  rw [lg_entry_eq]
  refine (h p e s m below meth c (MQ below (QcN X sz Q) as.toArray s mc ms (fun q => sz ≤ q)) F (by rw [(name_of_methodNamed B.named B.method).1]; exact hin) (fun g' N' pc vs hN' hd hQ => ⟨hN', fun H locs ls hh2 hS hl2 => ?_⟩)).2 s.heap [] _ hh va_S.rf (by show lv_has _ _ (asc 0 vs0); rw [hv]; exact hle)
  exact W.vret F.1 F.2.1 hr (fun t ht hW => ⟨⟨g', N', rfl, hQ, hN', by rw [ht]; exact hh2⟩, hS.F ht⟩) hS.2.2 hd hlocks
