
abbrev Mem : Type := Nat → va_E
abbrev Cx : Type := Launch × va_G × (Nat → Nat) × (Nat → ClassId) × Nat × Nat
abbrev Lv : Type := List (Option Value)
abbrev KT : Type := Mem → Nat → Lv → List Value → Prop
def gtb : List Cond := lw_tbl.filter goodWord
theorem gtb_in {y : MethodName} {cc : ByteArray} {n : Nat} {ret : Option FieldType} (h : Cond.code y cc n ret ∈ gtb) : GoodIn gtb (Cond.code y cc n ret :: gtb) := by
  intro w hw
  have hm : w ∈ gtb := by
    rcases List.mem_cons.mp hw with rfl | h1
    · exact h
    · exact h1
  exact ⟨hm, good_of_word (List.mem_filter.mp hm).2⟩
abbrev rf (X : Cx) (i : Nat) : Value := .ref (X.2.2.1 i)
abbrev aI (X : Cx) (n : Nat) (f : Nat → Int32) : va_E := .inl (X.2.2.2.1 0, n, .inl f)
abbrev aJ (X : Cx) (n : Nat) (f : Nat → Int64) : va_E := .inl (X.2.2.2.1 1, n, .inr (.inl f))
abbrev aB (X : Cx) (n : Nat) (f : Nat → Int32) : va_E := .inl (X.2.2.2.1 2, n, .inl f)
abbrev aZ (X : Cx) (n : Nat) (f : Nat → Int32) : va_E := .inl (X.2.2.2.1 3, n, .inl f)
abbrev aRI (X : Cx) (n : Nat) (r : Nat → Nat) : va_E := .inl (X.2.2.2.1 4, n, .inr (.inr (.inr (.inr (fun k => some (X.2.2.1 (r k)))))))
abbrev aRJ (X : Cx) (n : Nat) (r : Nat → Nat) : va_E := .inl (X.2.2.2.1 5, n, .inr (.inr (.inr (.inr (fun k => some (X.2.2.1 (r k)))))))
def inA (X : Cx) (q : Nat) : Prop := ∃ i, i < 147 ∧ q = X.2.2.1 i
def hld (X : Cx) (g : Mem) (H : Heap) : Prop := ∀ i, i < 147 → va_at X.2.1 vwCl (X.2.2.1 i, g i) H
def injX (X : Cx) : Prop := ∀ i j, i < 147 → j < 147 → X.2.2.1 i = X.2.2.1 j → i = j
def tysX (X : Cx) : List (ClassId × FieldType) := [(X.2.2.2.1 0, .int), (X.2.2.2.1 1, .long), (X.2.2.2.1 2, .byte), (X.2.2.2.1 3, .boolean), (X.2.2.2.1 4, .array .int), (X.2.2.2.1 5, .array .long)]
def prI (j : Nat) : Int32 := ([2, 3, 5, 7, 11, 13] : List Int32).getD j 0
def lgL (j : Nat) : Int64 := ([1000000000000, 1584962500721, 2321928094887, 2807354922058, 3459431618637, 3700439718141] : List Int64).getD j 0
def staX (X : Cx) (U : State) (H : Heap) : Prop := va_Z "TuneBench" "PRIMES" "[I" (.ref X.2.2.2.2.1) (inA X) U H ∧ va_T .int X.2.2.2.2.1 6 (fun j => .int (prI j)) (inA X) U H ∧ va_Z "TuneBench$Divisions" "LOGARITHMS" "[J" (.ref X.2.2.2.2.2) (inA X) U H ∧ va_T .long X.2.2.2.2.2 6 (fun j => .long (lgL j)) (inA X) U H
def ovrA (U : State) (cA cE : ClassId) (ty : FieldType) : Prop := ∃ (k kc : Class), U.vm.classes[cA]? = some k ∧ k.kind = .array cE (.array ty) ∧ U.vm.classes[cE]? = some kc
def ovrX (X : Cx) (U : State) : Prop := ovrA U (X.2.2.2.1 4) (X.2.2.2.1 0) .int ∧ ovrA U (X.2.2.2.1 5) (X.2.2.2.1 1) .long
def nsts : List Cond := [.fieldLinkNest "TuneBench" 137 "TuneBench$Commas" "count" "I" "TuneBench", .fieldLinkNest "TuneBench$Scale" 84 "TuneBench$NoteList" "rows" "[[I" "TuneBench", .fieldLinkNest "TuneBench$Scale" 46 "TuneBench$NoteList" "count" "I" "TuneBench", .fieldLinkNest "TuneBench" 188 "TuneBench$NoteList" "count" "I" "TuneBench", .fieldLinkNest "TuneBench" 161 "TuneBench$Scale" "period" "[I" "TuneBench", .fieldLinkNest "TuneBench" 164 "TuneBench$Scale" "notes" "LTuneBench$NoteList;" "TuneBench", .fieldLinkNest "TuneBench$Row" 25 "TuneBench" "PRIMES" "[I" "TuneBench", .fieldLinkNest "TuneBench$Natural" 28 "TuneBench" "PRIMES" "[I" "TuneBench", .methodLinkNest "TuneBench$Divisions" 11 ⟨"TuneBench", "isPrimeNumber", "(I)Z"⟩ "TuneBench"]
theorem nsts_tbl : ∀ w ∈ nsts, w ∈ lw_tbl := by decide +kernel
theorem nsts_on : ∀ w ∈ nsts, w.onTables = true := by decide +kernel
theorem nsts_kind {w : Cond} (h : w ∈ nsts) : (∃ (a : String) (i : Nat) (b n d h : String), w = .fieldLinkNest a i b n d h) ∨ ∃ (a : String) (i : Nat) (x : MethodName) (h : String), w = .methodLinkNest a i x h := by
  simp only [nsts, List.mem_cons, List.not_mem_nil, or_false] at h
  rcases h with rfl | rfl | rfl | rfl | rfl | rfl | rfl | rfl | rfl <;> first | exact Or.inl ⟨_, _, _, _, _, _, rfl⟩ | exact Or.inr ⟨_, _, _, _, rfl⟩
def nstX (U : State) : Prop := ∀ w ∈ nsts, va_Nw w U
theorem nstX.warm {s U : State} (hW : s.WarmedH U.vm) (h : nstX s) : nstX U := by
  intro w hw
  have h1 := h w hw
  rcases nsts_kind hw with ⟨a, i, b, n, d, z, rfl⟩ | ⟨a, i, x, z, rfl⟩
  · exact va_Nw.warmF hW h1
  · exact va_Nw.warmM hW h1
theorem nstX.same {s U : State} (hW : s.vm = U.vm) (h : nstX s) : nstX U := fun w hw => va_Nw.same (nsts_on w hw) hW (h w hw)
theorem ovrA.moved {u U : State} (hvm : u.vm.Alike U.vm) {cA cE : ClassId} {ty : FieldType} (h : ovrA u cA cE ty) : ovrA U cA cE ty := by
  obtain ⟨k, kc, h1, h2, h3⟩ := h
  obtain ⟨k', hk', he⟩ := hvm.2.2 _ _ h1
  obtain ⟨k2, hk2, -⟩ := hvm.2.2 _ _ h3
  exact ⟨k', k2, hk', by rw [he]; exact h2, hk2⟩
def kxX (X : Cx) (U : State) : Prop := va_K X.2.1 vwCl (tysX X) U ∧ ovrX X U ∧ nstX U
def PreX (X : Cx) (g : Mem) (U : State) : Prop := injX X ∧ kxX X U ∧ staX X U U.heap ∧ hld X g U.heap
theorem kxX.warm {X : Cx} {s U : State} (hW : s.WarmedH U.vm) (h : kxX X s) : kxX X U := ⟨va_K.moved hW.alike h.1, ⟨h.2.1.1.moved hW.alike, h.2.1.2.moved hW.alike⟩, h.2.2.warm hW⟩
theorem kxX.same {X : Cx} {s U : State} (hW : s.vm = U.vm) (h : kxX X s) : kxX X U := by
  have ha : s.vm.Alike U.vm := by rw [hW]; exact Vm.Alike.refl _
  exact ⟨va_K.moved ha h.1, ⟨h.2.1.1.moved ha, h.2.1.2.moved ha⟩, h.2.2.same hW⟩
theorem staX.moved {X : Cx} {u U : State} {H H1 : Heap} (hvm : u.vm.Alike U.vm) (h : staX X u H) (hq : ∀ a : Nat, a < H.size → ¬ inA X a → H1[a]? = H[a]?) : staX X U H1 :=
  ⟨(h.1.moved hvm).kept hq, (h.2.1.moved hvm).kept hq, (h.2.2.1.moved hvm).kept hq, (h.2.2.2.moved hvm).kept hq⟩
theorem PreX.blind {X : Cx} {as : List Value} {g : Mem} : FrameBlind (va_Pc as (PreX X g)) := by
  intro a U fr mk h
  obtain ⟨h0, h1, h2, h3, h4⟩ := h
  exact ⟨h0, h1, kxX.same (s := U) rfl h2, h3.moved (Vm.Alike.refl U.vm) (fun _ _ _ => rfl), h4⟩
-- the locals
def lget : Lv → Nat → Option Value
  | [], _ => none
  | a :: _, 0 => a
  | _ :: t, k + 1 => lget t k
def drop2 (a : Option Value) : Option Value := match a with
  | some (.long _) => none
  | some (.double _) => none
  | b => b
def lset : Lv → Nat → Value → Lv
  | [], _, _ => []
  | _ :: t, 0, v => some v :: t
  | a :: t, 1, v => drop2 a :: lset t 0 v
  | a :: t, k + 2, v => a :: lset t (k + 1) v
def lset2 : Lv → Nat → Value → Lv
  | [], _, _ => []
  | [_], 0, v => [some v]
  | _ :: _ :: t, 0, v => some v :: none :: t
  | a :: t, 1, v => drop2 a :: lset2 t 0 v
  | a :: t, k + 2, v => a :: lset2 t (k + 1) v
def asc : Nat → Lv → List (Nat × Value)
  | _, [] => []
  | k, none :: t => asc (k + 1) t
  | k, some v :: t => (k, v) :: asc (k + 1) t
theorem asc_mem : ∀ (vs : Lv) (k : Nat) (q : Nat × Value), q ∈ asc k vs → ∃ j, q.1 = k + j ∧ lget vs j = some q.2
  | [], k, q, h => by simp [asc] at h
  | none :: t, k, q, h => by
    obtain ⟨j, h1, h2⟩ := asc_mem t (k + 1) q h
    exact ⟨j + 1, by omega, h2⟩
  | some v :: t, k, q, h => by
    rcases List.mem_cons.mp h with rfl | h
    · exact ⟨0, rfl, rfl⟩
    · obtain ⟨j, h1, h2⟩ := asc_mem t (k + 1) q h
      exact ⟨j + 1, by omega, h2⟩
theorem mem_asc : ∀ (vs : Lv) (k j : Nat) (v : Value), lget vs j = some v → (k + j, v) ∈ asc k vs
  | [], k, j, v, h => by simp [lget] at h
  | none :: t, k, 0, v, h => by simp [lget] at h
  | some w :: t, k, 0, v, h => by
    simp only [lget, Option.some.injEq] at h
    subst h
    exact List.mem_cons_self
  | none :: t, k, j + 1, v, h => by
    have := mem_asc t (k + 1) j v h
    rw [show k + (j + 1) = k + 1 + j by omega]
    exact this
  | some w :: t, k, j + 1, v, h => by
    have := mem_asc t (k + 1) j v h
    rw [show k + (j + 1) = k + 1 + j by omega]
    exact List.mem_cons_of_mem _ this
theorem drop2_some {a : Option Value} {w : Value} (h : drop2 a = some w) : a = some w ∧ ¬ w.category = 2 := by
  cases a with
  | none => simp [drop2] at h
  | some x => cases x <;> simp [drop2] at h <;> subst h <;> simp [Value.category]
theorem lset_get : ∀ (vs : Lv) (i : Nat) (v : Value) (j : Nat) (w : Value), lget (lset vs i v) j = some w → (j = i ∧ w = v) ∨ (j ≠ i ∧ ¬ (j + 1 = i ∧ w.category = 2) ∧ lget vs j = some w)
  | [], _, _, j, w, h => by simp [lset, lget] at h
  | a :: t, 0, v, 0, w, h => by
    simp only [lset, lget, Option.some.injEq] at h
    exact Or.inl ⟨rfl, h.symm⟩
  | a :: t, 0, v, j + 1, w, h => Or.inr ⟨by omega, by omega, by simpa [lset, lget] using h⟩
  | a :: t, 1, v, 0, w, h => by
    have h1 : drop2 a = some w := by simpa [lset, lget] using h
    obtain ⟨h2, h3⟩ := drop2_some h1
    exact Or.inr ⟨by omega, fun q => h3 q.2, h2⟩
  | a :: t, 1, v, j + 1, w, h => by
    have h1 : lget (lset t 0 v) j = some w := by simpa [lset, lget] using h
    rcases lset_get t 0 v j w h1 with ⟨h2, h3⟩ | ⟨h2, h3, h4⟩
    · exact Or.inl ⟨by omega, h3⟩
    · exact Or.inr ⟨by omega, fun q => by omega, h4⟩
  | a :: t, i + 2, v, 0, w, h => Or.inr ⟨by omega, by omega, by simpa [lset, lget] using h⟩
  | a :: t, i + 2, v, j + 1, w, h => by
    have h1 : lget (lset t (i + 1) v) j = some w := by simpa [lset, lget] using h
    rcases lset_get t (i + 1) v j w h1 with ⟨h2, h3⟩ | ⟨h2, h3, h4⟩
    · exact Or.inl ⟨by omega, h3⟩
    · exact Or.inr ⟨by omega, fun q => h3 ⟨by omega, q.2⟩, h4⟩
theorem lset2_get : ∀ (vs : Lv) (i : Nat) (v : Value) (j : Nat) (w : Value), lget (lset2 vs i v) j = some w → (j = i ∧ w = v) ∨ (j ≠ i ∧ j ≠ i + 1 ∧ ¬ (j + 1 = i ∧ w.category = 2) ∧ lget vs j = some w)
  | [], _, _, j, w, h => by simp [lset2, lget] at h
  | [a], 0, v, 0, w, h => by
    simp only [lset2, lget, Option.some.injEq] at h
    exact Or.inl ⟨rfl, h.symm⟩
  | [a], 0, v, j + 1, w, h => by simp [lset2, lget] at h
  | a :: b :: t, 0, v, 0, w, h => by
    simp only [lset2, lget, Option.some.injEq] at h
    exact Or.inl ⟨rfl, h.symm⟩
  | a :: b :: t, 0, v, 1, w, h => by simp [lset2, lget] at h
  | a :: b :: t, 0, v, j + 2, w, h => Or.inr ⟨by omega, by omega, by omega, by simpa [lset2, lget] using h⟩
  | a :: t, 1, v, 0, w, h => by
    have h1 : drop2 a = some w := by simpa [lset2, lget] using h
    obtain ⟨h2, h3⟩ := drop2_some h1
    exact Or.inr ⟨by omega, by omega, fun q => h3 q.2, h2⟩
  | a :: t, 1, v, j + 1, w, h => by
    have h1 : lget (lset2 t 0 v) j = some w := by simpa [lset2, lget] using h
    rcases lset2_get t 0 v j w h1 with ⟨h2, h3⟩ | ⟨h2, h3, h4, h5⟩
    · exact Or.inl ⟨by omega, h3⟩
    · exact Or.inr ⟨by omega, by omega, fun q => by omega, h5⟩
  | a :: t, i + 2, v, 0, w, h => Or.inr ⟨by omega, by omega, by omega, by simpa [lset2, lget] using h⟩
  | a :: t, i + 2, v, j + 1, w, h => by
    have h1 : lget (lset2 t (i + 1) v) j = some w := by simpa [lset2, lget] using h
    rcases lset2_get t (i + 1) v j w h1 with ⟨h2, h3⟩ | ⟨h2, h3, h4, h5⟩
    · exact Or.inl ⟨by omega, h3⟩
    · exact Or.inr ⟨by omega, by omega, fun q => h4 ⟨by omega, q.2⟩, h5⟩
abbrev lsh (ls : Array Slot) (nL : Nat) (vs : Lv) : Prop := lv_has ls nL (asc 0 vs)
theorem lsh_at {ls : Array Slot} {nL i : Nat} {vs : Lv} {v : Value} (h : lsh ls nL vs) (hv : lget vs i = some v) : ls[i]? = some (.val v) := by
  have := h.2.2 _ (mem_asc vs 0 i v hv)
  simpa using this
theorem lsh_set {ls : Array Slot} {nL i : Nat} {vs : Lv} {v : Value} (h : lv_has ls nL ((i, v) :: (asc 0 vs).filter (fun q => !(q.1 == i) && !(q.1 + 1 == i && q.2.category == 2)))) : lsh ls nL (lset vs i v) := by
  refine ⟨h.1, h.2.1, fun q hq => h.2.2 q ?_⟩
  obtain ⟨j, h1, h2⟩ := asc_mem _ _ _ hq
  rw [Nat.zero_add] at h1
  obtain ⟨q1, q2⟩ := q
  dsimp only at h1 h2
  subst h1
  rcases lset_get vs i v q1 q2 h2 with ⟨rfl, rfl⟩ | ⟨h3, h4, h5⟩
  · exact List.mem_cons_self
  · refine List.mem_cons_of_mem _ (List.mem_filter.mpr ⟨by simpa using mem_asc vs 0 q1 q2 h5, ?_⟩)
    by_cases hc : q1 + 1 = i
    · have : ¬ q2.category = 2 := fun z => h4 ⟨hc, z⟩
      simp [h3, this]
    · simp [h3, hc]
theorem lsh_set2 {ls : Array Slot} {nL i : Nat} {vs : Lv} {v : Value} (h : lv_has ls nL ((i, v) :: (asc 0 vs).filter (fun q => !(q.1 == i) && (!(q.1 == i + 1) && !(q.1 + 1 == i && q.2.category == 2))))) : lsh ls nL (lset2 vs i v) := by
  refine ⟨h.1, h.2.1, fun q hq => h.2.2 q ?_⟩
  obtain ⟨j, h1, h2⟩ := asc_mem _ _ _ hq
  rw [Nat.zero_add] at h1
  obtain ⟨q1, q2⟩ := q
  dsimp only at h1 h2
  subst h1
  rcases lset2_get vs i v q1 q2 h2 with ⟨rfl, rfl⟩ | ⟨h3, h6, h4, h5⟩
  · exact List.mem_cons_self
  · refine List.mem_cons_of_mem _ (List.mem_filter.mpr ⟨by simpa using mem_asc vs 0 q1 q2 h5, ?_⟩)
    by_cases hc : q1 + 1 = i
    · have : ¬ q2.category = 2 := fun z => h4 ⟨hc, z⟩
      simp [h3, h6, this]
    · simp [h3, h6, hc]
-- the world as a list
def wdl (X : Cx) (g : Mem) : va_W := (List.range 147).map (fun i => (X.2.2.1 i, g i))
theorem wdl_get {X : Cx} {g : Mem} {o : Nat} (ho : o < 147) : (wdl X g)[o]? = some (X.2.2.1 o, g o) := by
  unfold wdl
  rw [List.getElem?_map, List.getElem?_range ho]
  rfl
theorem wdl_at {X : Cx} {g : Mem} {o : Nat} {e : va_E} (ho : o < 147) (hg : g o = e) : (wdl X g)[o]? = some (X.2.2.1 o, e) := by rw [wdl_get ho, hg]
theorem wdl_P {X : Cx} {g : Mem} {H : Heap} (h : hld X g H) : va_P X.2.1 vwCl (wdl X g) H := by
  intro k q hk
  have hl : k < (wdl X g).length := (List.getElem?_eq_some_iff.mp hk).1
  have h1 : k < 147 := by simpa [wdl] using hl
  rw [wdl_get h1] at hk
  cases hk
  exact h k h1
theorem wdl_D {X : Cx} {g : Mem} (h : injX X) : va_D (inA X) (wdl X g) := by
  have key : ∀ (k : Nat) (q : Nat × va_E), (wdl X g)[k]? = some q → k < 147 ∧ q = (X.2.2.1 k, g k) := by
    intro k q hk
    have hl : k < (wdl X g).length := (List.getElem?_eq_some_iff.mp hk).1
    have h1 : k < 147 := by simpa [wdl] using hl
    rw [wdl_get h1] at hk
    cases hk
    exact ⟨h1, rfl⟩
  refine ⟨fun i j p q hi hj hpq => ?_, fun k q hk => ?_⟩
  · obtain ⟨a1, rfl⟩ := key i p hi
    obtain ⟨b1, rfl⟩ := key j q hj
    exact h i j a1 b1 hpq
  · obtain ⟨a1, rfl⟩ := key k q hk
    exact ⟨k, a1, rfl⟩
theorem hld_set {X : Cx} {g : Mem} {H H1 : Heap} {o : Nat} {e : va_E} (h : hld X g H) (hi : injX X) (ho : o < 147) (he : va_at X.2.1 vwCl (X.2.2.1 o, e) H1) (hq : ∀ q, q ≠ X.2.2.1 o → H1[q]? = H[q]?) : hld X (va_up g o e) H1 := by
  intro i hl
  by_cases hio : i = o
  · subst hio
    simpa [va_up] using he
  · rw [show va_up g o e i = g i by simp [va_up, hio]]
    exact (h i hl).kept (hq _ (fun z => hio (hi i o hl ho z)))
theorem hld_of {X : Cx} {g : Mem} {H1 : Heap} {o : Nat} {e : va_E} (ho : o < 147) (h : va_P X.2.1 vwCl ((wdl X g).set o (X.2.2.1 o, e)) H1) : hld X (va_up g o e) H1 := by
  intro i hl
  have hlen : o < (wdl X g).length := by simpa [wdl] using ho
  by_cases hio : i = o
  · subst hio
    have := h i (X.2.2.1 i, e) (List.getElem?_set_self hlen)
    simpa [va_up] using this
  · have := h i (X.2.2.1 i, g i) (by rw [List.getElem?_set_ne (fun z => hio z.symm)]; exact wdl_get hl)
    simpa [va_up, hio] using this
theorem asg_rf (vm : Vm) (a : ClassId) : vm.assignable a a = true := by
  show vm.assignableAux (255 + 1) a a = true
  unfold Vm.assignableAux
  simp
-- contracts
def Qcc (X : Cx) (Q : Option Value → Mem → Prop) : Array Value → State → Outcome → State → Prop := fun _ st oc t => (∃ (r : Option Value) (g : Mem), oc = .returned r ∧ Q r g ∧ hld X g t.heap) ∧ va_F (inA X) st t
def rmd (d : Nat) : Room := { frames := d, cells := 0, slots := 0, locals := 38 * d }
def CallM (X : Cx) (d : Nat) (y : MethodName) (as : List Value) (g : Mem) (Q : Option Value → Mem → Prop) : Prop := ∃ (cc : ByteArray) (n : Nat) (ret : Option FieldType), Cond.code y cc n ret ∈ gtb ∧ n ≤ 19 ∧ Met X.1 y (Cond.code y cc n ret :: gtb) (rmd d) (va_Pc as (PreX X g)) (Qcc X Q) 0 0 (inA X)
abbrev CallI (X : Cx) (d : Nat) (y : MethodName) (as : List Value) (g : Mem) (Q : Int32 → Mem → Prop) : Prop := CallM X d y as g (fun v g' => ∃ i, v = some (.int i) ∧ Q i g')
abbrev CallL (X : Cx) (d : Nat) (y : MethodName) (as : List Value) (g : Mem) (Q : Int64 → Mem → Prop) : Prop := CallM X d y as g (fun v g' => ∃ i, v = some (.long i) ∧ Q i g')
abbrev CallV (X : Cx) (d : Nat) (y : MethodName) (as : List Value) (g : Mem) (Q : Mem → Prop) : Prop := CallM X d y as g (fun v g' => v = none ∧ Q g')
def MnameOk (y : MethodName) (n : Nat) : Prop := y.cls ≠ "java/lang/invoke/MethodHandle" ∧ y.cls ≠ "java/lang/invoke/VarHandle" ∧ (parseMethodDescriptor y.desc).map (fun d => d.parameters.length) = some n
def SL (own : String) (idx : Nat) (y : MethodName) (n : Nat) : Prop := (Cond.methodLink own idx y ∈ gtb ∨ ∃ h, Cond.methodLinkNest own idx y h ∈ nsts) ∧ Cond.static y ∈ gtb ∧ Cond.initialized y.cls ∈ gtb ∧ MnameOk y n
def VL (own : String) (idx : Nat) (y : MethodName) (n ci : Nat) : Prop := Cond.methodLink own idx y ∈ gtb ∧ Cond.instanceMethod y ∈ gtb ∧ Cond.selects y.cls y y ∈ gtb ∧ Cond.initialized y.cls ∈ gtb ∧ MnameOk y n ∧ ∃ (T : u_T) (N : Nat), vwCl[ci]? = some (y.cls, T, N)
def FL (own : String) (idx ci k : Nat) : Prop := ∃ (C : String) (T : u_T) (N : Nat), vwCl[ci]? = some (C, T, N) ∧ k < N ∧ (∀ w ∈ u_ws C T N, w ∈ gtb) ∧ (Cond.fieldLink own idx (T k).1 (T k).2.1 (T k).2.2.1 ∈ gtb ∨ ∃ h, Cond.fieldLinkNest own idx (T k).1 (T k).2.1 (T k).2.2.1 h ∈ nsts)
def FP (own : String) (idx ci k : Nat) (ty : FieldType) : Prop := ∃ (C : String) (T : u_T) (N : Nat) (ty0 : Nat → FieldType), vwCl[ci]? = some (C, T, N) ∧ k < N ∧ (∀ w ∈ u_ws C T N, w ∈ gtb) ∧ (∀ k, k < N → parseFieldDescriptor (T k).2.2.1 = some (ty0 k)) ∧ (∀ a, a < N → ∀ b, b < N → a ≠ b → (T a).2.1 ≠ (T b).2.1) ∧ (T k).2.2.2 = false ∧ parseFieldDescriptor (T k).2.2.1 = some ty ∧ (Cond.fieldLink own idx (T k).1 (T k).2.1 (T k).2.2.1 ∈ gtb ∨ ∃ h, Cond.fieldLinkNest own idx (T k).1 (T k).2.1 (T k).2.2.1 h ∈ nsts)
def ACL (own : String) (idx : Nat) : Prop := Cond.methodLink own idx arraycopyName ∈ gtb ∧ Cond.native arraycopyName ∈ gtb ∧ Cond.static arraycopyName ∈ gtb ∧ Cond.initialized "java/lang/System" ∈ gtb
/-- what a method's walk stands on -/
def Fx (X : Cx) (p : Program) (s : State) (m : MethodId) (args : Array Value) (c : Code) (R : Room) (cells slots : Nat) (own : String) (cc : ByteArray) (nL d : Nat) : Prop := p.tables.exec = Jvm.exec ∧ c.code = cc ∧ c.maxLocals = nL ∧ s.vm.findClass own = some m.cls ∧ (∀ w ∈ gtb, w.before args s = true) ∧ injX X ∧ kxX X s ∧ staX X s s.heap ∧ d ≤ R.frames ∧ 38 * d ≤ R.locals ∧ cells ≤ R.cells ∧ slots ≤ R.slots
/-- the judgement: from every heap that holds the memory, at this place, the walk comes to its end -/
def KX (X : Cx) (p : Program) (e : Env) (R : Room) (s : State) (m : MethodId) (args : Array Value) (below : List Frame) (meth : Method) (c : Code) (cells slots nL : Nat) (Qw : State → Prop) : KT := fun g pc vs st => ∀ (H : Heap) (locs : List Loc) (ls : Array Slot), hld X g H → va_S (inA X) s.heap H locs → lsh ls nL vs → W p X.1 e R s m args below meth c H locs cells slots Qw (F0 m pc ls st)

def r_iconst (X : Cx) (own : String) (cc : ByteArray) (nL d : Nat) (K : KT) : Prop := ∀ (g : Mem) (pc : Nat) (vs : Lv) (st : List Value) (n : Int) (v : Int32), decode cc pc = .ok (.iconst n, 1) → Int32.ofInt n = v → (K g (pc + 1) vs (.int v :: st)) → K g pc vs (st)
def r_bipush (X : Cx) (own : String) (cc : ByteArray) (nL d : Nat) (K : KT) : Prop := ∀ (g : Mem) (pc : Nat) (vs : Lv) (st : List Value) (n : Int) (v : Int32), decode cc pc = .ok (.bipush n, 2) → (Int8.ofInt n).toInt32 = v → (K g (pc + 2) vs (.int v :: st)) → K g pc vs (st)
def r_sipush (X : Cx) (own : String) (cc : ByteArray) (nL d : Nat) (K : KT) : Prop := ∀ (g : Mem) (pc : Nat) (vs : Lv) (st : List Value) (n : Int) (v : Int32), decode cc pc = .ok (.sipush n, 3) → (Int16.ofInt n).toInt32 = v → (K g (pc + 3) vs (.int v :: st)) → K g pc vs (st)
def r_lconst (X : Cx) (own : String) (cc : ByteArray) (nL d : Nat) (K : KT) : Prop := ∀ (g : Mem) (pc : Nat) (vs : Lv) (st : List Value) (n : Fin 2) (v : Int64), decode cc pc = .ok (.lconst n, 1) → Int64.ofNat (n : Nat) = v → (K g (pc + 1) vs (.long v :: st)) → K g pc vs (st)
def r_ldc (X : Cx) (own : String) (cc : ByteArray) (nL d : Nat) (K : KT) : Prop := ∀ (g : Mem) (pc : Nat) (vs : Lv) (st : List Value) (i : Nat) (v : Int32), decode cc pc = .ok (.ldc i, 2) → Cond.constant own i v ∈ gtb → (K g (pc + 2) vs (.int v :: st)) → K g pc vs (st)
def r_ldcw (X : Cx) (own : String) (cc : ByteArray) (nL d : Nat) (K : KT) : Prop := ∀ (g : Mem) (pc : Nat) (vs : Lv) (st : List Value) (i : Nat) (v : Int32), decode cc pc = .ok (.ldc_w i, 3) → Cond.constant own i v ∈ gtb → (K g (pc + 3) vs (.int v :: st)) → K g pc vs (st)
def r_ldc2 (X : Cx) (own : String) (cc : ByteArray) (nL d : Nat) (K : KT) : Prop := ∀ (g : Mem) (pc : Nat) (vs : Lv) (st : List Value) (i : Nat) (v : Int64), decode cc pc = .ok (.ldc2_w i, 3) → Cond.constantLong own i v ∈ gtb → (K g (pc + 3) vs (.long v :: st)) → K g pc vs (st)
def r_iload_n (X : Cx) (own : String) (cc : ByteArray) (nL d : Nat) (K : KT) : Prop := ∀ (g : Mem) (pc : Nat) (vs : Lv) (st : List Value) (k : Fin 4) (i : Nat) (v : Int32), decode cc pc = .ok (.iload_n k, 1) → (k : Nat) = i → lget vs i = some (.int v) → (K g (pc + 1) vs (.int v :: st)) → K g pc vs (st)
def r_iload (X : Cx) (own : String) (cc : ByteArray) (nL d : Nat) (K : KT) : Prop := ∀ (g : Mem) (pc : Nat) (vs : Lv) (st : List Value) (i : Nat) (v : Int32), decode cc pc = .ok (.iload i, 2) → lget vs i = some (.int v) → (K g (pc + 2) vs (.int v :: st)) → K g pc vs (st)
def r_istore_n (X : Cx) (own : String) (cc : ByteArray) (nL d : Nat) (K : KT) : Prop := ∀ (g : Mem) (pc : Nat) (vs : Lv) (st : List Value) (k : Fin 4) (i : Nat) (v : Int32), decode cc pc = .ok (.istore_n k, 1) → (k : Nat) = i → i < nL → (K g (pc + 1) (lset vs i (.int v)) st) → K g pc vs (.int v :: st)
def r_istore (X : Cx) (own : String) (cc : ByteArray) (nL d : Nat) (K : KT) : Prop := ∀ (g : Mem) (pc : Nat) (vs : Lv) (st : List Value) (i : Nat) (v : Int32), decode cc pc = .ok (.istore i, 2) → i < nL → (K g (pc + 2) (lset vs i (.int v)) st) → K g pc vs (.int v :: st)
def r_lload_n (X : Cx) (own : String) (cc : ByteArray) (nL d : Nat) (K : KT) : Prop := ∀ (g : Mem) (pc : Nat) (vs : Lv) (st : List Value) (k : Fin 4) (i : Nat) (v : Int64), decode cc pc = .ok (.lload_n k, 1) → (k : Nat) = i → lget vs i = some (.long v) → (K g (pc + 1) vs (.long v :: st)) → K g pc vs (st)
def r_lload (X : Cx) (own : String) (cc : ByteArray) (nL d : Nat) (K : KT) : Prop := ∀ (g : Mem) (pc : Nat) (vs : Lv) (st : List Value) (i : Nat) (v : Int64), decode cc pc = .ok (.lload i, 2) → lget vs i = some (.long v) → (K g (pc + 2) vs (.long v :: st)) → K g pc vs (st)
def r_lstore_n (X : Cx) (own : String) (cc : ByteArray) (nL d : Nat) (K : KT) : Prop := ∀ (g : Mem) (pc : Nat) (vs : Lv) (st : List Value) (k : Fin 4) (i : Nat) (v : Int64), decode cc pc = .ok (.lstore_n k, 1) → (k : Nat) = i → i + 1 < nL → (K g (pc + 1) (lset2 vs i (.long v)) st) → K g pc vs (.long v :: st)
def r_lstore (X : Cx) (own : String) (cc : ByteArray) (nL d : Nat) (K : KT) : Prop := ∀ (g : Mem) (pc : Nat) (vs : Lv) (st : List Value) (i : Nat) (v : Int64), decode cc pc = .ok (.lstore i, 2) → i + 1 < nL → (K g (pc + 2) (lset2 vs i (.long v)) st) → K g pc vs (.long v :: st)
def r_aload_n (X : Cx) (own : String) (cc : ByteArray) (nL d : Nat) (K : KT) : Prop := ∀ (g : Mem) (pc : Nat) (vs : Lv) (st : List Value) (k : Fin 4) (i : Nat) (v : Nat), decode cc pc = .ok (.aload_n k, 1) → (k : Nat) = i → lget vs i = some (.ref v) → (K g (pc + 1) vs (.ref v :: st)) → K g pc vs (st)
def r_aload (X : Cx) (own : String) (cc : ByteArray) (nL d : Nat) (K : KT) : Prop := ∀ (g : Mem) (pc : Nat) (vs : Lv) (st : List Value) (i : Nat) (v : Nat), decode cc pc = .ok (.aload i, 2) → lget vs i = some (.ref v) → (K g (pc + 2) vs (.ref v :: st)) → K g pc vs (st)
def r_astore_n (X : Cx) (own : String) (cc : ByteArray) (nL d : Nat) (K : KT) : Prop := ∀ (g : Mem) (pc : Nat) (vs : Lv) (st : List Value) (k : Fin 4) (i : Nat) (v : Nat), decode cc pc = .ok (.astore_n k, 1) → (k : Nat) = i → i < nL → (K g (pc + 1) (lset vs i (.ref v)) st) → K g pc vs (.ref v :: st)
def r_astore (X : Cx) (own : String) (cc : ByteArray) (nL d : Nat) (K : KT) : Prop := ∀ (g : Mem) (pc : Nat) (vs : Lv) (st : List Value) (i : Nat) (v : Nat), decode cc pc = .ok (.astore i, 2) → i < nL → (K g (pc + 2) (lset vs i (.ref v)) st) → K g pc vs (.ref v :: st)
def r_iinc (X : Cx) (own : String) (cc : ByteArray) (nL d : Nat) (K : KT) : Prop := ∀ (g : Mem) (pc : Nat) (vs : Lv) (st : List Value) (i : Nat) (n : Int) (x v : Int32), decode cc pc = .ok (.iinc i n, 3) → lget vs i = some (.int x) → x + Int32.ofInt n = v → i < nL → (K g (pc + 3) (lset vs i (.int v)) st) → K g pc vs (st)
def r_iadd (X : Cx) (own : String) (cc : ByteArray) (nL d : Nat) (K : KT) : Prop := ∀ (g : Mem) (pc : Nat) (vs : Lv) (st : List Value) (x y : Int32), decode cc pc = .ok (.iadd, 1) → (K g (pc + 1) vs (.int (x + y) :: st)) → K g pc vs (.int y :: .int x :: st)
def r_isub (X : Cx) (own : String) (cc : ByteArray) (nL d : Nat) (K : KT) : Prop := ∀ (g : Mem) (pc : Nat) (vs : Lv) (st : List Value) (x y : Int32), decode cc pc = .ok (.isub, 1) → (K g (pc + 1) vs (.int (x - y) :: st)) → K g pc vs (.int y :: .int x :: st)
def r_imul (X : Cx) (own : String) (cc : ByteArray) (nL d : Nat) (K : KT) : Prop := ∀ (g : Mem) (pc : Nat) (vs : Lv) (st : List Value) (x y : Int32), decode cc pc = .ok (.imul, 1) → (K g (pc + 1) vs (.int (x * y) :: st)) → K g pc vs (.int y :: .int x :: st)
def r_iand (X : Cx) (own : String) (cc : ByteArray) (nL d : Nat) (K : KT) : Prop := ∀ (g : Mem) (pc : Nat) (vs : Lv) (st : List Value) (x y : Int32), decode cc pc = .ok (.iand, 1) → (K g (pc + 1) vs (.int (x &&& y) :: st)) → K g pc vs (.int y :: .int x :: st)
def r_ixor (X : Cx) (own : String) (cc : ByteArray) (nL d : Nat) (K : KT) : Prop := ∀ (g : Mem) (pc : Nat) (vs : Lv) (st : List Value) (x y : Int32), decode cc pc = .ok (.ixor, 1) → (K g (pc + 1) vs (.int (x ^^^ y) :: st)) → K g pc vs (.int y :: .int x :: st)
def r_idiv (X : Cx) (own : String) (cc : ByteArray) (nL d : Nat) (K : KT) : Prop := ∀ (g : Mem) (pc : Nat) (vs : Lv) (st : List Value) (x y : Int32), decode cc pc = .ok (.idiv, 1) → ¬ y = 0 → (K g (pc + 1) vs (.int (x / y) :: st)) → K g pc vs (.int y :: .int x :: st)
def r_irem (X : Cx) (own : String) (cc : ByteArray) (nL d : Nat) (K : KT) : Prop := ∀ (g : Mem) (pc : Nat) (vs : Lv) (st : List Value) (x y : Int32), decode cc pc = .ok (.irem, 1) → ¬ y = 0 → (K g (pc + 1) vs (.int (x - x / y * y) :: st)) → K g pc vs (.int y :: .int x :: st)
def r_ineg (X : Cx) (own : String) (cc : ByteArray) (nL d : Nat) (K : KT) : Prop := ∀ (g : Mem) (pc : Nat) (vs : Lv) (st : List Value) (x : Int32), decode cc pc = .ok (.ineg, 1) → (K g (pc + 1) vs (.int (-x) :: st)) → K g pc vs (.int x :: st)
def r_ladd (X : Cx) (own : String) (cc : ByteArray) (nL d : Nat) (K : KT) : Prop := ∀ (g : Mem) (pc : Nat) (vs : Lv) (st : List Value) (x y : Int64), decode cc pc = .ok (.ladd, 1) → (K g (pc + 1) vs (.long (x + y) :: st)) → K g pc vs (.long y :: .long x :: st)
def r_lsub (X : Cx) (own : String) (cc : ByteArray) (nL d : Nat) (K : KT) : Prop := ∀ (g : Mem) (pc : Nat) (vs : Lv) (st : List Value) (x y : Int64), decode cc pc = .ok (.lsub, 1) → (K g (pc + 1) vs (.long (x - y) :: st)) → K g pc vs (.long y :: .long x :: st)
def r_lmul (X : Cx) (own : String) (cc : ByteArray) (nL d : Nat) (K : KT) : Prop := ∀ (g : Mem) (pc : Nat) (vs : Lv) (st : List Value) (x y : Int64), decode cc pc = .ok (.lmul, 1) → (K g (pc + 1) vs (.long (x * y) :: st)) → K g pc vs (.long y :: .long x :: st)
def r_ldiv (X : Cx) (own : String) (cc : ByteArray) (nL d : Nat) (K : KT) : Prop := ∀ (g : Mem) (pc : Nat) (vs : Lv) (st : List Value) (x y : Int64), decode cc pc = .ok (.ldiv, 1) → ¬ y = 0 → (K g (pc + 1) vs (.long (x / y) :: st)) → K g pc vs (.long y :: .long x :: st)
def r_lrem (X : Cx) (own : String) (cc : ByteArray) (nL d : Nat) (K : KT) : Prop := ∀ (g : Mem) (pc : Nat) (vs : Lv) (st : List Value) (x y : Int64), decode cc pc = .ok (.lrem, 1) → ¬ y = 0 → (K g (pc + 1) vs (.long (x - x / y * y) :: st)) → K g pc vs (.long y :: .long x :: st)
def r_lneg (X : Cx) (own : String) (cc : ByteArray) (nL d : Nat) (K : KT) : Prop := ∀ (g : Mem) (pc : Nat) (vs : Lv) (st : List Value) (x : Int64), decode cc pc = .ok (.lneg, 1) → (K g (pc + 1) vs (.long (-x) :: st)) → K g pc vs (.long x :: st)
def r_ishl (X : Cx) (own : String) (cc : ByteArray) (nL d : Nat) (K : KT) : Prop := ∀ (g : Mem) (pc : Nat) (vs : Lv) (st : List Value) (x y : Int32), decode cc pc = .ok (.ishl, 1) → (K g (pc + 1) vs (.int (x <<< (y &&& 31)) :: st)) → K g pc vs (.int y :: .int x :: st)
def r_ishr (X : Cx) (own : String) (cc : ByteArray) (nL d : Nat) (K : KT) : Prop := ∀ (g : Mem) (pc : Nat) (vs : Lv) (st : List Value) (x y : Int32), decode cc pc = .ok (.ishr, 1) → (K g (pc + 1) vs (.int (x >>> (y &&& 31)) :: st)) → K g pc vs (.int y :: .int x :: st)
def r_iushr (X : Cx) (own : String) (cc : ByteArray) (nL d : Nat) (K : KT) : Prop := ∀ (g : Mem) (pc : Nat) (vs : Lv) (st : List Value) (x y v : Int32), decode cc pc = .ok (.iushr, 1) → (x.toUInt32 >>> (y.toUInt32 &&& Int32.toUInt32 31)).toInt32 = v → (K g (pc + 1) vs (.int v :: st)) → K g pc vs (.int y :: .int x :: st)
def r_i2l (X : Cx) (own : String) (cc : ByteArray) (nL d : Nat) (K : KT) : Prop := ∀ (g : Mem) (pc : Nat) (vs : Lv) (st : List Value) (x : Int32), decode cc pc = .ok (.i2l, 1) → (K g (pc + 1) vs (.long x.toInt64 :: st)) → K g pc vs (.int x :: st)
def r_l2i (X : Cx) (own : String) (cc : ByteArray) (nL d : Nat) (K : KT) : Prop := ∀ (g : Mem) (pc : Nat) (vs : Lv) (st : List Value) (x : Int64), decode cc pc = .ok (.l2i, 1) → (K g (pc + 1) vs (.int x.toInt32 :: st)) → K g pc vs (.long x :: st)
def r_i2b (X : Cx) (own : String) (cc : ByteArray) (nL d : Nat) (K : KT) : Prop := ∀ (g : Mem) (pc : Nat) (vs : Lv) (st : List Value) (x : Int32), decode cc pc = .ok (.i2b, 1) → (K g (pc + 1) vs (.int x.toInt8.toInt32 :: st)) → K g pc vs (.int x :: st)
def r_lcmp (X : Cx) (own : String) (cc : ByteArray) (nL d : Nat) (K : KT) : Prop := ∀ (g : Mem) (pc : Nat) (vs : Lv) (st : List Value) (x y : Int64), decode cc pc = .ok (.lcmp, 1) → (K g (pc + 1) vs (.int (lg_cmp x y) :: st)) → K g pc vs (.long y :: .long x :: st)
def r_dup (X : Cx) (own : String) (cc : ByteArray) (nL d : Nat) (K : KT) : Prop := ∀ (g : Mem) (pc : Nat) (vs : Lv) (st : List Value) (a : Value), decode cc pc = .ok (.dup, 1) → a.category = 1 → (K g (pc + 1) vs (a :: a :: st)) → K g pc vs (a :: st)
def r_pop (X : Cx) (own : String) (cc : ByteArray) (nL d : Nat) (K : KT) : Prop := ∀ (g : Mem) (pc : Nat) (vs : Lv) (st : List Value) (a : Value), decode cc pc = .ok (.pop, 1) → a.category = 1 → (K g (pc + 1) vs (st)) → K g pc vs (a :: st)
def r_dup2 (X : Cx) (own : String) (cc : ByteArray) (nL d : Nat) (K : KT) : Prop := ∀ (g : Mem) (pc : Nat) (vs : Lv) (st : List Value) (a b : Value), decode cc pc = .ok (.dup2, 1) → a.category = 1 → b.category = 1 → (K g (pc + 1) vs (a :: b :: a :: b :: st)) → K g pc vs (a :: b :: st)
def r_if_eq (X : Cx) (own : String) (cc : ByteArray) (nL d : Nat) (K : KT) : Prop := ∀ (g : Mem) (pc : Nat) (vs : Lv) (st : List Value) (x : Int32) (off : Int) (tgt : Nat), decode cc pc = .ok (.ifCond .eq off, 3) → (pc : Int) + off = (tgt : Int) → (x = 0 → K g tgt vs st) → (¬ x = 0 → K g (pc + 3) vs st) → K g pc vs (.int x :: st)
def r_icmp_eq (X : Cx) (own : String) (cc : ByteArray) (nL d : Nat) (K : KT) : Prop := ∀ (g : Mem) (pc : Nat) (vs : Lv) (st : List Value) (x y : Int32) (off : Int) (tgt : Nat), decode cc pc = .ok (.if_icmp .eq off, 3) → (pc : Int) + off = (tgt : Int) → (x = y → K g tgt vs st) → (¬ x = y → K g (pc + 3) vs st) → K g pc vs (.int y :: .int x :: st)
def r_if_ne (X : Cx) (own : String) (cc : ByteArray) (nL d : Nat) (K : KT) : Prop := ∀ (g : Mem) (pc : Nat) (vs : Lv) (st : List Value) (x : Int32) (off : Int) (tgt : Nat), decode cc pc = .ok (.ifCond .ne off, 3) → (pc : Int) + off = (tgt : Int) → (¬ x = 0 → K g tgt vs st) → (x = 0 → K g (pc + 3) vs st) → K g pc vs (.int x :: st)
def r_icmp_ne (X : Cx) (own : String) (cc : ByteArray) (nL d : Nat) (K : KT) : Prop := ∀ (g : Mem) (pc : Nat) (vs : Lv) (st : List Value) (x y : Int32) (off : Int) (tgt : Nat), decode cc pc = .ok (.if_icmp .ne off, 3) → (pc : Int) + off = (tgt : Int) → (¬ x = y → K g tgt vs st) → (x = y → K g (pc + 3) vs st) → K g pc vs (.int y :: .int x :: st)
def r_if_lt (X : Cx) (own : String) (cc : ByteArray) (nL d : Nat) (K : KT) : Prop := ∀ (g : Mem) (pc : Nat) (vs : Lv) (st : List Value) (x : Int32) (off : Int) (tgt : Nat), decode cc pc = .ok (.ifCond .lt off, 3) → (pc : Int) + off = (tgt : Int) → (x < 0 → K g tgt vs st) → (¬ x < 0 → K g (pc + 3) vs st) → K g pc vs (.int x :: st)
def r_icmp_lt (X : Cx) (own : String) (cc : ByteArray) (nL d : Nat) (K : KT) : Prop := ∀ (g : Mem) (pc : Nat) (vs : Lv) (st : List Value) (x y : Int32) (off : Int) (tgt : Nat), decode cc pc = .ok (.if_icmp .lt off, 3) → (pc : Int) + off = (tgt : Int) → (x < y → K g tgt vs st) → (¬ x < y → K g (pc + 3) vs st) → K g pc vs (.int y :: .int x :: st)
def r_if_ge (X : Cx) (own : String) (cc : ByteArray) (nL d : Nat) (K : KT) : Prop := ∀ (g : Mem) (pc : Nat) (vs : Lv) (st : List Value) (x : Int32) (off : Int) (tgt : Nat), decode cc pc = .ok (.ifCond .ge off, 3) → (pc : Int) + off = (tgt : Int) → (0 ≤ x → K g tgt vs st) → (¬ 0 ≤ x → K g (pc + 3) vs st) → K g pc vs (.int x :: st)
def r_icmp_ge (X : Cx) (own : String) (cc : ByteArray) (nL d : Nat) (K : KT) : Prop := ∀ (g : Mem) (pc : Nat) (vs : Lv) (st : List Value) (x y : Int32) (off : Int) (tgt : Nat), decode cc pc = .ok (.if_icmp .ge off, 3) → (pc : Int) + off = (tgt : Int) → (y ≤ x → K g tgt vs st) → (¬ y ≤ x → K g (pc + 3) vs st) → K g pc vs (.int y :: .int x :: st)
def r_if_gt (X : Cx) (own : String) (cc : ByteArray) (nL d : Nat) (K : KT) : Prop := ∀ (g : Mem) (pc : Nat) (vs : Lv) (st : List Value) (x : Int32) (off : Int) (tgt : Nat), decode cc pc = .ok (.ifCond .gt off, 3) → (pc : Int) + off = (tgt : Int) → (0 < x → K g tgt vs st) → (¬ 0 < x → K g (pc + 3) vs st) → K g pc vs (.int x :: st)
def r_icmp_gt (X : Cx) (own : String) (cc : ByteArray) (nL d : Nat) (K : KT) : Prop := ∀ (g : Mem) (pc : Nat) (vs : Lv) (st : List Value) (x y : Int32) (off : Int) (tgt : Nat), decode cc pc = .ok (.if_icmp .gt off, 3) → (pc : Int) + off = (tgt : Int) → (y < x → K g tgt vs st) → (¬ y < x → K g (pc + 3) vs st) → K g pc vs (.int y :: .int x :: st)
def r_if_le (X : Cx) (own : String) (cc : ByteArray) (nL d : Nat) (K : KT) : Prop := ∀ (g : Mem) (pc : Nat) (vs : Lv) (st : List Value) (x : Int32) (off : Int) (tgt : Nat), decode cc pc = .ok (.ifCond .le off, 3) → (pc : Int) + off = (tgt : Int) → (x ≤ 0 → K g tgt vs st) → (¬ x ≤ 0 → K g (pc + 3) vs st) → K g pc vs (.int x :: st)
def r_icmp_le (X : Cx) (own : String) (cc : ByteArray) (nL d : Nat) (K : KT) : Prop := ∀ (g : Mem) (pc : Nat) (vs : Lv) (st : List Value) (x y : Int32) (off : Int) (tgt : Nat), decode cc pc = .ok (.if_icmp .le off, 3) → (pc : Int) + off = (tgt : Int) → (x ≤ y → K g tgt vs st) → (¬ x ≤ y → K g (pc + 3) vs st) → K g pc vs (.int y :: .int x :: st)
def r_goto (X : Cx) (own : String) (cc : ByteArray) (nL d : Nat) (K : KT) : Prop := ∀ (g : Mem) (pc : Nat) (vs : Lv) (st : List Value) (off : Int) (tgt : Nat), decode cc pc = .ok (.goto off, 3) → (pc : Int) + off = (tgt : Int) → (K g tgt vs st) → K g pc vs (st)
def r_tabO (X : Cx) (own : String) (cc : ByteArray) (nL d : Nat) (K : KT) : Prop := ∀ (g : Mem) (pc : Nat) (vs : Lv) (st : List Value) (dflt lo hi : Int) (offs : Array Int) (len : Nat) (x : Int32) (tgt : Nat), decode cc pc = .ok (.tableswitch dflt lo hi offs, len) → x.toInt < lo ∨ hi < x.toInt → (pc : Int) + dflt = (tgt : Int) → (K g tgt vs st) → K g pc vs (.int x :: st)
def r_tabI (X : Cx) (own : String) (cc : ByteArray) (nL d : Nat) (K : KT) : Prop := ∀ (g : Mem) (pc : Nat) (vs : Lv) (st : List Value) (dflt lo hi : Int) (offs : Array Int) (len : Nat) (x : Int32) (off : Int) (tgt : Nat), decode cc pc = .ok (.tableswitch dflt lo hi offs, len) → ¬ x.toInt < lo → ¬ hi < x.toInt → offs[(x.toInt - lo).toNat]? = some off → (pc : Int) + off = (tgt : Int) → (K g tgt vs st) → K g pc vs (.int x :: st)
def r_getf (X : Cx) (own : String) (cc : ByteArray) (nL d : Nat) (K : KT) : Prop := ∀ (g : Mem) (pc : Nat) (vs : Lv) (st : List Value) (idx ci k o : Nat) (fs : List Value) (v : Value), decode cc pc = .ok (.getfield idx, 3) → FL own idx ci k → o < 147 → g o = .inr (ci, fs) → fs[k]? = some v → (K g (pc + 3) vs (v :: st)) → K g pc vs (rf X o :: st)
def r_putf (X : Cx) (own : String) (cc : ByteArray) (nL d : Nat) (K : KT) : Prop := ∀ (g : Mem) (pc : Nat) (vs : Lv) (st : List Value) (idx ci k o : Nat) (fs : List Value) (v : Value) (ty : FieldType), decode cc pc = .ok (.putfield idx, 3) → FP own idx ci k ty → o < 147 → g o = .inr (ci, fs) → narrow ty v = v → fits ty v = true → k < fs.length → (K (va_up g o (.inr (ci, fs.set k v))) (pc + 3) vs st) → K g pc vs (v :: rf X o :: st)
def r_getsP (X : Cx) (own : String) (cc : ByteArray) (nL d : Nat) (K : KT) : Prop := ∀ (g : Mem) (pc : Nat) (vs : Lv) (st : List Value) (idx : Nat) (host : String), decode cc pc = .ok (.getstatic idx, 3) → Cond.fieldLinkNest own idx "TuneBench" "PRIMES" "[I" host ∈ nsts → (K g (pc + 3) vs (.ref X.2.2.2.2.1 :: st)) → K g pc vs (st)
def r_getsL (X : Cx) (own : String) (cc : ByteArray) (nL d : Nat) (K : KT) : Prop := ∀ (g : Mem) (pc : Nat) (vs : Lv) (st : List Value) (idx : Nat), decode cc pc = .ok (.getstatic idx, 3) → Cond.fieldLink own idx "TuneBench$Divisions" "LOGARITHMS" "[J" ∈ gtb → (K g (pc + 3) vs (.ref X.2.2.2.2.2 :: st)) → K g pc vs (st)
def r_ialdP (X : Cx) (own : String) (cc : ByteArray) (nL d : Nat) (K : KT) : Prop := ∀ (g : Mem) (pc : Nat) (vs : Lv) (st : List Value) (i : Int32), decode cc pc = .ok (.iaload, 1) → vp_in i 6 → (K g (pc + 1) vs (.int (prI i.toNatClampNeg) :: st)) → K g pc vs (.int i :: .ref X.2.2.2.2.1 :: st)
def r_laldL (X : Cx) (own : String) (cc : ByteArray) (nL d : Nat) (K : KT) : Prop := ∀ (g : Mem) (pc : Nat) (vs : Lv) (st : List Value) (i : Int32), decode cc pc = .ok (.laload, 1) → vp_in i 6 → (K g (pc + 1) vs (.long (lgL i.toNatClampNeg) :: st)) → K g pc vs (.int i :: .ref X.2.2.2.2.2 :: st)
def r_iald (X : Cx) (own : String) (cc : ByteArray) (nL d : Nat) (K : KT) : Prop := ∀ (g : Mem) (pc : Nat) (vs : Lv) (st : List Value) (o n : Nat) (f : Nat → Int32) (i : Int32), decode cc pc = .ok (.iaload, 1) → o < 147 → g o = aI X n f → vp_in i n → (K g (pc + 1) vs (.int (f i.toNatClampNeg) :: st)) → K g pc vs (.int i :: rf X o :: st)
def r_lald (X : Cx) (own : String) (cc : ByteArray) (nL d : Nat) (K : KT) : Prop := ∀ (g : Mem) (pc : Nat) (vs : Lv) (st : List Value) (o n : Nat) (f : Nat → Int64) (i : Int32), decode cc pc = .ok (.laload, 1) → o < 147 → g o = aJ X n f → vp_in i n → (K g (pc + 1) vs (.long (f i.toNatClampNeg) :: st)) → K g pc vs (.int i :: rf X o :: st)
def r_bald (X : Cx) (own : String) (cc : ByteArray) (nL d : Nat) (K : KT) : Prop := ∀ (g : Mem) (pc : Nat) (vs : Lv) (st : List Value) (o n : Nat) (f : Nat → Int32) (i : Int32), decode cc pc = .ok (.baload, 1) → o < 147 → g o = aB X n f → vp_in i n → (K g (pc + 1) vs (.int (f i.toNatClampNeg) :: st)) → K g pc vs (.int i :: rf X o :: st)
def r_zald (X : Cx) (own : String) (cc : ByteArray) (nL d : Nat) (K : KT) : Prop := ∀ (g : Mem) (pc : Nat) (vs : Lv) (st : List Value) (o n : Nat) (f : Nat → Int32) (i : Int32), decode cc pc = .ok (.baload, 1) → o < 147 → g o = aZ X n f → vp_in i n → (K g (pc + 1) vs (.int (f i.toNatClampNeg) :: st)) → K g pc vs (.int i :: rf X o :: st)
def r_aaldI (X : Cx) (own : String) (cc : ByteArray) (nL d : Nat) (K : KT) : Prop := ∀ (g : Mem) (pc : Nat) (vs : Lv) (st : List Value) (o n : Nat) (r : Nat → Nat) (i : Int32), decode cc pc = .ok (.aaload, 1) → o < 147 → g o = aRI X n r → vp_in i n → (K g (pc + 1) vs (rf X (r i.toNatClampNeg) :: st)) → K g pc vs (.int i :: rf X o :: st)
def r_aaldJ (X : Cx) (own : String) (cc : ByteArray) (nL d : Nat) (K : KT) : Prop := ∀ (g : Mem) (pc : Nat) (vs : Lv) (st : List Value) (o n : Nat) (r : Nat → Nat) (i : Int32), decode cc pc = .ok (.aaload, 1) → o < 147 → g o = aRJ X n r → vp_in i n → (K g (pc + 1) vs (rf X (r i.toNatClampNeg) :: st)) → K g pc vs (.int i :: rf X o :: st)
def r_iast (X : Cx) (own : String) (cc : ByteArray) (nL d : Nat) (K : KT) : Prop := ∀ (g : Mem) (pc : Nat) (vs : Lv) (st : List Value) (o n : Nat) (f : Nat → Int32) (i : Int32) (x : Int32), decode cc pc = .ok (.iastore, 1) → o < 147 → g o = aI X n f → vp_in i n → (K (va_up g o (aI X n (upd f i.toNatClampNeg x))) (pc + 1) vs st) → K g pc vs (.int x :: .int i :: rf X o :: st)
def r_last (X : Cx) (own : String) (cc : ByteArray) (nL d : Nat) (K : KT) : Prop := ∀ (g : Mem) (pc : Nat) (vs : Lv) (st : List Value) (o n : Nat) (f : Nat → Int64) (i : Int32) (x : Int64), decode cc pc = .ok (.lastore, 1) → o < 147 → g o = aJ X n f → vp_in i n → (K (va_up g o (aJ X n (vp_updL f i.toNatClampNeg x))) (pc + 1) vs st) → K g pc vs (.long x :: .int i :: rf X o :: st)
def r_bast (X : Cx) (own : String) (cc : ByteArray) (nL d : Nat) (K : KT) : Prop := ∀ (g : Mem) (pc : Nat) (vs : Lv) (st : List Value) (o n : Nat) (f : Nat → Int32) (i : Int32) (x : Int32), decode cc pc = .ok (.bastore, 1) → o < 147 → g o = aB X n f → vp_in i n → (K (va_up g o (aB X n (upd f i.toNatClampNeg (vp_nar .byte x)))) (pc + 1) vs st) → K g pc vs (.int x :: .int i :: rf X o :: st)
def r_zast (X : Cx) (own : String) (cc : ByteArray) (nL d : Nat) (K : KT) : Prop := ∀ (g : Mem) (pc : Nat) (vs : Lv) (st : List Value) (o n : Nat) (f : Nat → Int32) (i : Int32) (x : Int32), decode cc pc = .ok (.bastore, 1) → o < 147 → g o = aZ X n f → vp_in i n → (K (va_up g o (aZ X n (upd f i.toNatClampNeg (vp_nar .boolean x)))) (pc + 1) vs st) → K g pc vs (.int x :: .int i :: rf X o :: st)
def r_aastI (X : Cx) (own : String) (cc : ByteArray) (nL d : Nat) (K : KT) : Prop := ∀ (g : Mem) (pc : Nat) (vs : Lv) (st : List Value) (o n q m2 : Nat) (r : Nat → Nat) (f : Nat → Int32) (i : Int32), decode cc pc = .ok (.aastore, 1) → o < 147 → g o = aRI X n r → vp_in i n → q < 147 → g q = aI X m2 f → (K (va_up g o (aRI X n (va_up r i.toNatClampNeg q))) (pc + 1) vs st) → K g pc vs (rf X q :: .int i :: rf X o :: st)
def r_aastJ (X : Cx) (own : String) (cc : ByteArray) (nL d : Nat) (K : KT) : Prop := ∀ (g : Mem) (pc : Nat) (vs : Lv) (st : List Value) (o n q m2 : Nat) (r : Nat → Nat) (f : Nat → Int64) (i : Int32), decode cc pc = .ok (.aastore, 1) → o < 147 → g o = aRJ X n r → vp_in i n → q < 147 → g q = aJ X m2 f → (K (va_up g o (aRJ X n (va_up r i.toNatClampNeg q))) (pc + 1) vs st) → K g pc vs (rf X q :: .int i :: rf X o :: st)
def r_alen (X : Cx) (own : String) (cc : ByteArray) (nL d : Nat) (K : KT) : Prop := ∀ (g : Mem) (pc : Nat) (vs : Lv) (st : List Value) (o : Nat) (cA : ClassId) (x : vp_A) (v : Int32) (t0 : Nat) (ty : FieldType), decode cc pc = .ok (.arraylength, 1) → o < 147 → g o = .inl (cA, x) → (tysX X)[t0]? = some (cA, ty) → Int32.ofNat x.1 = v → (K g (pc + 1) vs (.int v :: st)) → K g pc vs (rf X o :: st)
def r_callS (X : Cx) (own : String) (cc : ByteArray) (nL d : Nat) (K : KT) : Prop := ∀ (g : Mem) (pc : Nat) (vs : Lv) (st : List Value) (idx n d1 : Nat) (y : MethodName) (as r : List Value) (Q : Option Value → Mem → Prop), decode cc pc = .ok (.invokestatic idx, 3) → SL own idx y n → as.length = n → (r.map fun v => v.category).sum ≤ 8 → d1 + 1 ≤ d → CallM X d1 y as g Q → st = as.reverse ++ r → (∀ v g9, Q v g9 → K g9 (pc + 3) vs (v.toList ++ r)) → K g pc vs (st)
def r_callV (X : Cx) (own : String) (cc : ByteArray) (nL d : Nat) (K : KT) : Prop := ∀ (g : Mem) (pc : Nat) (vs : Lv) (st : List Value) (idx n d1 o ci : Nat) (y : MethodName) (as r fs : List Value) (Q : Option Value → Mem → Prop), decode cc pc = .ok (.invokevirtual idx, 3) → VL own idx y n ci → o < 147 → g o = .inr (ci, fs) → as.length = n → (r.map fun v => v.category).sum ≤ 8 → d1 + 1 ≤ d → CallM X d1 y (rf X o :: as) g Q → st = as.reverse ++ rf X o :: r → (∀ v g9, Q v g9 → K g9 (pc + 3) vs (v.toList ++ r)) → K g pc vs (st)
def r_copy (X : Cx) (own : String) (cc : ByteArray) (nL d : Nat) (K : KT) : Prop := ∀ (g : Mem) (pc : Nat) (vs : Lv)  (idx q0 q1 n0 n1 : Nat) (f f1 : Nat → Int32) (sp dp n : Int32), decode cc pc = .ok (.invokestatic idx, 3) → ACL own idx → 1 ≤ d → q0 < 147 → g q0 = aI X n0 f → q1 < 147 → g q1 = aI X n1 f1 → ¬ sp < 0 → ¬ dp < 0 → ¬ n < 0 → sp.toNatClampNeg + n.toNatClampNeg ≤ n0 → dp.toNatClampNeg + n.toNatClampNeg ≤ n1 → (K (va_up g q1 (aI X n1 (va_cpy f f1 sp.toNatClampNeg dp.toNatClampNeg n.toNatClampNeg))) (pc + 3) vs []) → K g pc vs (.int n :: .int dp :: rf X q1 :: .int sp :: rf X q0 :: [])
def Cl (X : Cx) (own : String) (cc : ByteArray) (nL d : Nat) (K : KT) : Prop := r_iconst X own cc nL d K ∧ r_bipush X own cc nL d K ∧ r_sipush X own cc nL d K ∧ r_lconst X own cc nL d K ∧ r_ldc X own cc nL d K ∧ r_ldcw X own cc nL d K ∧ r_ldc2 X own cc nL d K ∧ r_iload_n X own cc nL d K ∧ r_iload X own cc nL d K ∧ r_istore_n X own cc nL d K ∧ r_istore X own cc nL d K ∧ r_lload_n X own cc nL d K ∧ r_lload X own cc nL d K ∧ r_lstore_n X own cc nL d K ∧ r_lstore X own cc nL d K ∧ r_aload_n X own cc nL d K ∧ r_aload X own cc nL d K ∧ r_astore_n X own cc nL d K ∧ r_astore X own cc nL d K ∧ r_iinc X own cc nL d K ∧ r_iadd X own cc nL d K ∧ r_isub X own cc nL d K ∧ r_imul X own cc nL d K ∧ r_iand X own cc nL d K ∧ r_ixor X own cc nL d K ∧ r_idiv X own cc nL d K ∧ r_irem X own cc nL d K ∧ r_ineg X own cc nL d K ∧ r_ladd X own cc nL d K ∧ r_lsub X own cc nL d K ∧ r_lmul X own cc nL d K ∧ r_ldiv X own cc nL d K ∧ r_lrem X own cc nL d K ∧ r_lneg X own cc nL d K ∧ r_ishl X own cc nL d K ∧ r_ishr X own cc nL d K ∧ r_iushr X own cc nL d K ∧ r_i2l X own cc nL d K ∧ r_l2i X own cc nL d K ∧ r_i2b X own cc nL d K ∧ r_lcmp X own cc nL d K ∧ r_dup X own cc nL d K ∧ r_pop X own cc nL d K ∧ r_dup2 X own cc nL d K ∧ r_if_eq X own cc nL d K ∧ r_icmp_eq X own cc nL d K ∧ r_if_ne X own cc nL d K ∧ r_icmp_ne X own cc nL d K ∧ r_if_lt X own cc nL d K ∧ r_icmp_lt X own cc nL d K ∧ r_if_ge X own cc nL d K ∧ r_icmp_ge X own cc nL d K ∧ r_if_gt X own cc nL d K ∧ r_icmp_gt X own cc nL d K ∧ r_if_le X own cc nL d K ∧ r_icmp_le X own cc nL d K ∧ r_goto X own cc nL d K ∧ r_tabO X own cc nL d K ∧ r_tabI X own cc nL d K ∧ r_getf X own cc nL d K ∧ r_putf X own cc nL d K ∧ r_getsP X own cc nL d K ∧ r_getsL X own cc nL d K ∧ r_ialdP X own cc nL d K ∧ r_laldL X own cc nL d K ∧ r_iald X own cc nL d K ∧ r_lald X own cc nL d K ∧ r_bald X own cc nL d K ∧ r_zald X own cc nL d K ∧ r_aaldI X own cc nL d K ∧ r_aaldJ X own cc nL d K ∧ r_iast X own cc nL d K ∧ r_last X own cc nL d K ∧ r_bast X own cc nL d K ∧ r_zast X own cc nL d K ∧ r_aastI X own cc nL d K ∧ r_aastJ X own cc nL d K ∧ r_alen X own cc nL d K ∧ r_callS X own cc nL d K ∧ r_callV X own cc nL d K ∧ r_copy X own cc nL d K
theorem q_iconst {X : Cx} {own : String} {cc : ByteArray} {nL d : Nat} {K : KT} (hK : Cl X own cc nL d K) {g : Mem} {pc : Nat} {vs : Lv} {st : List Value} {n : Int} {v : Int32} (hd : decode cc pc = .ok (.iconst n, 1)) (hv : Int32.ofInt n = v) (h : K g (pc + 1) vs (.int v :: st)) : K g pc vs (st) := hK.1 g pc vs st n v hd hv h
theorem q_bipush {X : Cx} {own : String} {cc : ByteArray} {nL d : Nat} {K : KT} (hK : Cl X own cc nL d K) {g : Mem} {pc : Nat} {vs : Lv} {st : List Value} {n : Int} {v : Int32} (hd : decode cc pc = .ok (.bipush n, 2)) (hv : (Int8.ofInt n).toInt32 = v) (h : K g (pc + 2) vs (.int v :: st)) : K g pc vs (st) := hK.2.1 g pc vs st n v hd hv h
theorem q_sipush {X : Cx} {own : String} {cc : ByteArray} {nL d : Nat} {K : KT} (hK : Cl X own cc nL d K) {g : Mem} {pc : Nat} {vs : Lv} {st : List Value} {n : Int} {v : Int32} (hd : decode cc pc = .ok (.sipush n, 3)) (hv : (Int16.ofInt n).toInt32 = v) (h : K g (pc + 3) vs (.int v :: st)) : K g pc vs (st) := hK.2.2.1 g pc vs st n v hd hv h
theorem q_lconst {X : Cx} {own : String} {cc : ByteArray} {nL d : Nat} {K : KT} (hK : Cl X own cc nL d K) {g : Mem} {pc : Nat} {vs : Lv} {st : List Value} {n : Fin 2} {v : Int64} (hd : decode cc pc = .ok (.lconst n, 1)) (hv : Int64.ofNat (n : Nat) = v) (h : K g (pc + 1) vs (.long v :: st)) : K g pc vs (st) := hK.2.2.2.1 g pc vs st n v hd hv h
theorem q_ldc {X : Cx} {own : String} {cc : ByteArray} {nL d : Nat} {K : KT} (hK : Cl X own cc nL d K) {g : Mem} {pc : Nat} {vs : Lv} {st : List Value} {i : Nat} {v : Int32} (hd : decode cc pc = .ok (.ldc i, 2)) (hm : Cond.constant own i v ∈ gtb) (h : K g (pc + 2) vs (.int v :: st)) : K g pc vs (st) := hK.2.2.2.2.1 g pc vs st i v hd hm h
theorem q_ldcw {X : Cx} {own : String} {cc : ByteArray} {nL d : Nat} {K : KT} (hK : Cl X own cc nL d K) {g : Mem} {pc : Nat} {vs : Lv} {st : List Value} {i : Nat} {v : Int32} (hd : decode cc pc = .ok (.ldc_w i, 3)) (hm : Cond.constant own i v ∈ gtb) (h : K g (pc + 3) vs (.int v :: st)) : K g pc vs (st) := hK.2.2.2.2.2.1 g pc vs st i v hd hm h
theorem q_ldc2 {X : Cx} {own : String} {cc : ByteArray} {nL d : Nat} {K : KT} (hK : Cl X own cc nL d K) {g : Mem} {pc : Nat} {vs : Lv} {st : List Value} {i : Nat} {v : Int64} (hd : decode cc pc = .ok (.ldc2_w i, 3)) (hm : Cond.constantLong own i v ∈ gtb) (h : K g (pc + 3) vs (.long v :: st)) : K g pc vs (st) := hK.2.2.2.2.2.2.1 g pc vs st i v hd hm h
theorem q_iload_n {X : Cx} {own : String} {cc : ByteArray} {nL d : Nat} {K : KT} (hK : Cl X own cc nL d K) {g : Mem} {pc : Nat} {vs : Lv} {st : List Value} {k : Fin 4} (i : Nat) {v : Int32} (hd : decode cc pc = .ok (.iload_n k, 1)) (hi : (k : Nat) = i) (hv : lget vs i = some (.int v)) (h : K g (pc + 1) vs (.int v :: st)) : K g pc vs (st) := hK.2.2.2.2.2.2.2.1 g pc vs st k i v hd hi hv h
theorem q_iload {X : Cx} {own : String} {cc : ByteArray} {nL d : Nat} {K : KT} (hK : Cl X own cc nL d K) {g : Mem} {pc : Nat} {vs : Lv} {st : List Value} {i : Nat} {v : Int32} (hd : decode cc pc = .ok (.iload i, 2)) (hv : lget vs i = some (.int v)) (h : K g (pc + 2) vs (.int v :: st)) : K g pc vs (st) := hK.2.2.2.2.2.2.2.2.1 g pc vs st i v hd hv h
theorem q_istore_n {X : Cx} {own : String} {cc : ByteArray} {nL d : Nat} {K : KT} (hK : Cl X own cc nL d K) {g : Mem} {pc : Nat} {vs : Lv} {st : List Value} {k : Fin 4} (i : Nat) {v : Int32} (hd : decode cc pc = .ok (.istore_n k, 1)) (hi : (k : Nat) = i) (hn : i < nL) (h : K g (pc + 1) (lset vs i (.int v)) st) : K g pc vs (.int v :: st) := hK.2.2.2.2.2.2.2.2.2.1 g pc vs st k i v hd hi hn h
theorem q_istore {X : Cx} {own : String} {cc : ByteArray} {nL d : Nat} {K : KT} (hK : Cl X own cc nL d K) {g : Mem} {pc : Nat} {vs : Lv} {st : List Value} {i : Nat} {v : Int32} (hd : decode cc pc = .ok (.istore i, 2)) (hn : i < nL) (h : K g (pc + 2) (lset vs i (.int v)) st) : K g pc vs (.int v :: st) := hK.2.2.2.2.2.2.2.2.2.2.1 g pc vs st i v hd hn h
theorem q_lload_n {X : Cx} {own : String} {cc : ByteArray} {nL d : Nat} {K : KT} (hK : Cl X own cc nL d K) {g : Mem} {pc : Nat} {vs : Lv} {st : List Value} {k : Fin 4} (i : Nat) {v : Int64} (hd : decode cc pc = .ok (.lload_n k, 1)) (hi : (k : Nat) = i) (hv : lget vs i = some (.long v)) (h : K g (pc + 1) vs (.long v :: st)) : K g pc vs (st) := hK.2.2.2.2.2.2.2.2.2.2.2.1 g pc vs st k i v hd hi hv h
theorem q_lload {X : Cx} {own : String} {cc : ByteArray} {nL d : Nat} {K : KT} (hK : Cl X own cc nL d K) {g : Mem} {pc : Nat} {vs : Lv} {st : List Value} {i : Nat} {v : Int64} (hd : decode cc pc = .ok (.lload i, 2)) (hv : lget vs i = some (.long v)) (h : K g (pc + 2) vs (.long v :: st)) : K g pc vs (st) := hK.2.2.2.2.2.2.2.2.2.2.2.2.1 g pc vs st i v hd hv h
theorem q_lstore_n {X : Cx} {own : String} {cc : ByteArray} {nL d : Nat} {K : KT} (hK : Cl X own cc nL d K) {g : Mem} {pc : Nat} {vs : Lv} {st : List Value} {k : Fin 4} (i : Nat) {v : Int64} (hd : decode cc pc = .ok (.lstore_n k, 1)) (hi : (k : Nat) = i) (hn : i + 1 < nL) (h : K g (pc + 1) (lset2 vs i (.long v)) st) : K g pc vs (.long v :: st) := hK.2.2.2.2.2.2.2.2.2.2.2.2.2.1 g pc vs st k i v hd hi hn h
theorem q_lstore {X : Cx} {own : String} {cc : ByteArray} {nL d : Nat} {K : KT} (hK : Cl X own cc nL d K) {g : Mem} {pc : Nat} {vs : Lv} {st : List Value} {i : Nat} {v : Int64} (hd : decode cc pc = .ok (.lstore i, 2)) (hn : i + 1 < nL) (h : K g (pc + 2) (lset2 vs i (.long v)) st) : K g pc vs (.long v :: st) := hK.2.2.2.2.2.2.2.2.2.2.2.2.2.2.1 g pc vs st i v hd hn h
theorem q_aload_n {X : Cx} {own : String} {cc : ByteArray} {nL d : Nat} {K : KT} (hK : Cl X own cc nL d K) {g : Mem} {pc : Nat} {vs : Lv} {st : List Value} {k : Fin 4} (i : Nat) {v : Nat} (hd : decode cc pc = .ok (.aload_n k, 1)) (hi : (k : Nat) = i) (hv : lget vs i = some (.ref v)) (h : K g (pc + 1) vs (.ref v :: st)) : K g pc vs (st) := hK.2.2.2.2.2.2.2.2.2.2.2.2.2.2.2.1 g pc vs st k i v hd hi hv h
theorem q_aload {X : Cx} {own : String} {cc : ByteArray} {nL d : Nat} {K : KT} (hK : Cl X own cc nL d K) {g : Mem} {pc : Nat} {vs : Lv} {st : List Value} {i : Nat} {v : Nat} (hd : decode cc pc = .ok (.aload i, 2)) (hv : lget vs i = some (.ref v)) (h : K g (pc + 2) vs (.ref v :: st)) : K g pc vs (st) := hK.2.2.2.2.2.2.2.2.2.2.2.2.2.2.2.2.1 g pc vs st i v hd hv h
theorem q_astore_n {X : Cx} {own : String} {cc : ByteArray} {nL d : Nat} {K : KT} (hK : Cl X own cc nL d K) {g : Mem} {pc : Nat} {vs : Lv} {st : List Value} {k : Fin 4} (i : Nat) {v : Nat} (hd : decode cc pc = .ok (.astore_n k, 1)) (hi : (k : Nat) = i) (hn : i < nL) (h : K g (pc + 1) (lset vs i (.ref v)) st) : K g pc vs (.ref v :: st) := hK.2.2.2.2.2.2.2.2.2.2.2.2.2.2.2.2.2.1 g pc vs st k i v hd hi hn h
theorem q_astore {X : Cx} {own : String} {cc : ByteArray} {nL d : Nat} {K : KT} (hK : Cl X own cc nL d K) {g : Mem} {pc : Nat} {vs : Lv} {st : List Value} {i : Nat} {v : Nat} (hd : decode cc pc = .ok (.astore i, 2)) (hn : i < nL) (h : K g (pc + 2) (lset vs i (.ref v)) st) : K g pc vs (.ref v :: st) := hK.2.2.2.2.2.2.2.2.2.2.2.2.2.2.2.2.2.2.1 g pc vs st i v hd hn h
theorem q_iinc {X : Cx} {own : String} {cc : ByteArray} {nL d : Nat} {K : KT} (hK : Cl X own cc nL d K) {g : Mem} {pc : Nat} {vs : Lv} {st : List Value} {i : Nat} {n : Int} {x v : Int32} (hd : decode cc pc = .ok (.iinc i n, 3)) (hx : lget vs i = some (.int x)) (hv : x + Int32.ofInt n = v) (hn : i < nL) (h : K g (pc + 3) (lset vs i (.int v)) st) : K g pc vs (st) := hK.2.2.2.2.2.2.2.2.2.2.2.2.2.2.2.2.2.2.2.1 g pc vs st i n x v hd hx hv hn h
theorem q_iadd {X : Cx} {own : String} {cc : ByteArray} {nL d : Nat} {K : KT} (hK : Cl X own cc nL d K) {g : Mem} {pc : Nat} {vs : Lv} {st : List Value} {x y : Int32} (hd : decode cc pc = .ok (.iadd, 1)) (h : K g (pc + 1) vs (.int (x + y) :: st)) : K g pc vs (.int y :: .int x :: st) := hK.2.2.2.2.2.2.2.2.2.2.2.2.2.2.2.2.2.2.2.2.1 g pc vs st x y hd h
theorem q_isub {X : Cx} {own : String} {cc : ByteArray} {nL d : Nat} {K : KT} (hK : Cl X own cc nL d K) {g : Mem} {pc : Nat} {vs : Lv} {st : List Value} {x y : Int32} (hd : decode cc pc = .ok (.isub, 1)) (h : K g (pc + 1) vs (.int (x - y) :: st)) : K g pc vs (.int y :: .int x :: st) := hK.2.2.2.2.2.2.2.2.2.2.2.2.2.2.2.2.2.2.2.2.2.1 g pc vs st x y hd h
theorem q_imul {X : Cx} {own : String} {cc : ByteArray} {nL d : Nat} {K : KT} (hK : Cl X own cc nL d K) {g : Mem} {pc : Nat} {vs : Lv} {st : List Value} {x y : Int32} (hd : decode cc pc = .ok (.imul, 1)) (h : K g (pc + 1) vs (.int (x * y) :: st)) : K g pc vs (.int y :: .int x :: st) := hK.2.2.2.2.2.2.2.2.2.2.2.2.2.2.2.2.2.2.2.2.2.2.1 g pc vs st x y hd h
theorem q_iand {X : Cx} {own : String} {cc : ByteArray} {nL d : Nat} {K : KT} (hK : Cl X own cc nL d K) {g : Mem} {pc : Nat} {vs : Lv} {st : List Value} {x y : Int32} (hd : decode cc pc = .ok (.iand, 1)) (h : K g (pc + 1) vs (.int (x &&& y) :: st)) : K g pc vs (.int y :: .int x :: st) := hK.2.2.2.2.2.2.2.2.2.2.2.2.2.2.2.2.2.2.2.2.2.2.2.1 g pc vs st x y hd h
theorem q_ixor {X : Cx} {own : String} {cc : ByteArray} {nL d : Nat} {K : KT} (hK : Cl X own cc nL d K) {g : Mem} {pc : Nat} {vs : Lv} {st : List Value} {x y : Int32} (hd : decode cc pc = .ok (.ixor, 1)) (h : K g (pc + 1) vs (.int (x ^^^ y) :: st)) : K g pc vs (.int y :: .int x :: st) := hK.2.2.2.2.2.2.2.2.2.2.2.2.2.2.2.2.2.2.2.2.2.2.2.2.1 g pc vs st x y hd h
theorem q_idiv {X : Cx} {own : String} {cc : ByteArray} {nL d : Nat} {K : KT} (hK : Cl X own cc nL d K) {g : Mem} {pc : Nat} {vs : Lv} {st : List Value} {x y : Int32} (hd : decode cc pc = .ok (.idiv, 1)) (hne : ¬ y = 0) (h : K g (pc + 1) vs (.int (x / y) :: st)) : K g pc vs (.int y :: .int x :: st) := hK.2.2.2.2.2.2.2.2.2.2.2.2.2.2.2.2.2.2.2.2.2.2.2.2.2.1 g pc vs st x y hd hne h
theorem q_irem {X : Cx} {own : String} {cc : ByteArray} {nL d : Nat} {K : KT} (hK : Cl X own cc nL d K) {g : Mem} {pc : Nat} {vs : Lv} {st : List Value} {x y : Int32} (hd : decode cc pc = .ok (.irem, 1)) (hne : ¬ y = 0) (h : K g (pc + 1) vs (.int (x - x / y * y) :: st)) : K g pc vs (.int y :: .int x :: st) := hK.2.2.2.2.2.2.2.2.2.2.2.2.2.2.2.2.2.2.2.2.2.2.2.2.2.2.1 g pc vs st x y hd hne h
theorem q_ineg {X : Cx} {own : String} {cc : ByteArray} {nL d : Nat} {K : KT} (hK : Cl X own cc nL d K) {g : Mem} {pc : Nat} {vs : Lv} {st : List Value} {x : Int32} (hd : decode cc pc = .ok (.ineg, 1)) (h : K g (pc + 1) vs (.int (-x) :: st)) : K g pc vs (.int x :: st) := hK.2.2.2.2.2.2.2.2.2.2.2.2.2.2.2.2.2.2.2.2.2.2.2.2.2.2.2.1 g pc vs st x hd h
theorem q_ladd {X : Cx} {own : String} {cc : ByteArray} {nL d : Nat} {K : KT} (hK : Cl X own cc nL d K) {g : Mem} {pc : Nat} {vs : Lv} {st : List Value} {x y : Int64} (hd : decode cc pc = .ok (.ladd, 1)) (h : K g (pc + 1) vs (.long (x + y) :: st)) : K g pc vs (.long y :: .long x :: st) := hK.2.2.2.2.2.2.2.2.2.2.2.2.2.2.2.2.2.2.2.2.2.2.2.2.2.2.2.2.1 g pc vs st x y hd h
theorem q_lsub {X : Cx} {own : String} {cc : ByteArray} {nL d : Nat} {K : KT} (hK : Cl X own cc nL d K) {g : Mem} {pc : Nat} {vs : Lv} {st : List Value} {x y : Int64} (hd : decode cc pc = .ok (.lsub, 1)) (h : K g (pc + 1) vs (.long (x - y) :: st)) : K g pc vs (.long y :: .long x :: st) := hK.2.2.2.2.2.2.2.2.2.2.2.2.2.2.2.2.2.2.2.2.2.2.2.2.2.2.2.2.2.1 g pc vs st x y hd h
theorem q_lmul {X : Cx} {own : String} {cc : ByteArray} {nL d : Nat} {K : KT} (hK : Cl X own cc nL d K) {g : Mem} {pc : Nat} {vs : Lv} {st : List Value} {x y : Int64} (hd : decode cc pc = .ok (.lmul, 1)) (h : K g (pc + 1) vs (.long (x * y) :: st)) : K g pc vs (.long y :: .long x :: st) := hK.2.2.2.2.2.2.2.2.2.2.2.2.2.2.2.2.2.2.2.2.2.2.2.2.2.2.2.2.2.2.1 g pc vs st x y hd h
theorem q_ldiv {X : Cx} {own : String} {cc : ByteArray} {nL d : Nat} {K : KT} (hK : Cl X own cc nL d K) {g : Mem} {pc : Nat} {vs : Lv} {st : List Value} {x y : Int64} (hd : decode cc pc = .ok (.ldiv, 1)) (hne : ¬ y = 0) (h : K g (pc + 1) vs (.long (x / y) :: st)) : K g pc vs (.long y :: .long x :: st) := hK.2.2.2.2.2.2.2.2.2.2.2.2.2.2.2.2.2.2.2.2.2.2.2.2.2.2.2.2.2.2.2.1 g pc vs st x y hd hne h
theorem q_lrem {X : Cx} {own : String} {cc : ByteArray} {nL d : Nat} {K : KT} (hK : Cl X own cc nL d K) {g : Mem} {pc : Nat} {vs : Lv} {st : List Value} {x y : Int64} (hd : decode cc pc = .ok (.lrem, 1)) (hne : ¬ y = 0) (h : K g (pc + 1) vs (.long (x - x / y * y) :: st)) : K g pc vs (.long y :: .long x :: st) := hK.2.2.2.2.2.2.2.2.2.2.2.2.2.2.2.2.2.2.2.2.2.2.2.2.2.2.2.2.2.2.2.2.1 g pc vs st x y hd hne h
theorem q_lneg {X : Cx} {own : String} {cc : ByteArray} {nL d : Nat} {K : KT} (hK : Cl X own cc nL d K) {g : Mem} {pc : Nat} {vs : Lv} {st : List Value} {x : Int64} (hd : decode cc pc = .ok (.lneg, 1)) (h : K g (pc + 1) vs (.long (-x) :: st)) : K g pc vs (.long x :: st) := hK.2.2.2.2.2.2.2.2.2.2.2.2.2.2.2.2.2.2.2.2.2.2.2.2.2.2.2.2.2.2.2.2.2.1 g pc vs st x hd h
theorem q_ishl {X : Cx} {own : String} {cc : ByteArray} {nL d : Nat} {K : KT} (hK : Cl X own cc nL d K) {g : Mem} {pc : Nat} {vs : Lv} {st : List Value} {x y : Int32} (hd : decode cc pc = .ok (.ishl, 1)) (h : K g (pc + 1) vs (.int (x <<< (y &&& 31)) :: st)) : K g pc vs (.int y :: .int x :: st) := hK.2.2.2.2.2.2.2.2.2.2.2.2.2.2.2.2.2.2.2.2.2.2.2.2.2.2.2.2.2.2.2.2.2.2.1 g pc vs st x y hd h
theorem q_ishr {X : Cx} {own : String} {cc : ByteArray} {nL d : Nat} {K : KT} (hK : Cl X own cc nL d K) {g : Mem} {pc : Nat} {vs : Lv} {st : List Value} {x y : Int32} (hd : decode cc pc = .ok (.ishr, 1)) (h : K g (pc + 1) vs (.int (x >>> (y &&& 31)) :: st)) : K g pc vs (.int y :: .int x :: st) := hK.2.2.2.2.2.2.2.2.2.2.2.2.2.2.2.2.2.2.2.2.2.2.2.2.2.2.2.2.2.2.2.2.2.2.2.1 g pc vs st x y hd h
theorem q_iushr {X : Cx} {own : String} {cc : ByteArray} {nL d : Nat} {K : KT} (hK : Cl X own cc nL d K) {g : Mem} {pc : Nat} {vs : Lv} {st : List Value} {x y v : Int32} (hd : decode cc pc = .ok (.iushr, 1)) (hv : (x.toUInt32 >>> (y.toUInt32 &&& Int32.toUInt32 31)).toInt32 = v) (h : K g (pc + 1) vs (.int v :: st)) : K g pc vs (.int y :: .int x :: st) := hK.2.2.2.2.2.2.2.2.2.2.2.2.2.2.2.2.2.2.2.2.2.2.2.2.2.2.2.2.2.2.2.2.2.2.2.2.1 g pc vs st x y v hd hv h
theorem q_i2l {X : Cx} {own : String} {cc : ByteArray} {nL d : Nat} {K : KT} (hK : Cl X own cc nL d K) {g : Mem} {pc : Nat} {vs : Lv} {st : List Value} {x : Int32} (hd : decode cc pc = .ok (.i2l, 1)) (h : K g (pc + 1) vs (.long x.toInt64 :: st)) : K g pc vs (.int x :: st) := hK.2.2.2.2.2.2.2.2.2.2.2.2.2.2.2.2.2.2.2.2.2.2.2.2.2.2.2.2.2.2.2.2.2.2.2.2.2.1 g pc vs st x hd h
theorem q_l2i {X : Cx} {own : String} {cc : ByteArray} {nL d : Nat} {K : KT} (hK : Cl X own cc nL d K) {g : Mem} {pc : Nat} {vs : Lv} {st : List Value} {x : Int64} (hd : decode cc pc = .ok (.l2i, 1)) (h : K g (pc + 1) vs (.int x.toInt32 :: st)) : K g pc vs (.long x :: st) := hK.2.2.2.2.2.2.2.2.2.2.2.2.2.2.2.2.2.2.2.2.2.2.2.2.2.2.2.2.2.2.2.2.2.2.2.2.2.2.1 g pc vs st x hd h
theorem q_i2b {X : Cx} {own : String} {cc : ByteArray} {nL d : Nat} {K : KT} (hK : Cl X own cc nL d K) {g : Mem} {pc : Nat} {vs : Lv} {st : List Value} {x : Int32} (hd : decode cc pc = .ok (.i2b, 1)) (h : K g (pc + 1) vs (.int x.toInt8.toInt32 :: st)) : K g pc vs (.int x :: st) := hK.2.2.2.2.2.2.2.2.2.2.2.2.2.2.2.2.2.2.2.2.2.2.2.2.2.2.2.2.2.2.2.2.2.2.2.2.2.2.2.1 g pc vs st x hd h
theorem q_lcmp {X : Cx} {own : String} {cc : ByteArray} {nL d : Nat} {K : KT} (hK : Cl X own cc nL d K) {g : Mem} {pc : Nat} {vs : Lv} {st : List Value} {x y : Int64} (hd : decode cc pc = .ok (.lcmp, 1)) (h : K g (pc + 1) vs (.int (lg_cmp x y) :: st)) : K g pc vs (.long y :: .long x :: st) := hK.2.2.2.2.2.2.2.2.2.2.2.2.2.2.2.2.2.2.2.2.2.2.2.2.2.2.2.2.2.2.2.2.2.2.2.2.2.2.2.2.1 g pc vs st x y hd h
theorem q_dup {X : Cx} {own : String} {cc : ByteArray} {nL d : Nat} {K : KT} (hK : Cl X own cc nL d K) {g : Mem} {pc : Nat} {vs : Lv} {st : List Value} {a : Value} (hd : decode cc pc = .ok (.dup, 1)) (ha : a.category = 1) (h : K g (pc + 1) vs (a :: a :: st)) : K g pc vs (a :: st) := hK.2.2.2.2.2.2.2.2.2.2.2.2.2.2.2.2.2.2.2.2.2.2.2.2.2.2.2.2.2.2.2.2.2.2.2.2.2.2.2.2.2.1 g pc vs st a hd ha h
theorem q_pop {X : Cx} {own : String} {cc : ByteArray} {nL d : Nat} {K : KT} (hK : Cl X own cc nL d K) {g : Mem} {pc : Nat} {vs : Lv} {st : List Value} {a : Value} (hd : decode cc pc = .ok (.pop, 1)) (ha : a.category = 1) (h : K g (pc + 1) vs (st)) : K g pc vs (a :: st) := hK.2.2.2.2.2.2.2.2.2.2.2.2.2.2.2.2.2.2.2.2.2.2.2.2.2.2.2.2.2.2.2.2.2.2.2.2.2.2.2.2.2.2.1 g pc vs st a hd ha h
theorem q_dup2 {X : Cx} {own : String} {cc : ByteArray} {nL d : Nat} {K : KT} (hK : Cl X own cc nL d K) {g : Mem} {pc : Nat} {vs : Lv} {st : List Value} {a b : Value} (hd : decode cc pc = .ok (.dup2, 1)) (ha : a.category = 1) (hb : b.category = 1) (h : K g (pc + 1) vs (a :: b :: a :: b :: st)) : K g pc vs (a :: b :: st) := hK.2.2.2.2.2.2.2.2.2.2.2.2.2.2.2.2.2.2.2.2.2.2.2.2.2.2.2.2.2.2.2.2.2.2.2.2.2.2.2.2.2.2.2.1 g pc vs st a b hd ha hb h
theorem q_if_eq {X : Cx} {own : String} {cc : ByteArray} {nL d : Nat} {K : KT} (hK : Cl X own cc nL d K) {g : Mem} {pc : Nat} {vs : Lv} {st : List Value} {x : Int32} {off : Int} (tgt : Nat) (hd : decode cc pc = .ok (.ifCond .eq off, 3)) (ht : (pc : Int) + off = (tgt : Int)) (h : x = 0 → K g tgt vs st) (h2 : ¬ x = 0 → K g (pc + 3) vs st) : K g pc vs (.int x :: st) := hK.2.2.2.2.2.2.2.2.2.2.2.2.2.2.2.2.2.2.2.2.2.2.2.2.2.2.2.2.2.2.2.2.2.2.2.2.2.2.2.2.2.2.2.2.1 g pc vs st x off tgt hd ht h h2
theorem q_icmp_eq {X : Cx} {own : String} {cc : ByteArray} {nL d : Nat} {K : KT} (hK : Cl X own cc nL d K) {g : Mem} {pc : Nat} {vs : Lv} {st : List Value} {x y : Int32} {off : Int} (tgt : Nat) (hd : decode cc pc = .ok (.if_icmp .eq off, 3)) (ht : (pc : Int) + off = (tgt : Int)) (h : x = y → K g tgt vs st) (h2 : ¬ x = y → K g (pc + 3) vs st) : K g pc vs (.int y :: .int x :: st) := hK.2.2.2.2.2.2.2.2.2.2.2.2.2.2.2.2.2.2.2.2.2.2.2.2.2.2.2.2.2.2.2.2.2.2.2.2.2.2.2.2.2.2.2.2.2.1 g pc vs st x y off tgt hd ht h h2
theorem q_if_ne {X : Cx} {own : String} {cc : ByteArray} {nL d : Nat} {K : KT} (hK : Cl X own cc nL d K) {g : Mem} {pc : Nat} {vs : Lv} {st : List Value} {x : Int32} {off : Int} (tgt : Nat) (hd : decode cc pc = .ok (.ifCond .ne off, 3)) (ht : (pc : Int) + off = (tgt : Int)) (h : ¬ x = 0 → K g tgt vs st) (h2 : x = 0 → K g (pc + 3) vs st) : K g pc vs (.int x :: st) := hK.2.2.2.2.2.2.2.2.2.2.2.2.2.2.2.2.2.2.2.2.2.2.2.2.2.2.2.2.2.2.2.2.2.2.2.2.2.2.2.2.2.2.2.2.2.2.1 g pc vs st x off tgt hd ht h h2
theorem q_icmp_ne {X : Cx} {own : String} {cc : ByteArray} {nL d : Nat} {K : KT} (hK : Cl X own cc nL d K) {g : Mem} {pc : Nat} {vs : Lv} {st : List Value} {x y : Int32} {off : Int} (tgt : Nat) (hd : decode cc pc = .ok (.if_icmp .ne off, 3)) (ht : (pc : Int) + off = (tgt : Int)) (h : ¬ x = y → K g tgt vs st) (h2 : x = y → K g (pc + 3) vs st) : K g pc vs (.int y :: .int x :: st) := hK.2.2.2.2.2.2.2.2.2.2.2.2.2.2.2.2.2.2.2.2.2.2.2.2.2.2.2.2.2.2.2.2.2.2.2.2.2.2.2.2.2.2.2.2.2.2.2.1 g pc vs st x y off tgt hd ht h h2
theorem q_if_lt {X : Cx} {own : String} {cc : ByteArray} {nL d : Nat} {K : KT} (hK : Cl X own cc nL d K) {g : Mem} {pc : Nat} {vs : Lv} {st : List Value} {x : Int32} {off : Int} (tgt : Nat) (hd : decode cc pc = .ok (.ifCond .lt off, 3)) (ht : (pc : Int) + off = (tgt : Int)) (h : x < 0 → K g tgt vs st) (h2 : ¬ x < 0 → K g (pc + 3) vs st) : K g pc vs (.int x :: st) := hK.2.2.2.2.2.2.2.2.2.2.2.2.2.2.2.2.2.2.2.2.2.2.2.2.2.2.2.2.2.2.2.2.2.2.2.2.2.2.2.2.2.2.2.2.2.2.2.2.1 g pc vs st x off tgt hd ht h h2
theorem q_icmp_lt {X : Cx} {own : String} {cc : ByteArray} {nL d : Nat} {K : KT} (hK : Cl X own cc nL d K) {g : Mem} {pc : Nat} {vs : Lv} {st : List Value} {x y : Int32} {off : Int} (tgt : Nat) (hd : decode cc pc = .ok (.if_icmp .lt off, 3)) (ht : (pc : Int) + off = (tgt : Int)) (h : x < y → K g tgt vs st) (h2 : ¬ x < y → K g (pc + 3) vs st) : K g pc vs (.int y :: .int x :: st) := hK.2.2.2.2.2.2.2.2.2.2.2.2.2.2.2.2.2.2.2.2.2.2.2.2.2.2.2.2.2.2.2.2.2.2.2.2.2.2.2.2.2.2.2.2.2.2.2.2.2.1 g pc vs st x y off tgt hd ht h h2
theorem q_if_ge {X : Cx} {own : String} {cc : ByteArray} {nL d : Nat} {K : KT} (hK : Cl X own cc nL d K) {g : Mem} {pc : Nat} {vs : Lv} {st : List Value} {x : Int32} {off : Int} (tgt : Nat) (hd : decode cc pc = .ok (.ifCond .ge off, 3)) (ht : (pc : Int) + off = (tgt : Int)) (h : 0 ≤ x → K g tgt vs st) (h2 : ¬ 0 ≤ x → K g (pc + 3) vs st) : K g pc vs (.int x :: st) := hK.2.2.2.2.2.2.2.2.2.2.2.2.2.2.2.2.2.2.2.2.2.2.2.2.2.2.2.2.2.2.2.2.2.2.2.2.2.2.2.2.2.2.2.2.2.2.2.2.2.2.1 g pc vs st x off tgt hd ht h h2
theorem q_icmp_ge {X : Cx} {own : String} {cc : ByteArray} {nL d : Nat} {K : KT} (hK : Cl X own cc nL d K) {g : Mem} {pc : Nat} {vs : Lv} {st : List Value} {x y : Int32} {off : Int} (tgt : Nat) (hd : decode cc pc = .ok (.if_icmp .ge off, 3)) (ht : (pc : Int) + off = (tgt : Int)) (h : y ≤ x → K g tgt vs st) (h2 : ¬ y ≤ x → K g (pc + 3) vs st) : K g pc vs (.int y :: .int x :: st) := hK.2.2.2.2.2.2.2.2.2.2.2.2.2.2.2.2.2.2.2.2.2.2.2.2.2.2.2.2.2.2.2.2.2.2.2.2.2.2.2.2.2.2.2.2.2.2.2.2.2.2.2.1 g pc vs st x y off tgt hd ht h h2
theorem q_if_gt {X : Cx} {own : String} {cc : ByteArray} {nL d : Nat} {K : KT} (hK : Cl X own cc nL d K) {g : Mem} {pc : Nat} {vs : Lv} {st : List Value} {x : Int32} {off : Int} (tgt : Nat) (hd : decode cc pc = .ok (.ifCond .gt off, 3)) (ht : (pc : Int) + off = (tgt : Int)) (h : 0 < x → K g tgt vs st) (h2 : ¬ 0 < x → K g (pc + 3) vs st) : K g pc vs (.int x :: st) := hK.2.2.2.2.2.2.2.2.2.2.2.2.2.2.2.2.2.2.2.2.2.2.2.2.2.2.2.2.2.2.2.2.2.2.2.2.2.2.2.2.2.2.2.2.2.2.2.2.2.2.2.2.1 g pc vs st x off tgt hd ht h h2
theorem q_icmp_gt {X : Cx} {own : String} {cc : ByteArray} {nL d : Nat} {K : KT} (hK : Cl X own cc nL d K) {g : Mem} {pc : Nat} {vs : Lv} {st : List Value} {x y : Int32} {off : Int} (tgt : Nat) (hd : decode cc pc = .ok (.if_icmp .gt off, 3)) (ht : (pc : Int) + off = (tgt : Int)) (h : y < x → K g tgt vs st) (h2 : ¬ y < x → K g (pc + 3) vs st) : K g pc vs (.int y :: .int x :: st) := hK.2.2.2.2.2.2.2.2.2.2.2.2.2.2.2.2.2.2.2.2.2.2.2.2.2.2.2.2.2.2.2.2.2.2.2.2.2.2.2.2.2.2.2.2.2.2.2.2.2.2.2.2.2.1 g pc vs st x y off tgt hd ht h h2
theorem q_if_le {X : Cx} {own : String} {cc : ByteArray} {nL d : Nat} {K : KT} (hK : Cl X own cc nL d K) {g : Mem} {pc : Nat} {vs : Lv} {st : List Value} {x : Int32} {off : Int} (tgt : Nat) (hd : decode cc pc = .ok (.ifCond .le off, 3)) (ht : (pc : Int) + off = (tgt : Int)) (h : x ≤ 0 → K g tgt vs st) (h2 : ¬ x ≤ 0 → K g (pc + 3) vs st) : K g pc vs (.int x :: st) := hK.2.2.2.2.2.2.2.2.2.2.2.2.2.2.2.2.2.2.2.2.2.2.2.2.2.2.2.2.2.2.2.2.2.2.2.2.2.2.2.2.2.2.2.2.2.2.2.2.2.2.2.2.2.2.1 g pc vs st x off tgt hd ht h h2
theorem q_icmp_le {X : Cx} {own : String} {cc : ByteArray} {nL d : Nat} {K : KT} (hK : Cl X own cc nL d K) {g : Mem} {pc : Nat} {vs : Lv} {st : List Value} {x y : Int32} {off : Int} (tgt : Nat) (hd : decode cc pc = .ok (.if_icmp .le off, 3)) (ht : (pc : Int) + off = (tgt : Int)) (h : x ≤ y → K g tgt vs st) (h2 : ¬ x ≤ y → K g (pc + 3) vs st) : K g pc vs (.int y :: .int x :: st) := hK.2.2.2.2.2.2.2.2.2.2.2.2.2.2.2.2.2.2.2.2.2.2.2.2.2.2.2.2.2.2.2.2.2.2.2.2.2.2.2.2.2.2.2.2.2.2.2.2.2.2.2.2.2.2.2.1 g pc vs st x y off tgt hd ht h h2
theorem q_goto {X : Cx} {own : String} {cc : ByteArray} {nL d : Nat} {K : KT} (hK : Cl X own cc nL d K) {g : Mem} {pc : Nat} {vs : Lv} {st : List Value} {off : Int} (tgt : Nat) (hd : decode cc pc = .ok (.goto off, 3)) (ht : (pc : Int) + off = (tgt : Int)) (h : K g tgt vs st) : K g pc vs (st) := hK.2.2.2.2.2.2.2.2.2.2.2.2.2.2.2.2.2.2.2.2.2.2.2.2.2.2.2.2.2.2.2.2.2.2.2.2.2.2.2.2.2.2.2.2.2.2.2.2.2.2.2.2.2.2.2.2.1 g pc vs st off tgt hd ht h
theorem q_tabO {X : Cx} {own : String} {cc : ByteArray} {nL d : Nat} {K : KT} (hK : Cl X own cc nL d K) {g : Mem} {pc : Nat} {vs : Lv} {st : List Value} {dflt lo hi : Int} {offs : Array Int} {len : Nat} {x : Int32} (tgt : Nat) (hd : decode cc pc = .ok (.tableswitch dflt lo hi offs, len)) (hx : x.toInt < lo ∨ hi < x.toInt) (ht : (pc : Int) + dflt = (tgt : Int)) (h : K g tgt vs st) : K g pc vs (.int x :: st) := hK.2.2.2.2.2.2.2.2.2.2.2.2.2.2.2.2.2.2.2.2.2.2.2.2.2.2.2.2.2.2.2.2.2.2.2.2.2.2.2.2.2.2.2.2.2.2.2.2.2.2.2.2.2.2.2.2.2.1 g pc vs st dflt lo hi offs len x tgt hd hx ht h
theorem q_tabI {X : Cx} {own : String} {cc : ByteArray} {nL d : Nat} {K : KT} (hK : Cl X own cc nL d K) {g : Mem} {pc : Nat} {vs : Lv} {st : List Value} {dflt lo hi : Int} {offs : Array Int} {len : Nat} {x : Int32} {off : Int} (tgt : Nat) (hd : decode cc pc = .ok (.tableswitch dflt lo hi offs, len)) (h1 : ¬ x.toInt < lo) (h3 : ¬ hi < x.toInt) (ho : offs[(x.toInt - lo).toNat]? = some off) (ht : (pc : Int) + off = (tgt : Int)) (h : K g tgt vs st) : K g pc vs (.int x :: st) := hK.2.2.2.2.2.2.2.2.2.2.2.2.2.2.2.2.2.2.2.2.2.2.2.2.2.2.2.2.2.2.2.2.2.2.2.2.2.2.2.2.2.2.2.2.2.2.2.2.2.2.2.2.2.2.2.2.2.2.1 g pc vs st dflt lo hi offs len x off tgt hd h1 h3 ho ht h
theorem q_getf {X : Cx} {own : String} {cc : ByteArray} {nL d : Nat} {K : KT} (hK : Cl X own cc nL d K) {g : Mem} {pc : Nat} {vs : Lv} {st : List Value} {idx ci k o : Nat} {fs : List Value} {v : Value} (hd : decode cc pc = .ok (.getfield idx, 3)) (hF : FL own idx ci k) (ho : o < 147) (hg : g o = .inr (ci, fs)) (hv : fs[k]? = some v) (h : K g (pc + 3) vs (v :: st)) : K g pc vs (rf X o :: st) := hK.2.2.2.2.2.2.2.2.2.2.2.2.2.2.2.2.2.2.2.2.2.2.2.2.2.2.2.2.2.2.2.2.2.2.2.2.2.2.2.2.2.2.2.2.2.2.2.2.2.2.2.2.2.2.2.2.2.2.2.1 g pc vs st idx ci k o fs v hd hF ho hg hv h
theorem q_putf {X : Cx} {own : String} {cc : ByteArray} {nL d : Nat} {K : KT} (hK : Cl X own cc nL d K) {g : Mem} {pc : Nat} {vs : Lv} {st : List Value} {idx ci k o : Nat} {fs : List Value} {v : Value} {ty : FieldType} (hd : decode cc pc = .ok (.putfield idx, 3)) (hF : FP own idx ci k ty) (ho : o < 147) (hg : g o = .inr (ci, fs)) (hn : narrow ty v = v) (hf : fits ty v = true) (hk : k < fs.length) (h : K (va_up g o (.inr (ci, fs.set k v))) (pc + 3) vs st) : K g pc vs (v :: rf X o :: st) := hK.2.2.2.2.2.2.2.2.2.2.2.2.2.2.2.2.2.2.2.2.2.2.2.2.2.2.2.2.2.2.2.2.2.2.2.2.2.2.2.2.2.2.2.2.2.2.2.2.2.2.2.2.2.2.2.2.2.2.2.2.1 g pc vs st idx ci k o fs v ty hd hF ho hg hn hf hk h
theorem q_getsP {X : Cx} {own : String} {cc : ByteArray} {nL d : Nat} {K : KT} (hK : Cl X own cc nL d K) {g : Mem} {pc : Nat} {vs : Lv} {st : List Value} {idx : Nat} {host : String} (hd : decode cc pc = .ok (.getstatic idx, 3)) (hF : Cond.fieldLinkNest own idx "TuneBench" "PRIMES" "[I" host ∈ nsts) (h : K g (pc + 3) vs (.ref X.2.2.2.2.1 :: st)) : K g pc vs (st) := hK.2.2.2.2.2.2.2.2.2.2.2.2.2.2.2.2.2.2.2.2.2.2.2.2.2.2.2.2.2.2.2.2.2.2.2.2.2.2.2.2.2.2.2.2.2.2.2.2.2.2.2.2.2.2.2.2.2.2.2.2.2.1 g pc vs st idx host hd hF h
theorem q_getsL {X : Cx} {own : String} {cc : ByteArray} {nL d : Nat} {K : KT} (hK : Cl X own cc nL d K) {g : Mem} {pc : Nat} {vs : Lv} {st : List Value} {idx : Nat} (hd : decode cc pc = .ok (.getstatic idx, 3)) (hF : Cond.fieldLink own idx "TuneBench$Divisions" "LOGARITHMS" "[J" ∈ gtb) (h : K g (pc + 3) vs (.ref X.2.2.2.2.2 :: st)) : K g pc vs (st) := hK.2.2.2.2.2.2.2.2.2.2.2.2.2.2.2.2.2.2.2.2.2.2.2.2.2.2.2.2.2.2.2.2.2.2.2.2.2.2.2.2.2.2.2.2.2.2.2.2.2.2.2.2.2.2.2.2.2.2.2.2.2.2.1 g pc vs st idx hd hF h
theorem q_ialdP {X : Cx} {own : String} {cc : ByteArray} {nL d : Nat} {K : KT} (hK : Cl X own cc nL d K) {g : Mem} {pc : Nat} {vs : Lv} {st : List Value} {i : Int32} (hd : decode cc pc = .ok (.iaload, 1)) (hi : vp_in i 6) (h : K g (pc + 1) vs (.int (prI i.toNatClampNeg) :: st)) : K g pc vs (.int i :: .ref X.2.2.2.2.1 :: st) := hK.2.2.2.2.2.2.2.2.2.2.2.2.2.2.2.2.2.2.2.2.2.2.2.2.2.2.2.2.2.2.2.2.2.2.2.2.2.2.2.2.2.2.2.2.2.2.2.2.2.2.2.2.2.2.2.2.2.2.2.2.2.2.2.1 g pc vs st i hd hi h
theorem q_laldL {X : Cx} {own : String} {cc : ByteArray} {nL d : Nat} {K : KT} (hK : Cl X own cc nL d K) {g : Mem} {pc : Nat} {vs : Lv} {st : List Value} {i : Int32} (hd : decode cc pc = .ok (.laload, 1)) (hi : vp_in i 6) (h : K g (pc + 1) vs (.long (lgL i.toNatClampNeg) :: st)) : K g pc vs (.int i :: .ref X.2.2.2.2.2 :: st) := hK.2.2.2.2.2.2.2.2.2.2.2.2.2.2.2.2.2.2.2.2.2.2.2.2.2.2.2.2.2.2.2.2.2.2.2.2.2.2.2.2.2.2.2.2.2.2.2.2.2.2.2.2.2.2.2.2.2.2.2.2.2.2.2.2.1 g pc vs st i hd hi h
theorem q_iald {X : Cx} {own : String} {cc : ByteArray} {nL d : Nat} {K : KT} (hK : Cl X own cc nL d K) {g : Mem} {pc : Nat} {vs : Lv} {st : List Value} {o n : Nat} {f : Nat → Int32} {i : Int32} (hd : decode cc pc = .ok (.iaload, 1)) (ho : o < 147) (hg : g o = aI X n f) (hi : vp_in i n) (h : K g (pc + 1) vs (.int (f i.toNatClampNeg) :: st)) : K g pc vs (.int i :: rf X o :: st) := hK.2.2.2.2.2.2.2.2.2.2.2.2.2.2.2.2.2.2.2.2.2.2.2.2.2.2.2.2.2.2.2.2.2.2.2.2.2.2.2.2.2.2.2.2.2.2.2.2.2.2.2.2.2.2.2.2.2.2.2.2.2.2.2.2.2.1 g pc vs st o n f i hd ho hg hi h
theorem q_lald {X : Cx} {own : String} {cc : ByteArray} {nL d : Nat} {K : KT} (hK : Cl X own cc nL d K) {g : Mem} {pc : Nat} {vs : Lv} {st : List Value} {o n : Nat} {f : Nat → Int64} {i : Int32} (hd : decode cc pc = .ok (.laload, 1)) (ho : o < 147) (hg : g o = aJ X n f) (hi : vp_in i n) (h : K g (pc + 1) vs (.long (f i.toNatClampNeg) :: st)) : K g pc vs (.int i :: rf X o :: st) := hK.2.2.2.2.2.2.2.2.2.2.2.2.2.2.2.2.2.2.2.2.2.2.2.2.2.2.2.2.2.2.2.2.2.2.2.2.2.2.2.2.2.2.2.2.2.2.2.2.2.2.2.2.2.2.2.2.2.2.2.2.2.2.2.2.2.2.1 g pc vs st o n f i hd ho hg hi h
theorem q_bald {X : Cx} {own : String} {cc : ByteArray} {nL d : Nat} {K : KT} (hK : Cl X own cc nL d K) {g : Mem} {pc : Nat} {vs : Lv} {st : List Value} {o n : Nat} {f : Nat → Int32} {i : Int32} (hd : decode cc pc = .ok (.baload, 1)) (ho : o < 147) (hg : g o = aB X n f) (hi : vp_in i n) (h : K g (pc + 1) vs (.int (f i.toNatClampNeg) :: st)) : K g pc vs (.int i :: rf X o :: st) := hK.2.2.2.2.2.2.2.2.2.2.2.2.2.2.2.2.2.2.2.2.2.2.2.2.2.2.2.2.2.2.2.2.2.2.2.2.2.2.2.2.2.2.2.2.2.2.2.2.2.2.2.2.2.2.2.2.2.2.2.2.2.2.2.2.2.2.2.1 g pc vs st o n f i hd ho hg hi h
theorem q_zald {X : Cx} {own : String} {cc : ByteArray} {nL d : Nat} {K : KT} (hK : Cl X own cc nL d K) {g : Mem} {pc : Nat} {vs : Lv} {st : List Value} {o n : Nat} {f : Nat → Int32} {i : Int32} (hd : decode cc pc = .ok (.baload, 1)) (ho : o < 147) (hg : g o = aZ X n f) (hi : vp_in i n) (h : K g (pc + 1) vs (.int (f i.toNatClampNeg) :: st)) : K g pc vs (.int i :: rf X o :: st) := hK.2.2.2.2.2.2.2.2.2.2.2.2.2.2.2.2.2.2.2.2.2.2.2.2.2.2.2.2.2.2.2.2.2.2.2.2.2.2.2.2.2.2.2.2.2.2.2.2.2.2.2.2.2.2.2.2.2.2.2.2.2.2.2.2.2.2.2.2.1 g pc vs st o n f i hd ho hg hi h
theorem q_aaldI {X : Cx} {own : String} {cc : ByteArray} {nL d : Nat} {K : KT} (hK : Cl X own cc nL d K) {g : Mem} {pc : Nat} {vs : Lv} {st : List Value} {o n : Nat} {r : Nat → Nat} {i : Int32} (hd : decode cc pc = .ok (.aaload, 1)) (ho : o < 147) (hg : g o = aRI X n r) (hi : vp_in i n) (h : K g (pc + 1) vs (rf X (r i.toNatClampNeg) :: st)) : K g pc vs (.int i :: rf X o :: st) := hK.2.2.2.2.2.2.2.2.2.2.2.2.2.2.2.2.2.2.2.2.2.2.2.2.2.2.2.2.2.2.2.2.2.2.2.2.2.2.2.2.2.2.2.2.2.2.2.2.2.2.2.2.2.2.2.2.2.2.2.2.2.2.2.2.2.2.2.2.2.1 g pc vs st o n r i hd ho hg hi h
theorem q_aaldJ {X : Cx} {own : String} {cc : ByteArray} {nL d : Nat} {K : KT} (hK : Cl X own cc nL d K) {g : Mem} {pc : Nat} {vs : Lv} {st : List Value} {o n : Nat} {r : Nat → Nat} {i : Int32} (hd : decode cc pc = .ok (.aaload, 1)) (ho : o < 147) (hg : g o = aRJ X n r) (hi : vp_in i n) (h : K g (pc + 1) vs (rf X (r i.toNatClampNeg) :: st)) : K g pc vs (.int i :: rf X o :: st) := hK.2.2.2.2.2.2.2.2.2.2.2.2.2.2.2.2.2.2.2.2.2.2.2.2.2.2.2.2.2.2.2.2.2.2.2.2.2.2.2.2.2.2.2.2.2.2.2.2.2.2.2.2.2.2.2.2.2.2.2.2.2.2.2.2.2.2.2.2.2.2.1 g pc vs st o n r i hd ho hg hi h
theorem q_iast {X : Cx} {own : String} {cc : ByteArray} {nL d : Nat} {K : KT} (hK : Cl X own cc nL d K) {g : Mem} {pc : Nat} {vs : Lv} {st : List Value} {o n : Nat} {f : Nat → Int32} {i : Int32} {x : Int32} (hd : decode cc pc = .ok (.iastore, 1)) (ho : o < 147) (hg : g o = aI X n f) (hi : vp_in i n) (h : K (va_up g o (aI X n (upd f i.toNatClampNeg x))) (pc + 1) vs st) : K g pc vs (.int x :: .int i :: rf X o :: st) := hK.2.2.2.2.2.2.2.2.2.2.2.2.2.2.2.2.2.2.2.2.2.2.2.2.2.2.2.2.2.2.2.2.2.2.2.2.2.2.2.2.2.2.2.2.2.2.2.2.2.2.2.2.2.2.2.2.2.2.2.2.2.2.2.2.2.2.2.2.2.2.2.1 g pc vs st o n f i x hd ho hg hi h
theorem q_last {X : Cx} {own : String} {cc : ByteArray} {nL d : Nat} {K : KT} (hK : Cl X own cc nL d K) {g : Mem} {pc : Nat} {vs : Lv} {st : List Value} {o n : Nat} {f : Nat → Int64} {i : Int32} {x : Int64} (hd : decode cc pc = .ok (.lastore, 1)) (ho : o < 147) (hg : g o = aJ X n f) (hi : vp_in i n) (h : K (va_up g o (aJ X n (vp_updL f i.toNatClampNeg x))) (pc + 1) vs st) : K g pc vs (.long x :: .int i :: rf X o :: st) := hK.2.2.2.2.2.2.2.2.2.2.2.2.2.2.2.2.2.2.2.2.2.2.2.2.2.2.2.2.2.2.2.2.2.2.2.2.2.2.2.2.2.2.2.2.2.2.2.2.2.2.2.2.2.2.2.2.2.2.2.2.2.2.2.2.2.2.2.2.2.2.2.2.1 g pc vs st o n f i x hd ho hg hi h
theorem q_bast {X : Cx} {own : String} {cc : ByteArray} {nL d : Nat} {K : KT} (hK : Cl X own cc nL d K) {g : Mem} {pc : Nat} {vs : Lv} {st : List Value} {o n : Nat} {f : Nat → Int32} {i : Int32} {x : Int32} (hd : decode cc pc = .ok (.bastore, 1)) (ho : o < 147) (hg : g o = aB X n f) (hi : vp_in i n) (h : K (va_up g o (aB X n (upd f i.toNatClampNeg (vp_nar .byte x)))) (pc + 1) vs st) : K g pc vs (.int x :: .int i :: rf X o :: st) := hK.2.2.2.2.2.2.2.2.2.2.2.2.2.2.2.2.2.2.2.2.2.2.2.2.2.2.2.2.2.2.2.2.2.2.2.2.2.2.2.2.2.2.2.2.2.2.2.2.2.2.2.2.2.2.2.2.2.2.2.2.2.2.2.2.2.2.2.2.2.2.2.2.2.1 g pc vs st o n f i x hd ho hg hi h
theorem q_zast {X : Cx} {own : String} {cc : ByteArray} {nL d : Nat} {K : KT} (hK : Cl X own cc nL d K) {g : Mem} {pc : Nat} {vs : Lv} {st : List Value} {o n : Nat} {f : Nat → Int32} {i : Int32} {x : Int32} (hd : decode cc pc = .ok (.bastore, 1)) (ho : o < 147) (hg : g o = aZ X n f) (hi : vp_in i n) (h : K (va_up g o (aZ X n (upd f i.toNatClampNeg (vp_nar .boolean x)))) (pc + 1) vs st) : K g pc vs (.int x :: .int i :: rf X o :: st) := hK.2.2.2.2.2.2.2.2.2.2.2.2.2.2.2.2.2.2.2.2.2.2.2.2.2.2.2.2.2.2.2.2.2.2.2.2.2.2.2.2.2.2.2.2.2.2.2.2.2.2.2.2.2.2.2.2.2.2.2.2.2.2.2.2.2.2.2.2.2.2.2.2.2.2.1 g pc vs st o n f i x hd ho hg hi h
theorem q_aastI {X : Cx} {own : String} {cc : ByteArray} {nL d : Nat} {K : KT} (hK : Cl X own cc nL d K) {g : Mem} {pc : Nat} {vs : Lv} {st : List Value} {o n q m2 : Nat} {r : Nat → Nat} {f : Nat → Int32} {i : Int32} (hd : decode cc pc = .ok (.aastore, 1)) (ho : o < 147) (hg : g o = aRI X n r) (hi : vp_in i n) (hq : q < 147) (hf : g q = aI X m2 f) (h : K (va_up g o (aRI X n (va_up r i.toNatClampNeg q))) (pc + 1) vs st) : K g pc vs (rf X q :: .int i :: rf X o :: st) := hK.2.2.2.2.2.2.2.2.2.2.2.2.2.2.2.2.2.2.2.2.2.2.2.2.2.2.2.2.2.2.2.2.2.2.2.2.2.2.2.2.2.2.2.2.2.2.2.2.2.2.2.2.2.2.2.2.2.2.2.2.2.2.2.2.2.2.2.2.2.2.2.2.2.2.2.1 g pc vs st o n q m2 r f i hd ho hg hi hq hf h
theorem q_aastJ {X : Cx} {own : String} {cc : ByteArray} {nL d : Nat} {K : KT} (hK : Cl X own cc nL d K) {g : Mem} {pc : Nat} {vs : Lv} {st : List Value} {o n q m2 : Nat} {r : Nat → Nat} {f : Nat → Int64} {i : Int32} (hd : decode cc pc = .ok (.aastore, 1)) (ho : o < 147) (hg : g o = aRJ X n r) (hi : vp_in i n) (hq : q < 147) (hf : g q = aJ X m2 f) (h : K (va_up g o (aRJ X n (va_up r i.toNatClampNeg q))) (pc + 1) vs st) : K g pc vs (rf X q :: .int i :: rf X o :: st) := hK.2.2.2.2.2.2.2.2.2.2.2.2.2.2.2.2.2.2.2.2.2.2.2.2.2.2.2.2.2.2.2.2.2.2.2.2.2.2.2.2.2.2.2.2.2.2.2.2.2.2.2.2.2.2.2.2.2.2.2.2.2.2.2.2.2.2.2.2.2.2.2.2.2.2.2.2.1 g pc vs st o n q m2 r f i hd ho hg hi hq hf h
theorem q_alen {X : Cx} {own : String} {cc : ByteArray} {nL d : Nat} {K : KT} (hK : Cl X own cc nL d K) {g : Mem} {pc : Nat} {vs : Lv} {st : List Value} {o : Nat} {cA : ClassId} {x : vp_A} {v : Int32} (t0 : Nat) {ty : FieldType} (hd : decode cc pc = .ok (.arraylength, 1)) (ho : o < 147) (hg : g o = .inl (cA, x)) (ht : (tysX X)[t0]? = some (cA, ty)) (hv : Int32.ofNat x.1 = v) (h : K g (pc + 1) vs (.int v :: st)) : K g pc vs (rf X o :: st) := hK.2.2.2.2.2.2.2.2.2.2.2.2.2.2.2.2.2.2.2.2.2.2.2.2.2.2.2.2.2.2.2.2.2.2.2.2.2.2.2.2.2.2.2.2.2.2.2.2.2.2.2.2.2.2.2.2.2.2.2.2.2.2.2.2.2.2.2.2.2.2.2.2.2.2.2.2.2.1 g pc vs st o cA x v t0 ty hd ho hg ht hv h
theorem q_callS {X : Cx} {own : String} {cc : ByteArray} {nL d : Nat} {K : KT} (hK : Cl X own cc nL d K) {g : Mem} {pc : Nat} {vs : Lv} {st : List Value} {idx n d1 : Nat} {y : MethodName} {as r : List Value} {Q : Option Value → Mem → Prop} (hd : decode cc pc = .ok (.invokestatic idx, 3)) (hL : SL own idx y n) (hn : as.length = n) (hr8 : (r.map fun v => v.category).sum ≤ 8) (hd1 : d1 + 1 ≤ d) (hC : CallM X d1 y as g Q) (hst : st = as.reverse ++ r) (h : ∀ v g9, Q v g9 → K g9 (pc + 3) vs (v.toList ++ r)) : K g pc vs (st) := hK.2.2.2.2.2.2.2.2.2.2.2.2.2.2.2.2.2.2.2.2.2.2.2.2.2.2.2.2.2.2.2.2.2.2.2.2.2.2.2.2.2.2.2.2.2.2.2.2.2.2.2.2.2.2.2.2.2.2.2.2.2.2.2.2.2.2.2.2.2.2.2.2.2.2.2.2.2.2.1 g pc vs st idx n d1 y as r Q hd hL hn hr8 hd1 hC hst h
theorem q_callV {X : Cx} {own : String} {cc : ByteArray} {nL d : Nat} {K : KT} (hK : Cl X own cc nL d K) {g : Mem} {pc : Nat} {vs : Lv} {st : List Value} {idx n d1 o ci : Nat} {y : MethodName} {as r fs : List Value} {Q : Option Value → Mem → Prop} (hd : decode cc pc = .ok (.invokevirtual idx, 3)) (hL : VL own idx y n ci) (ho : o < 147) (hg : g o = .inr (ci, fs)) (hn : as.length = n) (hr8 : (r.map fun v => v.category).sum ≤ 8) (hd1 : d1 + 1 ≤ d) (hC : CallM X d1 y (rf X o :: as) g Q) (hst : st = as.reverse ++ rf X o :: r) (h : ∀ v g9, Q v g9 → K g9 (pc + 3) vs (v.toList ++ r)) : K g pc vs (st) := hK.2.2.2.2.2.2.2.2.2.2.2.2.2.2.2.2.2.2.2.2.2.2.2.2.2.2.2.2.2.2.2.2.2.2.2.2.2.2.2.2.2.2.2.2.2.2.2.2.2.2.2.2.2.2.2.2.2.2.2.2.2.2.2.2.2.2.2.2.2.2.2.2.2.2.2.2.2.2.2.1 g pc vs st idx n d1 o ci y as r fs Q hd hL ho hg hn hr8 hd1 hC hst h
theorem q_copy {X : Cx} {own : String} {cc : ByteArray} {nL d : Nat} {K : KT} (hK : Cl X own cc nL d K) {g : Mem} {pc : Nat} {vs : Lv}  {idx q0 q1 n0 n1 : Nat} {f f1 : Nat → Int32} {sp dp n : Int32} (hd : decode cc pc = .ok (.invokestatic idx, 3)) (hL : ACL own idx) (hd1 : 1 ≤ d) (h0 : q0 < 147) (hg0 : g q0 = aI X n0 f) (h1 : q1 < 147) (hg1 : g q1 = aI X n1 f1) (z1 : ¬ sp < 0) (z2 : ¬ dp < 0) (z3 : ¬ n < 0) (z4 : sp.toNatClampNeg + n.toNatClampNeg ≤ n0) (z5 : dp.toNatClampNeg + n.toNatClampNeg ≤ n1) (h : K (va_up g q1 (aI X n1 (va_cpy f f1 sp.toNatClampNeg dp.toNatClampNeg n.toNatClampNeg))) (pc + 3) vs []) : K g pc vs (.int n :: .int dp :: rf X q1 :: .int sp :: rf X q0 :: []) := hK.2.2.2.2.2.2.2.2.2.2.2.2.2.2.2.2.2.2.2.2.2.2.2.2.2.2.2.2.2.2.2.2.2.2.2.2.2.2.2.2.2.2.2.2.2.2.2.2.2.2.2.2.2.2.2.2.2.2.2.2.2.2.2.2.2.2.2.2.2.2.2.2.2.2.2.2.2.2.2.2 g pc vs  idx q0 q1 n0 n1 f f1 sp dp n hd hL hd1 h0 hg0 h1 hg1 z1 z2 z3 z4 z5 h
section MS
variable {X : Cx} {p : Program} {e : Env} {R : Room} {s : State} {m : MethodId} {args : Array Value} {below : List Frame} {meth : Method} {c : Code} {cells slots nL d : Nat} {Qw : State → Prop} {own : String} {cc : ByteArray}
theorem s_iconst (F : Fx X p s m args c R cells slots own cc nL d) : r_iconst X own cc nL d (KX X p e R s m args below meth c cells slots nL Qw) := by
  intro g pc vs st n v hd hv h H locs ls hh hS hl
  exact lv_iconst F.1 F.2.1 hd hv (h H locs ls hh hS hl)
theorem s_bipush (F : Fx X p s m args c R cells slots own cc nL d) : r_bipush X own cc nL d (KX X p e R s m args below meth c cells slots nL Qw) := by
  intro g pc vs st n v hd hv h H locs ls hh hS hl
  exact lv_bipush F.1 F.2.1 hd hv (h H locs ls hh hS hl)
theorem s_sipush (F : Fx X p s m args c R cells slots own cc nL d) : r_sipush X own cc nL d (KX X p e R s m args below meth c cells slots nL Qw) := by
  intro g pc vs st n v hd hv h H locs ls hh hS hl
  exact lv_sipush F.1 F.2.1 hd hv (h H locs ls hh hS hl)
theorem s_lconst (F : Fx X p s m args c R cells slots own cc nL d) : r_lconst X own cc nL d (KX X p e R s m args below meth c cells slots nL Qw) := by
  intro g pc vs st n v hd hv h H locs ls hh hS hl
  exact lv_lconst F.1 F.2.1 hd hv (h H locs ls hh hS hl)
theorem s_ldc (F : Fx X p s m args c R cells slots own cc nL d) : r_ldc X own cc nL d (KX X p e R s m args below meth c cells slots nL Qw) := by
  intro g pc vs st i v hd hm h H locs ls hh hS hl
  exact lv_ldc F.1 F.2.1 F.2.2.2.1 (F.2.2.2.2.1 _ hm) hd (h H locs ls hh hS hl)
theorem s_ldcw (F : Fx X p s m args c R cells slots own cc nL d) : r_ldcw X own cc nL d (KX X p e R s m args below meth c cells slots nL Qw) := by
  intro g pc vs st i v hd hm h H locs ls hh hS hl
  exact lv_ldcw F.1 F.2.1 F.2.2.2.1 (F.2.2.2.2.1 _ hm) hd (h H locs ls hh hS hl)
theorem s_ldc2 (F : Fx X p s m args c R cells slots own cc nL d) : r_ldc2 X own cc nL d (KX X p e R s m args below meth c cells slots nL Qw) := by
  intro g pc vs st i v hd hm h H locs ls hh hS hl
  exact lv_ldc2 F.1 F.2.1 F.2.2.2.1 (F.2.2.2.2.1 _ hm) hd (h H locs ls hh hS hl)
theorem s_iload_n (F : Fx X p s m args c R cells slots own cc nL d) : r_iload_n X own cc nL d (KX X p e R s m args below meth c cells slots nL Qw) := by
  intro g pc vs st k i v hd hi hv h H locs ls hh hS hl
  exact lv_iload_n F.1 F.2.1 hd hi (lsh_at hl hv) (h H locs ls hh hS hl)
theorem s_iload (F : Fx X p s m args c R cells slots own cc nL d) : r_iload X own cc nL d (KX X p e R s m args below meth c cells slots nL Qw) := by
  intro g pc vs st i v hd hv h H locs ls hh hS hl
  exact lv_iload F.1 F.2.1 hd (lsh_at hl hv) (h H locs ls hh hS hl)
theorem s_istore_n (F : Fx X p s m args c R cells slots own cc nL d) : r_istore_n X own cc nL d (KX X p e R s m args below meth c cells slots nL Qw) := by
  intro g pc vs st k i v hd hi hn h H locs ls hh hS hl
  exact lv_istore_n F.1 F.2.1 hd hi hl hn rfl (fun ls2 hl2 => h H locs ls2 hh hS (lsh_set hl2))
theorem s_istore (F : Fx X p s m args c R cells slots own cc nL d) : r_istore X own cc nL d (KX X p e R s m args below meth c cells slots nL Qw) := by
  intro g pc vs st i v hd hn h H locs ls hh hS hl
  exact lv_istore F.1 F.2.1 hd hl hn rfl (fun ls2 hl2 => h H locs ls2 hh hS (lsh_set hl2))
theorem s_lload_n (F : Fx X p s m args c R cells slots own cc nL d) : r_lload_n X own cc nL d (KX X p e R s m args below meth c cells slots nL Qw) := by
  intro g pc vs st k i v hd hi hv h H locs ls hh hS hl
  exact lv_lload_n F.1 F.2.1 hd hi (lsh_at hl hv) (h H locs ls hh hS hl)
theorem s_lload (F : Fx X p s m args c R cells slots own cc nL d) : r_lload X own cc nL d (KX X p e R s m args below meth c cells slots nL Qw) := by
  intro g pc vs st i v hd hv h H locs ls hh hS hl
  exact lv_lload F.1 F.2.1 hd (lsh_at hl hv) (h H locs ls hh hS hl)
theorem s_lstore_n (F : Fx X p s m args c R cells slots own cc nL d) : r_lstore_n X own cc nL d (KX X p e R s m args below meth c cells slots nL Qw) := by
  intro g pc vs st k i v hd hi hn h H locs ls hh hS hl
  exact lv_lstore_n F.1 F.2.1 hd hi hl hn rfl (fun ls2 hl2 => h H locs ls2 hh hS (lsh_set2 hl2))
theorem s_lstore (F : Fx X p s m args c R cells slots own cc nL d) : r_lstore X own cc nL d (KX X p e R s m args below meth c cells slots nL Qw) := by
  intro g pc vs st i v hd hn h H locs ls hh hS hl
  exact lv_lstore F.1 F.2.1 hd hl hn rfl (fun ls2 hl2 => h H locs ls2 hh hS (lsh_set2 hl2))
theorem s_aload_n (F : Fx X p s m args c R cells slots own cc nL d) : r_aload_n X own cc nL d (KX X p e R s m args below meth c cells slots nL Qw) := by
  intro g pc vs st k i v hd hi hv h H locs ls hh hS hl
  exact lv_aload_n F.1 F.2.1 hd hi (lsh_at hl hv) (h H locs ls hh hS hl)
theorem s_aload (F : Fx X p s m args c R cells slots own cc nL d) : r_aload X own cc nL d (KX X p e R s m args below meth c cells slots nL Qw) := by
  intro g pc vs st i v hd hv h H locs ls hh hS hl
  exact lv_aload F.1 F.2.1 hd (lsh_at hl hv) (h H locs ls hh hS hl)
theorem s_astore_n (F : Fx X p s m args c R cells slots own cc nL d) : r_astore_n X own cc nL d (KX X p e R s m args below meth c cells slots nL Qw) := by
  intro g pc vs st k i v hd hi hn h H locs ls hh hS hl
  exact lv_astore_n F.1 F.2.1 hd hi hl hn rfl (fun ls2 hl2 => h H locs ls2 hh hS (lsh_set hl2))
theorem s_astore (F : Fx X p s m args c R cells slots own cc nL d) : r_astore X own cc nL d (KX X p e R s m args below meth c cells slots nL Qw) := by
  intro g pc vs st i v hd hn h H locs ls hh hS hl
  exact lv_astore F.1 F.2.1 hd hl hn rfl (fun ls2 hl2 => h H locs ls2 hh hS (lsh_set hl2))
theorem s_iinc (F : Fx X p s m args c R cells slots own cc nL d) : r_iinc X own cc nL d (KX X p e R s m args below meth c cells slots nL Qw) := by
  intro g pc vs st i n x v hd hx hv hn h H locs ls hh hS hl
  obtain ⟨k, hk⟩ := List.getElem?_of_mem (mem_asc vs 0 i _ hx)
  rw [Nat.zero_add] at hk
  exact lv_iinc F.1 F.2.1 hd hl hk hv hn rfl (fun ls2 hl2 => h H locs ls2 hh hS (lsh_set hl2))
theorem s_iadd (F : Fx X p s m args c R cells slots own cc nL d) : r_iadd X own cc nL d (KX X p e R s m args below meth c cells slots nL Qw) := by
  intro g pc vs st x y hd h H locs ls hh hS hl
  exact lv_iadd F.1 F.2.1 hd  (h H locs ls hh hS hl)
theorem s_isub (F : Fx X p s m args c R cells slots own cc nL d) : r_isub X own cc nL d (KX X p e R s m args below meth c cells slots nL Qw) := by
  intro g pc vs st x y hd h H locs ls hh hS hl
  exact lv_isub F.1 F.2.1 hd  (h H locs ls hh hS hl)
theorem s_imul (F : Fx X p s m args c R cells slots own cc nL d) : r_imul X own cc nL d (KX X p e R s m args below meth c cells slots nL Qw) := by
  intro g pc vs st x y hd h H locs ls hh hS hl
  exact lv_imul F.1 F.2.1 hd  (h H locs ls hh hS hl)
theorem s_iand (F : Fx X p s m args c R cells slots own cc nL d) : r_iand X own cc nL d (KX X p e R s m args below meth c cells slots nL Qw) := by
  intro g pc vs st x y hd h H locs ls hh hS hl
  exact lv_iand F.1 F.2.1 hd  (h H locs ls hh hS hl)
theorem s_ixor (F : Fx X p s m args c R cells slots own cc nL d) : r_ixor X own cc nL d (KX X p e R s m args below meth c cells slots nL Qw) := by
  intro g pc vs st x y hd h H locs ls hh hS hl
  exact lv_ixor F.1 F.2.1 hd  (h H locs ls hh hS hl)
theorem s_idiv (F : Fx X p s m args c R cells slots own cc nL d) : r_idiv X own cc nL d (KX X p e R s m args below meth c cells slots nL Qw) := by
  intro g pc vs st x y hd hne h H locs ls hh hS hl
  exact lv_idiv F.1 F.2.1 hd hne (h H locs ls hh hS hl)
theorem s_irem (F : Fx X p s m args c R cells slots own cc nL d) : r_irem X own cc nL d (KX X p e R s m args below meth c cells slots nL Qw) := by
  intro g pc vs st x y hd hne h H locs ls hh hS hl
  exact lv_irem F.1 F.2.1 hd hne (h H locs ls hh hS hl)
theorem s_ineg (F : Fx X p s m args c R cells slots own cc nL d) : r_ineg X own cc nL d (KX X p e R s m args below meth c cells slots nL Qw) := by
  intro g pc vs st x hd h H locs ls hh hS hl
  exact lv_ineg F.1 F.2.1 hd  (h H locs ls hh hS hl)
theorem s_ladd (F : Fx X p s m args c R cells slots own cc nL d) : r_ladd X own cc nL d (KX X p e R s m args below meth c cells slots nL Qw) := by
  intro g pc vs st x y hd h H locs ls hh hS hl
  exact lv_ladd F.1 F.2.1 hd  (h H locs ls hh hS hl)
theorem s_lsub (F : Fx X p s m args c R cells slots own cc nL d) : r_lsub X own cc nL d (KX X p e R s m args below meth c cells slots nL Qw) := by
  intro g pc vs st x y hd h H locs ls hh hS hl
  exact lv_lsub F.1 F.2.1 hd  (h H locs ls hh hS hl)
theorem s_lmul (F : Fx X p s m args c R cells slots own cc nL d) : r_lmul X own cc nL d (KX X p e R s m args below meth c cells slots nL Qw) := by
  intro g pc vs st x y hd h H locs ls hh hS hl
  exact lv_lmul F.1 F.2.1 hd  (h H locs ls hh hS hl)
theorem s_ldiv (F : Fx X p s m args c R cells slots own cc nL d) : r_ldiv X own cc nL d (KX X p e R s m args below meth c cells slots nL Qw) := by
  intro g pc vs st x y hd hne h H locs ls hh hS hl
  exact lv_ldiv F.1 F.2.1 hd hne (h H locs ls hh hS hl)
theorem s_lrem (F : Fx X p s m args c R cells slots own cc nL d) : r_lrem X own cc nL d (KX X p e R s m args below meth c cells slots nL Qw) := by
  intro g pc vs st x y hd hne h H locs ls hh hS hl
  exact lv_lrem F.1 F.2.1 hd hne (h H locs ls hh hS hl)
theorem s_lneg (F : Fx X p s m args c R cells slots own cc nL d) : r_lneg X own cc nL d (KX X p e R s m args below meth c cells slots nL Qw) := by
  intro g pc vs st x hd h H locs ls hh hS hl
  exact lv_lneg F.1 F.2.1 hd  (h H locs ls hh hS hl)
theorem s_ishl (F : Fx X p s m args c R cells slots own cc nL d) : r_ishl X own cc nL d (KX X p e R s m args below meth c cells slots nL Qw) := by
  intro g pc vs st x y hd h H locs ls hh hS hl
  exact lv_ishl F.1 F.2.1 hd  (h H locs ls hh hS hl)
theorem s_ishr (F : Fx X p s m args c R cells slots own cc nL d) : r_ishr X own cc nL d (KX X p e R s m args below meth c cells slots nL Qw) := by
  intro g pc vs st x y hd h H locs ls hh hS hl
  exact lv_ishr F.1 F.2.1 hd  (h H locs ls hh hS hl)
theorem s_iushr (F : Fx X p s m args c R cells slots own cc nL d) : r_iushr X own cc nL d (KX X p e R s m args below meth c cells slots nL Qw) := by
  intro g pc vs st x y v hd hv h H locs ls hh hS hl
  exact lv_iushr F.1 F.2.1 hd hv (h H locs ls hh hS hl)
theorem s_i2l (F : Fx X p s m args c R cells slots own cc nL d) : r_i2l X own cc nL d (KX X p e R s m args below meth c cells slots nL Qw) := by
  intro g pc vs st x hd h H locs ls hh hS hl
  exact lv_i2l F.1 F.2.1 hd rfl (h H locs ls hh hS hl)
theorem s_l2i (F : Fx X p s m args c R cells slots own cc nL d) : r_l2i X own cc nL d (KX X p e R s m args below meth c cells slots nL Qw) := by
  intro g pc vs st x hd h H locs ls hh hS hl
  exact lv_l2i F.1 F.2.1 hd rfl (h H locs ls hh hS hl)
theorem s_i2b (F : Fx X p s m args c R cells slots own cc nL d) : r_i2b X own cc nL d (KX X p e R s m args below meth c cells slots nL Qw) := by
  intro g pc vs st x hd h H locs ls hh hS hl
  exact lv_i2b F.1 F.2.1 hd rfl (h H locs ls hh hS hl)
theorem s_lcmp (F : Fx X p s m args c R cells slots own cc nL d) : r_lcmp X own cc nL d (KX X p e R s m args below meth c cells slots nL Qw) := by
  intro g pc vs st x y hd h H locs ls hh hS hl
  exact W.lcmp F.1 F.2.1 hd  (h H locs ls hh hS hl)
theorem s_dup (F : Fx X p s m args c R cells slots own cc nL d) : r_dup X own cc nL d (KX X p e R s m args below meth c cells slots nL Qw) := by
  intro g pc vs st a hd ha h H locs ls hh hS hl
  exact lv_dup F.1 F.2.1 hd ha (h H locs ls hh hS hl)
theorem s_pop (F : Fx X p s m args c R cells slots own cc nL d) : r_pop X own cc nL d (KX X p e R s m args below meth c cells slots nL Qw) := by
  intro g pc vs st a hd ha h H locs ls hh hS hl
  exact lv_pop F.1 F.2.1 hd ha (h H locs ls hh hS hl)
theorem s_dup2 (F : Fx X p s m args c R cells slots own cc nL d) : r_dup2 X own cc nL d (KX X p e R s m args below meth c cells slots nL Qw) := by
  intro g pc vs st a b hd ha hb h H locs ls hh hS hl
  exact lv_dup2_11 F.1 F.2.1 hd ha hb (h H locs ls hh hS hl)
theorem s_if_eq (F : Fx X p s m args c R cells slots own cc nL d) : r_if_eq X own cc nL d (KX X p e R s m args below meth c cells slots nL Qw) := by
  intro g pc vs st x off tgt hd ht h h2 H locs ls hh hS hl
  exact lv_if_eq F.1 F.2.1 hd ht (fun z => h z H locs ls hh hS hl) (fun z => h2 z H locs ls hh hS hl)
theorem s_icmp_eq (F : Fx X p s m args c R cells slots own cc nL d) : r_icmp_eq X own cc nL d (KX X p e R s m args below meth c cells slots nL Qw) := by
  intro g pc vs st x y off tgt hd ht h h2 H locs ls hh hS hl
  exact lv_icmp_eq F.1 F.2.1 hd ht (fun z => h z H locs ls hh hS hl) (fun z => h2 z H locs ls hh hS hl)
theorem s_if_ne (F : Fx X p s m args c R cells slots own cc nL d) : r_if_ne X own cc nL d (KX X p e R s m args below meth c cells slots nL Qw) := by
  intro g pc vs st x off tgt hd ht h h2 H locs ls hh hS hl
  exact lv_if_ne F.1 F.2.1 hd ht (fun z => h z H locs ls hh hS hl) (fun z => h2 z H locs ls hh hS hl)
theorem s_icmp_ne (F : Fx X p s m args c R cells slots own cc nL d) : r_icmp_ne X own cc nL d (KX X p e R s m args below meth c cells slots nL Qw) := by
  intro g pc vs st x y off tgt hd ht h h2 H locs ls hh hS hl
  exact lv_icmp_ne F.1 F.2.1 hd ht (fun z => h z H locs ls hh hS hl) (fun z => h2 z H locs ls hh hS hl)
theorem s_if_lt (F : Fx X p s m args c R cells slots own cc nL d) : r_if_lt X own cc nL d (KX X p e R s m args below meth c cells slots nL Qw) := by
  intro g pc vs st x off tgt hd ht h h2 H locs ls hh hS hl
  exact lv_if_lt F.1 F.2.1 hd ht (fun z => h z H locs ls hh hS hl) (fun z => h2 z H locs ls hh hS hl)
theorem s_icmp_lt (F : Fx X p s m args c R cells slots own cc nL d) : r_icmp_lt X own cc nL d (KX X p e R s m args below meth c cells slots nL Qw) := by
  intro g pc vs st x y off tgt hd ht h h2 H locs ls hh hS hl
  exact lv_icmp_lt F.1 F.2.1 hd ht (fun z => h z H locs ls hh hS hl) (fun z => h2 z H locs ls hh hS hl)
theorem s_if_ge (F : Fx X p s m args c R cells slots own cc nL d) : r_if_ge X own cc nL d (KX X p e R s m args below meth c cells slots nL Qw) := by
  intro g pc vs st x off tgt hd ht h h2 H locs ls hh hS hl
  exact lv_if_ge F.1 F.2.1 hd ht (fun z => h z H locs ls hh hS hl) (fun z => h2 z H locs ls hh hS hl)
theorem s_icmp_ge (F : Fx X p s m args c R cells slots own cc nL d) : r_icmp_ge X own cc nL d (KX X p e R s m args below meth c cells slots nL Qw) := by
  intro g pc vs st x y off tgt hd ht h h2 H locs ls hh hS hl
  exact lv_icmp_ge F.1 F.2.1 hd ht (fun z => h z H locs ls hh hS hl) (fun z => h2 z H locs ls hh hS hl)
theorem s_if_gt (F : Fx X p s m args c R cells slots own cc nL d) : r_if_gt X own cc nL d (KX X p e R s m args below meth c cells slots nL Qw) := by
  intro g pc vs st x off tgt hd ht h h2 H locs ls hh hS hl
  exact lv_if_gt F.1 F.2.1 hd ht (fun z => h z H locs ls hh hS hl) (fun z => h2 z H locs ls hh hS hl)
theorem s_icmp_gt (F : Fx X p s m args c R cells slots own cc nL d) : r_icmp_gt X own cc nL d (KX X p e R s m args below meth c cells slots nL Qw) := by
  intro g pc vs st x y off tgt hd ht h h2 H locs ls hh hS hl
  exact lv_icmp_gt F.1 F.2.1 hd ht (fun z => h z H locs ls hh hS hl) (fun z => h2 z H locs ls hh hS hl)
theorem s_if_le (F : Fx X p s m args c R cells slots own cc nL d) : r_if_le X own cc nL d (KX X p e R s m args below meth c cells slots nL Qw) := by
  intro g pc vs st x off tgt hd ht h h2 H locs ls hh hS hl
  exact lv_if_le F.1 F.2.1 hd ht (fun z => h z H locs ls hh hS hl) (fun z => h2 z H locs ls hh hS hl)
theorem s_icmp_le (F : Fx X p s m args c R cells slots own cc nL d) : r_icmp_le X own cc nL d (KX X p e R s m args below meth c cells slots nL Qw) := by
  intro g pc vs st x y off tgt hd ht h h2 H locs ls hh hS hl
  exact lv_icmp_le F.1 F.2.1 hd ht (fun z => h z H locs ls hh hS hl) (fun z => h2 z H locs ls hh hS hl)
theorem s_goto (F : Fx X p s m args c R cells slots own cc nL d) : r_goto X own cc nL d (KX X p e R s m args below meth c cells slots nL Qw) := by
  intro g pc vs st off tgt hd ht h H locs ls hh hS hl
  exact lv_goto F.1 F.2.1 hd ht (h H locs ls hh hS hl)
theorem s_tabO (F : Fx X p s m args c R cells slots own cc nL d) : r_tabO X own cc nL d (KX X p e R s m args below meth c cells slots nL Qw) := by
  intro g pc vs st dflt lo hi offs len x tgt hd hx ht h H locs ls hh hS hl
  exact lv_tableOut F.1 F.2.1 hd hx ht (h H locs ls hh hS hl)
theorem s_tabI (F : Fx X p s m args c R cells slots own cc nL d) : r_tabI X own cc nL d (KX X p e R s m args below meth c cells slots nL Qw) := by
  intro g pc vs st dflt lo hi offs len x off tgt hd h1 h3 ho ht h H locs ls hh hS hl
  exact lv_tableIn F.1 F.2.1 hd h1 h3 ho ht (h H locs ls hh hS hl)
theorem s_getf (F : Fx X p s m args c R cells slots own cc nL d) : r_getf X own cc nL d (KX X p e R s m args below meth c cells slots nL Qw) := by
  intro g pc vs st idx ci k o fs v hd hF ho hg hv h H locs ls hh hS hl
  obtain ⟨C, T, N, f1, f2, f3, f4⟩ := hF
  rcases f4 with f4 | ⟨z, f4⟩
  · exact va_get F.1 F.2.1 F.2.2.2.2.1 f3 F.2.2.2.1 F.2.2.2.2.2.2.1.1 (wdl_P hh) o (wdl_at ho hg) f1 k f2 (F.2.2.2.2.1 _ f4) (fun _ q => q) hv hd (h H locs ls hh hS hl)
  · exact va_getN F.1 F.2.1 F.2.2.2.2.1 f3 F.2.2.2.1 F.2.2.2.2.2.2.1.1 (wdl_P hh) o (wdl_at ho hg) f1 k f2 (va_Nw.use rfl (F.2.2.2.2.2.2.1.2.2 _ f4)) (fun _ q => q) hv hd (h H locs ls hh hS hl)
theorem s_putf (F : Fx X p s m args c R cells slots own cc nL d) : r_putf X own cc nL d (KX X p e R s m args below meth c cells slots nL Qw) := by
  intro g pc vs st idx ci k o fs v ty hd hF ho hg hn hf hk h H locs ls hh hS hl
  obtain ⟨C, T, N, ty0, f1, f2, f3, f5, f6, f7, f8, f4⟩ := hF
  rcases f4 with f4 | ⟨z, f4⟩
  · exact va_put F.1 F.2.1 F.2.2.2.2.1 f3 ty0 f5 f6 F.2.2.2.1 F.2.2.2.2.2.2.1.1 (wdl_P hh) (wdl_D F.2.2.2.2.2.1) hS o (wdl_at ho hg) f1 k f2 (F.2.2.2.2.1 _ f4) (fun _ q => q) f7 f8 hn hf hk hd (fun H1 locs1 hP1 _ hS1 => h H1 locs1 ls (hld_of ho hP1) hS1 hl)
  · exact va_putN F.1 F.2.1 F.2.2.2.2.1 f3 ty0 f5 f6 F.2.2.2.1 F.2.2.2.2.2.2.1.1 (wdl_P hh) (wdl_D F.2.2.2.2.2.1) hS o (wdl_at ho hg) f1 k f2 (va_Nw.use rfl (F.2.2.2.2.2.2.1.2.2 _ f4)) (fun _ q => q) f7 f8 hn hf hk hd (fun H1 locs1 hP1 _ hS1 => h H1 locs1 ls (hld_of ho hP1) hS1 hl)
theorem s_getsP (F : Fx X p s m args c R cells slots own cc nL d) : r_getsP X own cc nL d (KX X p e R s m args below meth c cells slots nL Qw) := by
  intro g pc vs st idx host hd hF h H locs ls hh hS hl
  exact va_getsN F.1 F.2.1 F.2.2.2.2.2.2.2.1.1 hS F.2.2.2.1 (va_Nw.use rfl (F.2.2.2.2.2.2.1.2.2 _ hF)) (fun _ q => q) hd (h H locs ls hh hS hl)
theorem s_getsL (F : Fx X p s m args c R cells slots own cc nL d) : r_getsL X own cc nL d (KX X p e R s m args below meth c cells slots nL Qw) := by
  intro g pc vs st idx hd hF h H locs ls hh hS hl
  exact va_gets F.1 F.2.1 F.2.2.2.2.2.2.2.1.2.2.1 hS F.2.2.2.1 (F.2.2.2.2.1 _ hF) (fun _ q => q) hd (h H locs ls hh hS hl)
theorem s_ialdP (F : Fx X p s m args c R cells slots own cc nL d) : r_ialdP X own cc nL d (KX X p e R s m args below meth c cells slots nL Qw) := by
  intro g pc vs st i hd hi h H locs ls hh hS hl
  exact va_ti F.1 F.2.1 F.2.2.2.2.2.2.2.1.2.1 hS hi rfl hd (h H locs ls hh hS hl)
theorem s_laldL (F : Fx X p s m args c R cells slots own cc nL d) : r_laldL X own cc nL d (KX X p e R s m args below meth c cells slots nL Qw) := by
  intro g pc vs st i hd hi h H locs ls hh hS hl
  exact va_tl F.1 F.2.1 F.2.2.2.2.2.2.2.1.2.2.2 hS hi rfl hd (h H locs ls hh hS hl)
theorem s_iald (F : Fx X p s m args c R cells slots own cc nL d) : r_iald X own cc nL d (KX X p e R s m args below meth c cells slots nL Qw) := by
  intro g pc vs st o n f i hd ho hg hi h H locs ls hh hS hl
  exact va_iald F.1 F.2.1 F.2.2.2.2.2.2.1.1 (wdl_P hh) o 0 (wdl_at ho hg) rfl hi hd (h H locs ls hh hS hl)
theorem s_lald (F : Fx X p s m args c R cells slots own cc nL d) : r_lald X own cc nL d (KX X p e R s m args below meth c cells slots nL Qw) := by
  intro g pc vs st o n f i hd ho hg hi h H locs ls hh hS hl
  exact va_lald F.1 F.2.1 F.2.2.2.2.2.2.1.1 (wdl_P hh) o 1 (wdl_at ho hg) rfl hi hd (h H locs ls hh hS hl)
theorem s_bald (F : Fx X p s m args c R cells slots own cc nL d) : r_bald X own cc nL d (KX X p e R s m args below meth c cells slots nL Qw) := by
  intro g pc vs st o n f i hd ho hg hi h H locs ls hh hS hl
  exact va_bald F.1 F.2.1 F.2.2.2.2.2.2.1.1 (wdl_P hh) o 2 (wdl_at ho hg) rfl hi hd (h H locs ls hh hS hl)
theorem s_zald (F : Fx X p s m args c R cells slots own cc nL d) : r_zald X own cc nL d (KX X p e R s m args below meth c cells slots nL Qw) := by
  intro g pc vs st o n f i hd ho hg hi h H locs ls hh hS hl
  exact va_zald F.1 F.2.1 F.2.2.2.2.2.2.1.1 (wdl_P hh) o 3 (wdl_at ho hg) rfl hi hd (h H locs ls hh hS hl)
theorem s_aaldI (F : Fx X p s m args c R cells slots own cc nL d) : r_aaldI X own cc nL d (KX X p e R s m args below meth c cells slots nL Qw) := by
  intro g pc vs st o n r i hd ho hg hi h H locs ls hh hS hl
  have hlt : i.toNatClampNeg < n := Nat.not_le.mp fun q => hi (Or.inr q)
  exact W.aald (v := .ref (X.2.2.1 (r i.toNatClampNeg))) (ty := .array .int) F.1 F.2.1 (wdl_P hh o _ (wdl_at ho hg)) ((F.2.2.2.2.2.2.1.1.2 4 _ rfl).1 n (fun j => va_rf (some (X.2.2.1 (r j))))) rfl (fun q => by cases q) (by show ¬ (i < 0 ∨ (arrV _ _ _).slots.size ≤ _); rw [arrV_size]; exact hi) (by show (arrV _ _ _).slots[_]? = _; rw [arrV_read _ _ hlt]; rfl) rfl rfl hd (h H locs ls hh hS hl)
theorem s_aaldJ (F : Fx X p s m args c R cells slots own cc nL d) : r_aaldJ X own cc nL d (KX X p e R s m args below meth c cells slots nL Qw) := by
  intro g pc vs st o n r i hd ho hg hi h H locs ls hh hS hl
  have hlt : i.toNatClampNeg < n := Nat.not_le.mp fun q => hi (Or.inr q)
  exact W.aald (v := .ref (X.2.2.1 (r i.toNatClampNeg))) (ty := .array .long) F.1 F.2.1 (wdl_P hh o _ (wdl_at ho hg)) ((F.2.2.2.2.2.2.1.1.2 5 _ rfl).1 n (fun j => va_rf (some (X.2.2.1 (r j))))) rfl (fun q => by cases q) (by show ¬ (i < 0 ∨ (arrV _ _ _).slots.size ≤ _); rw [arrV_size]; exact hi) (by show (arrV _ _ _).slots[_]? = _; rw [arrV_read _ _ hlt]; rfl) rfl rfl hd (h H locs ls hh hS hl)
theorem s_iast (F : Fx X p s m args c R cells slots own cc nL d) : r_iast X own cc nL d (KX X p e R s m args below meth c cells slots nL Qw) := by
  intro g pc vs st o n f i x hd ho hg hi h H locs ls hh hS hl
  exact va_iast F.1 F.2.1 F.2.2.2.2.2.2.1.1 (wdl_P hh) (wdl_D F.2.2.2.2.2.1) hS o 0 (wdl_at ho hg) rfl hi hd (fun H1 locs1 hP1 _ hS1 => h H1 locs1 ls (hld_of ho hP1) hS1 hl)
theorem s_last (F : Fx X p s m args c R cells slots own cc nL d) : r_last X own cc nL d (KX X p e R s m args below meth c cells slots nL Qw) := by
  intro g pc vs st o n f i x hd ho hg hi h H locs ls hh hS hl
  exact va_last F.1 F.2.1 F.2.2.2.2.2.2.1.1 (wdl_P hh) (wdl_D F.2.2.2.2.2.1) hS o 1 (wdl_at ho hg) rfl hi hd (fun H1 locs1 hP1 _ hS1 => h H1 locs1 ls (hld_of ho hP1) hS1 hl)
theorem s_bast (F : Fx X p s m args c R cells slots own cc nL d) : r_bast X own cc nL d (KX X p e R s m args below meth c cells slots nL Qw) := by
  intro g pc vs st o n f i x hd ho hg hi h H locs ls hh hS hl
  exact va_bast F.1 F.2.1 F.2.2.2.2.2.2.1.1 (wdl_P hh) (wdl_D F.2.2.2.2.2.1) hS o 2 (wdl_at ho hg) rfl hi hd (fun H1 locs1 hP1 _ hS1 => h H1 locs1 ls (hld_of ho hP1) hS1 hl)
theorem s_zast (F : Fx X p s m args c R cells slots own cc nL d) : r_zast X own cc nL d (KX X p e R s m args below meth c cells slots nL Qw) := by
  intro g pc vs st o n f i x hd ho hg hi h H locs ls hh hS hl
  exact va_zast F.1 F.2.1 F.2.2.2.2.2.2.1.1 (wdl_P hh) (wdl_D F.2.2.2.2.2.1) hS o 3 (wdl_at ho hg) rfl hi hd (fun H1 locs1 hP1 _ hS1 => h H1 locs1 ls (hld_of ho hP1) hS1 hl)
theorem s_aastI (F : Fx X p s m args c R cells slots own cc nL d) : r_aastI X own cc nL d (KX X p e R s m args below meth c cells slots nL Qw) := by
  intro g pc vs st o n q m2 r f i hd ho hg hi hq hf h H locs ls hh hS hl
  have hlt : i.toNatClampNeg < n := Nat.not_le.mp fun q => hi (Or.inr q)
  have h0 : ¬ i < 0 := fun q => hi (Or.inl q)
  obtain ⟨k, kc, e1, e2, e3⟩ := F.2.2.2.2.2.2.1.2.1.1
  refine W.aast F.1 F.2.1 (wdl_P hh o _ (wdl_at ho hg)) (fun q h => by cases h) (fun h => by cases h) e1 e2 rfl e3 ⟨h0, by show _ < (arrV _ _ _).slots.size; rw [arrV_size]; exact hlt⟩ (wdl_P hh q _ (wdl_at hq hf)) (fun q h => by cases h) e3 (asg_rf _ _) rfl rfl hd fun H1 e z oq => ?_
  refine h H1 _ ls (hld_set hh F.2.2.2.2.2.1 ho ?_ oq) (hS.put z oq ⟨o, ho, rfl⟩) hl
  show H1[_]? = some (vp_cell _ _)
  rw [e, vp_cell_q, vp_cell_q, arrV_store]
  congr 2
  funext j
  by_cases hj : j = i.toNatClampNeg
  · subst hj
    simp [updV, va_up, va_rf]
  · simp [updV, va_up, hj, va_rf]
theorem s_aastJ (F : Fx X p s m args c R cells slots own cc nL d) : r_aastJ X own cc nL d (KX X p e R s m args below meth c cells slots nL Qw) := by
  intro g pc vs st o n q m2 r f i hd ho hg hi hq hf h H locs ls hh hS hl
  have hlt : i.toNatClampNeg < n := Nat.not_le.mp fun q => hi (Or.inr q)
  have h0 : ¬ i < 0 := fun q => hi (Or.inl q)
  obtain ⟨k, kc, e1, e2, e3⟩ := F.2.2.2.2.2.2.1.2.1.2
  refine W.aast F.1 F.2.1 (wdl_P hh o _ (wdl_at ho hg)) (fun q h => by cases h) (fun h => by cases h) e1 e2 rfl e3 ⟨h0, by show _ < (arrV _ _ _).slots.size; rw [arrV_size]; exact hlt⟩ (wdl_P hh q _ (wdl_at hq hf)) (fun q h => by cases h) e3 (asg_rf _ _) rfl rfl hd fun H1 e z oq => ?_
  refine h H1 _ ls (hld_set hh F.2.2.2.2.2.1 ho ?_ oq) (hS.put z oq ⟨o, ho, rfl⟩) hl
  show H1[_]? = some (vp_cell _ _)
  rw [e, vp_cell_q, vp_cell_q, arrV_store]
  congr 2
  funext j
  by_cases hj : j = i.toNatClampNeg
  · subst hj
    simp [updV, va_up, va_rf]
  · simp [updV, va_up, hj, va_rf]
theorem s_alen (F : Fx X p s m args c R cells slots own cc nL d) : r_alen X own cc nL d (KX X p e R s m args below meth c cells slots nL Qw) := by
  intro g pc vs st o cA x v t0 ty hd ho hg ht hv h H locs ls hh hS hl
  exact va_alen F.1 F.2.1 F.2.2.2.2.2.2.1.1 (wdl_P hh) o t0 (wdl_at ho hg) ht hv hd (h H locs ls hh hS hl)
theorem s_callS (F : Fx X p s m args c R cells slots own cc nL d) : r_callS X own cc nL d (KX X p e R s m args below meth c cells slots nL Qw) := by
  intro g pc vs st idx n d1 y as r Q hd hL hn hr8 hd1 hC hst h H locs ls hh hS hl
  have hF' : ∀ q, inA X q → inA X q := fun _ q => q
  obtain ⟨bytes, n9, ret9, c1, c2, hM⟩ := hC
  have hPre : ∀ U : State, U.heap = H → s.WarmedH U.vm → va_Pc (as) (PreX X g) (as).toArray U := fun U hU hW => ⟨rfl, F.2.2.2.2.2.1, F.2.2.2.2.2.2.1.warm hW, F.2.2.2.2.2.2.2.1.moved hW.alike (by rw [hU]; exact fun a h1 h2 => hS.2.1 a h1 h2), by rw [hU]; exact hh⟩
  have hR : (rmd d1).frames + 1 ≤ R.frames ∧ 8 + (n9 + 11) + (rmd d1).locals ≤ R.locals := ⟨Nat.le_trans hd1 F.2.2.2.2.2.2.2.2.1, by have := F.2.2.2.2.2.2.2.2.2.1; show 8 + (n9 + 11) + 38 * d1 ≤ R.locals; omega⟩
  obtain ⟨l1, l2, l3, l4⟩ := hL
  have hr : va_Run p X.1 e R s m args below meth c H locs cells slots 0 0 (F0 m pc ls st) r (Qcc X Q as.toArray) (inA X) := by
    rcases l1 with l1 | ⟨z, l1⟩
    · exact va_runS ⟨F.1, F.2.1, F.2.2.1, F.2.2.2.1, F.2.2.2.2.1⟩ hM ⟨callB_of n F.2.2.2.2.1 (gtb_in c1) rfl rfl rfl (F.2.2.2.2.1 _ l3) (F.2.2.2.2.1 _ l1) l4 hR, F.2.2.2.2.1 _ l2⟩ ⟨PreX.blind, hPre⟩ rfl hn hl.1 hst (lv_room hr8) hd ⟨F.2.2.2.2.2.2.2.2.2.2.1, F.2.2.2.2.2.2.2.2.2.2.2⟩
    · exact va_runSN ⟨F.1, F.2.1, F.2.2.1, F.2.2.2.1, F.2.2.2.2.1⟩ hM ⟨va_cnB n F.2.2.2.2.1 (gtb_in c1) rfl rfl rfl (F.2.2.2.2.2.2.1.2.2 _ l1) (F.2.2.2.2.1 _ l3) l4 hR, F.2.2.2.2.1 _ l2, trivial⟩ ⟨PreX.blind, hPre⟩ rfl hn hl.1 hst (lv_room hr8) hd ⟨F.2.2.2.2.2.2.2.2.2.2.1, F.2.2.2.2.2.2.2.2.2.2.2⟩
  intro T hT Xs
  obtain ⟨v, st₀, t, T', L, k0, X', hL, e1, e2, ⟨⟨r9, g9, k1, k2, k3⟩, hz, hk⟩, stp⟩ := hr T hT Xs
  cases k1
  rw [k0] at hz hk
  obtain ⟨t2, a1, b1⟩ := h v g9 k2 T'.heap (locs ++ L) ls (by rw [e1]; exact k3) ⟨Nat.le_trans hS.1 (by rw [e1]; exact hz), fun q h1 h2 => by rw [e1, hk q (Nat.lt_of_lt_of_le h1 hS.1) h2]; exact hS.2.1 q h1 h2, fun q hq => by
      rcases List.mem_append.mp hq with h | h
      · exact hS.2.2 q h
      · exact hL q h⟩ hl T' rfl X'
  exact ⟨t2, stp t2 a1, b1⟩
theorem s_callV (F : Fx X p s m args c R cells slots own cc nL d) : r_callV X own cc nL d (KX X p e R s m args below meth c cells slots nL Qw) := by
  intro g pc vs st idx n d1 o ci y as r fs Q hd hL ho hg hn hr8 hd1 hC hst h H locs ls hh hS hl
  have hF' : ∀ q, inA X q → inA X q := fun _ q => q
  obtain ⟨bytes, n9, ret9, c1, c2, hM⟩ := hC
  have hPre : ∀ U : State, U.heap = H → s.WarmedH U.vm → va_Pc (rf X o :: as) (PreX X g) (rf X o :: as).toArray U := fun U hU hW => ⟨rfl, F.2.2.2.2.2.1, F.2.2.2.2.2.2.1.warm hW, F.2.2.2.2.2.2.2.1.moved hW.alike (by rw [hU]; exact fun a h1 h2 => hS.2.1 a h1 h2), by rw [hU]; exact hh⟩
  have hR : (rmd d1).frames + 1 ≤ R.frames ∧ 8 + (n9 + 11) + (rmd d1).locals ≤ R.locals := ⟨Nat.le_trans hd1 F.2.2.2.2.2.2.2.2.1, by have := F.2.2.2.2.2.2.2.2.2.1; show 8 + (n9 + 11) + 38 * d1 ≤ R.locals; omega⟩
  obtain ⟨l1, l2, l3, l5, l4, T0, N0, l6⟩ := hL
  have hr : va_Run p X.1 e R s m args below meth c H locs cells slots 0 0 (F0 m pc ls st) r (Qcc X Q (rf X o :: as).toArray) (inA X) :=
    va_runV ⟨F.1, F.2.1, F.2.2.1, F.2.2.2.1, F.2.2.2.2.1⟩ hM ⟨callB_of n F.2.2.2.2.1 (gtb_in c1) rfl rfl rfl (F.2.2.2.2.1 _ l5) (F.2.2.2.2.1 _ l1) l4 hR, F.2.2.2.2.1 _ l2, F.2.2.2.2.1 _ l3⟩ ⟨PreX.blind, va_recv F.2.2.2.2.2.2.1.1 (wdl_P hh) l6 (wdl_at ho hg), hPre⟩ rfl hn hl.1 hst (lv_room hr8) hd ⟨F.2.2.2.2.2.2.2.2.2.2.1, F.2.2.2.2.2.2.2.2.2.2.2⟩
  intro T hT Xs
  obtain ⟨v, st₀, t, T', L, k0, X', hL, e1, e2, ⟨⟨r9, g9, k1, k2, k3⟩, hz, hk⟩, stp⟩ := hr T hT Xs
  cases k1
  rw [k0] at hz hk
  obtain ⟨t2, a1, b1⟩ := h v g9 k2 T'.heap (locs ++ L) ls (by rw [e1]; exact k3) ⟨Nat.le_trans hS.1 (by rw [e1]; exact hz), fun q h1 h2 => by rw [e1, hk q (Nat.lt_of_lt_of_le h1 hS.1) h2]; exact hS.2.1 q h1 h2, fun q hq => by
      rcases List.mem_append.mp hq with h | h
      · exact hS.2.2 q h
      · exact hL q h⟩ hl T' rfl X'
  exact ⟨t2, stp t2 a1, b1⟩
theorem s_copy (F : Fx X p s m args c R cells slots own cc nL d) : r_copy X own cc nL d (KX X p e R s m args below meth c cells slots nL Qw) := by
  intro g pc vs  idx q0 q1 n0 n1 f f1 sp dp n hd hL hd1 h0 hg0 h1 hg1 z1 z2 z3 z4 z5 h H locs ls hh hS hl
  have w1 := F.2.2.2.2.2.2.2.2.1
  have w2 := F.2.2.2.2.2.2.2.2.2.1
  exact va_copyi F.1 F.2.1 (F.2.2.1.trans hl.1.symm) F.2.2.2.1 (F.2.2.2.2.1 _ hL.1) (F.2.2.2.2.1 _ hL.2.1) (F.2.2.2.2.1 _ hL.2.2.1) (F.2.2.2.2.1 _ hL.2.2.2) F.2.2.2.2.2.2.1.1 (wdl_P hh) (wdl_D F.2.2.2.2.2.1) hS q0 q1 0 0 (wdl_at h0 hg0) (wdl_at h1 hg1) rfl rfl rfl z1 z2 z3 z4 z5 (fun _ _ => rfl) (by omega) (Nat.le_trans (by show (0 : Nat) + (nativeFrameWords "java/lang/System" "arraycopy" 5 + 11) ≤ 38; decide) (Nat.le_trans (by omega : 38 ≤ 38 * d) w2)) hd (fun H1 locs1 hP1 _ hS1 => h H1 locs1 ls (hld_of h1 hP1) hS1 hl)
theorem cl_sound (F : Fx X p s m args c R cells slots own cc nL d) : Cl X own cc nL d (KX X p e R s m args below meth c cells slots nL Qw) := ⟨s_iconst F, s_bipush F, s_sipush F, s_lconst F, s_ldc F, s_ldcw F, s_ldc2 F, s_iload_n F, s_iload F, s_istore_n F, s_istore F, s_lload_n F, s_lload F, s_lstore_n F, s_lstore F, s_aload_n F, s_aload F, s_astore_n F, s_astore F, s_iinc F, s_iadd F, s_isub F, s_imul F, s_iand F, s_ixor F, s_idiv F, s_irem F, s_ineg F, s_ladd F, s_lsub F, s_lmul F, s_ldiv F, s_lrem F, s_lneg F, s_ishl F, s_ishr F, s_iushr F, s_i2l F, s_l2i F, s_i2b F, s_lcmp F, s_dup F, s_pop F, s_dup2 F, s_if_eq F, s_icmp_eq F, s_if_ne F, s_icmp_ne F, s_if_lt F, s_icmp_lt F, s_if_ge F, s_icmp_ge F, s_if_gt F, s_icmp_gt F, s_if_le F, s_icmp_le F, s_goto F, s_tabO F, s_tabI F, s_getf F, s_putf F, s_getsP F, s_getsL F, s_ialdP F, s_laldL F, s_iald F, s_lald F, s_bald F, s_zald F, s_aaldI F, s_aaldJ F, s_iast F, s_last F, s_bast F, s_zast F, s_aastI F, s_aastJ F, s_alen F, s_callS F, s_callV F, s_copy F⟩
end MS
