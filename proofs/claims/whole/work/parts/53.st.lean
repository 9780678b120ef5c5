-- ===== the law: its start
theorem ncL_7 : NC RL 7 6 10 [.null, .null, .null, .null, .null, .null, .null, .null, .int 0, .int 0] := ⟨RX8, TX8, tyX8, rfl, ingX8, tyX8_ok, (gtb_of (tb1 (List.mem_of_getElem? (i := 14) (by decide +kernel))) (by decide +kernel)), (gtb_of (tb1 (List.mem_of_getElem? (i := 15) (by decide +kernel))) (by decide +kernel)), (gtb_of (tb1 (List.mem_of_getElem? (i := 1) (by decide +kernel))) (by decide +kernel)), fun j hj => by rcases (show j = 0 ∨ j = 1 ∨ j = 2 ∨ j = 3 ∨ j = 4 ∨ j = 5 ∨ j = 6 ∨ j = 7 ∨ j = 8 ∨ j = 9 by omega) with rfl | rfl | rfl | rfl | rfl | rfl | rfl | rfl | rfl | rfl <;> rfl⟩
theorem ncL_10 : NC RL 10 7 25 [.int 0, .null, .null, .null, .null, .int 0, .int 0, .null, .null, .null, .null, .int 0, .null, .null, .int 0, .null, .null, .null, .int 0, .null, .null, .null, .int 0, .null, .null] := ⟨RX9, TX9, tyX9, rfl, ingX9, tyX9_ok, (gtb_of (tb3 (List.mem_of_getElem? (i := 119) (by decide +kernel))) (by decide +kernel)), (gtb_of (tb3 (List.mem_of_getElem? (i := 120) (by decide +kernel))) (by decide +kernel)), (gtb_of (tb1 (List.mem_of_getElem? (i := 8) (by decide +kernel))) (by decide +kernel)), fun j hj => by rcases (show j = 0 ∨ j = 1 ∨ j = 2 ∨ j = 3 ∨ j = 4 ∨ j = 5 ∨ j = 6 ∨ j = 7 ∨ j = 8 ∨ j = 9 ∨ j = 10 ∨ j = 11 ∨ j = 12 ∨ j = 13 ∨ j = 14 ∨ j = 15 ∨ j = 16 ∨ j = 17 ∨ j = 18 ∨ j = 19 ∨ j = 20 ∨ j = 21 ∨ j = 22 ∨ j = 23 ∨ j = 24 by omega) with rfl | rfl | rfl | rfl | rfl | rfl | rfl | rfl | rfl | rfl | rfl | rfl | rfl | rfl | rfl | rfl | rfl | rfl | rfl | rfl | rfl | rfl | rfl | rfl | rfl <;> rfl⟩
theorem iL_9 : IL RL 9 yX8_init 0 := ⟨(gtb_of (tb1 (List.mem_of_getElem? (i := 16) (by decide +kernel))) (by decide +kernel)), (gtb_of (tb1 (List.mem_of_getElem? (i := 17) (by decide +kernel))) (by decide +kernel)), (gtb_of (tb1 (List.mem_of_getElem? (i := 1) (by decide +kernel))) (by decide +kernel)), rfl, ⟨by decide +kernel, by decide +kernel, by decide +kernel⟩⟩
theorem iL_12 : IL RL 12 yX9_init 0 := ⟨(gtb_of (tb3 (List.mem_of_getElem? (i := 121) (by decide +kernel))) (by decide +kernel)), (gtb_of (tb3 (List.mem_of_getElem? (i := 122) (by decide +kernel))) (by decide +kernel)), (gtb_of (tb1 (List.mem_of_getElem? (i := 8) (by decide +kernel))) (by decide +kernel)), rfl, ⟨by decide +kernel, by decide +kernel, by decide +kernel⟩⟩
theorem st_cl {args : Array Value} {s : State} (hts : ∀ w ∈ lw_tbl, w.before args s = true) (c : Nat) : ∃ r : ClassId × (Nat → Nat), ∀ q : vw_C, vwCl[c]? = some q → u_Kn s q.1 q.2.1 q.2.2 r.1 r.2 := by
  have key : ∀ {own : String} {idx N : Nat} {fs : List Value}, NC own idx c N fs → ∃ r : ClassId × (Nat → Nat), ∀ q : vw_C, vwCl[c]? = some q → u_Kn s q.1 q.2.1 q.2.2 r.1 r.2 := by
    intro own idx N fs h
    obtain ⟨C, T, ty, h1, h2, h3, h4, h5, -⟩ := h
    obtain ⟨cC, iS, hu⟩ := u_known (C := C) (T := T) (N := N) (n := N) (ws := lw_tbl) (args := args) hts (fun w hw => (List.mem_filter.mp (h2 w hw)).1) (hts _ (List.mem_filter.mp h5).1)
    refine ⟨(cC, iS), fun q hq => ?_⟩
    have e : q = (C, T, N) := Option.some.inj (hq.symm.trans h1)
    subst e
    exact hu
  by_cases h : c < 8
  · have h1 : c = 0 ∨ c = 1 ∨ c = 2 ∨ c = 3 ∨ c = 4 ∨ c = 5 ∨ c = 6 ∨ c = 7 := by omega
    rcases h1 with rfl | rfl | rfl | rfl | rfl | rfl | rfl | rfl
    · exact key ncX8_33
    · exact key ncX8_49
    · exact key ncX7_9
    · exact key ncX6_28
    · exact key ncX8_40
    · exact key ncX8_26
    · exact key ncL_7
    · exact key ncL_10
  · refine ⟨((0 : Nat), fun _ => 0), fun q hq => ?_⟩
    have hl : c < vwCl.length := (List.getElem?_eq_some_iff.mp hq).1
    exact absurd hl (by simp; omega)
theorem st_ac {args : Array Value} {s : State} {ty : FieldType} (h : (Cond.arrayClass ty).before args s = true) : ∃ (c : ClassId) (k : Class) (comp : ClassId), s.vm.findClass ("[" ++ ty.toString) = some c ∧ s.vm.classes[c]? = some k ∧ k.kind = .array comp ty := Cond.arrayClass_spec h
theorem st_arr {s : State} {ty : FieldType} {cA comp : ClassId} {k : Class} (h2 : s.vm.classes[cA]? = some k) (h3 : k.kind = .array comp ty) : ArrOfT s cA ty := fun n z => ⟨fun k h => (by cases h), k, h2, comp, h3⟩
theorem start_X {args : Array Value} {s : State} (l : Launch) (hts : ∀ w ∈ lw_tbl, w.before args s = true) (hgv : (Jvm.Cond.and given_1 narrow_1).before args s = true) : ∃ X : Cx, X.1 = l ∧ adX X s.heap.size ∧ kyX X s ∧ staX X s s.heap := by
  obtain ⟨D, hD⟩ : ∃ D : Nat → ClassId × (Nat → Nat), ∀ (c : Nat) (q : vw_C), vwCl[c]? = some q → u_Kn s q.1 q.2.1 q.2.2 (D c).1 (D c).2 := ⟨fun c => Classical.choose (st_cl hts c), fun c => Classical.choose_spec (st_cl hts c)⟩
  obtain ⟨cI, kI, oI, i1, i2, i3⟩ := st_ac (hts (.arrayClass .int) (tb1 (List.mem_of_getElem? (i := 46) (by decide +kernel))))
  obtain ⟨cJ, kJ, oJ, j1, j2, j3⟩ := st_ac (hts (.arrayClass .long) (tb1 (List.mem_of_getElem? (i := 82) (by decide +kernel))))
  obtain ⟨cB, kB, oB, b1, b2, b3⟩ := st_ac (hts (.arrayClass .byte) (tb1 (List.mem_of_getElem? (i := 48) (by decide +kernel))))
  obtain ⟨cZ, kZ, oZ, z1, z2, z3⟩ := st_ac (hts (.arrayClass .boolean) (tb1 (List.mem_of_getElem? (i := 47) (by decide +kernel))))
  have aI := hts (.arrayOver (.array .int)) (tb1 (List.mem_of_getElem? (i := 23) (by decide +kernel)))
  have aJ := hts (.arrayOver (.array .long)) (tb1 (List.mem_of_getElem? (i := 67) (by decide +kernel)))
  obtain ⟨qI, cRI, kRI, r1, -, r2, r3, r4⟩ := arrayOverA_spec aI
  obtain ⟨qJ, cRJ, kRJ, t1, -, t2, t3, t4⟩ := arrayOverA_spec aJ
  have eI : qI = cI := Option.some.inj (r1.symm.trans i1)
  have eJ : qJ = cJ := Option.some.inj (t1.symm.trans j1)
  subst eI
  subst eJ
  have hs := flat_of_before _ hgv
  have hA : ∀ a : Nat, a < s.heap.size → ¬ s.heap.size ≤ a := fun a h => Nat.not_le.mpr h
  obtain ⟨tP, eP, hTP⟩ := va_Tof (args := args) (s := s) (tm := .static "TuneBench" "PRIMES" "[I") (ty := .int) (N := 6) (f := fun j => .int (prI j)) (A := fun q => s.heap.size ≤ q) (by decide) (hs _ (by decide +kernel)) (va_eqt (z := 6) (hs _ (by decide +kernel))) (fun j hj => by
    rcases (show j = 0 ∨ j = 1 ∨ j = 2 ∨ j = 3 ∨ j = 4 ∨ j = 5 by omega) with rfl | rfl | rfl | rfl | rfl | rfl
    · exact va_eqt (z := 2) (hs (.eq (.elem (.static "TuneBench" "PRIMES" "[I") (.int 0)) (.int 2)) (by decide +kernel))
    · exact va_eqt (z := 3) (hs (.eq (.elem (.static "TuneBench" "PRIMES" "[I") (.int 1)) (.int 3)) (by decide +kernel))
    · exact va_eqt (z := 5) (hs (.eq (.elem (.static "TuneBench" "PRIMES" "[I") (.int 2)) (.int 5)) (by decide +kernel))
    · exact va_eqt (z := 7) (hs (.eq (.elem (.static "TuneBench" "PRIMES" "[I") (.int 3)) (.int 7)) (by decide +kernel))
    · exact va_eqt (z := 11) (hs (.eq (.elem (.static "TuneBench" "PRIMES" "[I") (.int 4)) (.int 11)) (by decide +kernel))
    · exact va_eqt (z := 13) (hs (.eq (.elem (.static "TuneBench" "PRIMES" "[I") (.int 5)) (.int 13)) (by decide +kernel))) hA
  obtain ⟨tL, eL, hTL⟩ := va_Tof (args := args) (s := s) (tm := .static "TuneBench$Divisions" "LOGARITHMS" "[J") (ty := .long) (N := 6) (f := fun j => .long (lgL j)) (A := fun q => s.heap.size ≤ q) (by decide) (hs _ (by decide +kernel)) (va_eqt (z := 6) (hs _ (by decide +kernel))) (fun j hj => by
    rcases (show j = 0 ∨ j = 1 ∨ j = 2 ∨ j = 3 ∨ j = 4 ∨ j = 5 by omega) with rfl | rfl | rfl | rfl | rfl | rfl
    · exact va_eqtl (z := 1000000000000) (hs (.eq (.elem (.static "TuneBench$Divisions" "LOGARITHMS" "[J") (.int 0)) (.long 1000000000000)) (by decide +kernel))
    · exact va_eqtl (z := 1584962500721) (hs (.eq (.elem (.static "TuneBench$Divisions" "LOGARITHMS" "[J") (.int 1)) (.long 1584962500721)) (by decide +kernel))
    · exact va_eqtl (z := 2321928094887) (hs (.eq (.elem (.static "TuneBench$Divisions" "LOGARITHMS" "[J") (.int 2)) (.long 2321928094887)) (by decide +kernel))
    · exact va_eqtl (z := 2807354922058) (hs (.eq (.elem (.static "TuneBench$Divisions" "LOGARITHMS" "[J") (.int 3)) (.long 2807354922058)) (by decide +kernel))
    · exact va_eqtl (z := 3459431618637) (hs (.eq (.elem (.static "TuneBench$Divisions" "LOGARITHMS" "[J") (.int 4)) (.long 3459431618637)) (by decide +kernel))
    · exact va_eqtl (z := 3700439718141) (hs (.eq (.elem (.static "TuneBench$Divisions" "LOGARITHMS" "[J") (.int 5)) (.long 3700439718141)) (by decide +kernel))) hA
  obtain ⟨X, hX⟩ : ∃ X : Cx, X = (l, (fun c => (D c).1, fun c => (D c).2), fun i => s.heap.size + ps i, (fun k => match k with
    | 0 => qI
    | 1 => qJ
    | 2 => cB
    | 3 => cZ
    | 4 => cRI
    | _ => cRJ), tP, tL) := ⟨_, rfl⟩
  have hin : ∀ q, inA X q → s.heap.size ≤ q := fun q ⟨i, hi, e⟩ => by rw [e, hX]; exact Nat.le_add_right _ _
  refine ⟨X, by rw [hX], fun i _ => by rw [hX], ⟨⟨⟨fun c q hq => by rw [hX]; exact hD c q hq, ?_⟩, ?_, fun w hw => va_Nw.of (nsts_on w hw) (hts w (nsts_tbl w hw))⟩, ?_⟩, ?_⟩
  · subst hX
    intro k q hq
    match k, hq with
    | 0, hq => have e : (qI, FieldType.int) = q := Option.some.inj hq; subst e; exact ⟨st_arr i2 i3, i1⟩
    | 1, hq => have e : (qJ, FieldType.long) = q := Option.some.inj hq; subst e; exact ⟨st_arr j2 j3, j1⟩
    | 2, hq => have e : (cB, FieldType.byte) = q := Option.some.inj hq; subst e; exact ⟨st_arr b2 b3, b1⟩
    | 3, hq => have e : (cZ, FieldType.boolean) = q := Option.some.inj hq; subst e; exact ⟨st_arr z2 z3, z1⟩
    | 4, hq => have e : (cRI, FieldType.array .int) = q := Option.some.inj hq; subst e; exact ⟨st_arr r2 r3, r4⟩
    | 5, hq => have e : (cRJ, FieldType.array .long) = q := Option.some.inj hq; subst e; exact ⟨st_arr t2 t3, t4⟩
    | k + 6, hq => simp [tysX] at hq
  · subst hX
    exact ⟨⟨kRI, kI, r2, r3, i2⟩, ⟨kRJ, kJ, t2, t3, j2⟩⟩
  · exact ⟨by rw [ao_args (args' := args)]; exact aI, by rw [ao_args (args' := args)]; exact aJ⟩
  · refine ⟨?_, ?_, ?_, ?_⟩
    · have := (va_Zof (hts (.laysStatic "TuneBench" "PRIMES" "[I") (tb1 (List.mem_of_getElem? (i := 234) (by decide +kernel)))) (hts (.initialized "TuneBench") (tb1 (List.mem_of_getElem? (i := 1) (by decide +kernel)))) eP hA).narrow hin
      rw [hX] at this ⊢
      exact this
    · have := hTP.narrow hin
      rw [hX] at this ⊢
      exact this
    · have := (va_Zof (hts (.laysStatic "TuneBench$Divisions" "LOGARITHMS" "[J") (tb2 (List.mem_of_getElem? (i := 104) (by decide +kernel)))) (hts (.initialized "TuneBench$Divisions") (tb1 (List.mem_of_getElem? (i := 12) (by decide +kernel)))) eL hA).narrow hin
      rw [hX] at this ⊢
      exact this
    · have := hTL.narrow hin
      rw [hX] at this ⊢
      exact this
theorem KN_KX {X : Cx} {sz : Nat} {p : Program} {e : Env} {R : Room} {s : State} {m : MethodId} {args : Array Value} {below : List Frame} {meth : Method} {c : Code} {cells slots nL : Nat} {Qw : State → Prop} {g : Mem} {pc : Nat} {vs : Lv} {st : List Value} (hA : adX X sz) (hsz : s.heap.size = sz) (h : KX X p e R s m args below meth c cells slots nL Qw g pc vs st) : KN X sz p e R s m args below meth c nL Qw g 147 cells slots pc vs st := by
  refine ⟨Nat.le_refl _, fun H locs ls hh hS hl => va_forget (fun q hq => by rw [hsz]; exact hS.2.2 q hq) (h H [] ls (fun i hi => ?_) ⟨hS.1, fun q h1 h2 => hS.2.1 q h1 (by omega), fun l h => absurd h List.not_mem_nil⟩ hl)⟩
  have h1 := hh.2 (ps i) (nm_ok i hi).2.2.1
  rw [(nm_ok i hi).2.2.2] at h1
  rw [hA i hi]
  exact h1

/-! THE CLAIM OUT OF ONE WALK OF THE LAW'S BODY. Your part is whole_start (and what it stands on); all else here is the same for every law, but numbers. -/
def R_law : String := "TuneBenchLaw"
def lw_P (b : Addr) (xs : List Int32) (args : Array Value) (s : State) : Prop := args = #[.ref b] ∧ s.IntsAt b xs ∧ xs.length ≤ 4096 ∧ (Jvm.Cond.and given_1 narrow_1).before args s = true
def lw_Q (_ : Array Value) (s : State) (o : Outcome) (t : State) : Prop := o = .returned (some (.int 1)) ∧ Framed s o t [] 600000 7302250
def lw_Z (below : List Frame) (a : Array Value) (s : State) : State → Prop := fun t => ∃ o, t.status = .running ∧ Ended t below o ∧ lw_Q a s o t
/-- the law's own end, with 1 on the stack, nothing written that was there before, its room as the claim has it -/
theorem lw_ret {p : Program} {l : Launch} {e : Env} {s : State} {m : MethodId} {below : List Frame} {meth : Method} {c : Code} {b : Nat} (hx : p.tables.exec = Jvm.exec) (hb : c.code = code) (hr : meth.sig.returnType = ret) (hlocks : meth.locks = false) {pc : Nat} {H : Heap} {ls : Array Slot} (hdg : decode code pc = .ok (.ireturn, 1)) : W p l e room_1 s m #[Value.ref b] below meth c H [] 600000 7302250 (lw_Z below #[Value.ref b] s) (F0 m pc ls [.int 1]) := by
  intro T hT X
  obtain ⟨fs, hret, hrun, hended, hW, hframe⟩ := X.leave (v := some (.int 1)) (hlocks := hlocks) (fun h => by rw [hr] at h; cases h)
  have hmeth' : T.vm.method? m = some meth := X.method'
  refine ⟨T.setFrames fs, ?_, .returned (some (.int 1)), hrun, hended, rfl, ⟨_, rfl⟩, hW, hframe⟩
  jvm_step X.here [X.here.top, hx, hb, hdg, hmeth', hr, ret, narrow_b1]
  (try refine ⟨rfl, ?_⟩); (try refine ⟨rfl, ?_⟩)
  first | (intro acts; rw [hret _ acts rfl rfl rfl]) | rw [hret _ _ rfl rfl rfl]
  exact Steps.refl _
/-- what holds at the law's entry: the machine, the code, the tables' words (any of lw_tbl by 'hts w (by decide +kernel)'), the script of L ints xs at the cell b, what the Statement gives of the start (any of its parts by flat_of_before) -/
def lw_At (p : Program) (s : State) (m : MethodId) (meth : Method) (c : Code) (b L : Nat) (xs : Nat → Int32) : Prop :=
  p.tables.exec = Jvm.exec ∧ c.code = code ∧ meth.sig.returnType = ret ∧ c.maxLocals = 4 ∧ s.vm.findClass R_law = some m.cls ∧ (∀ w ∈ lw_tbl, w.before #[Value.ref b] s = true) ∧ va_X b L xs s s.heap ∧ b < s.heap.size ∧ meth.locks = false ∧ (Jvm.Cond.and given_1 narrow_1).before #[Value.ref b] s = true
set_option maxRecDepth 10000 in
theorem whole_start {p : Program} {e : Env} {s : State} {m : MethodId} {below : List Frame} {meth : Method} {c : Code} (l : Launch) {b L : Nat} {xs : Nat → Int32} (hL : L ≤ 4096) (C0 : lw_At p s m meth c b L xs) : W p l e room_1 s m #[Value.ref b] below meth c s.heap [] 0 0 (lw_Z below #[Value.ref b] s) (entryFrame m ([Value.ref b] : List Value).toArray 4) := by
  obtain ⟨hx, hb, hr, hml, hown, hts, hX, hbl, hlk, hgv⟩ := C0
  obtain ⟨X, hXl, hA, hk, hst⟩ := start_X l hts hgv
  subst hXl
  have hin : ∀ q, inA X q → s.heap.size ≤ q := fun q ⟨i, hi, e⟩ => by rw [e, hA i hi]; exact Nat.le_add_right _ _
  have hinj : injX X := fun i j hi hj e => by
    rw [hA i hi, hA j hj] at e
    have e2 : ps i = ps j := Nat.add_left_cancel e
    rw [← (nm_ok i hi).2.2.2, e2, (nm_ok j hj).2.2.2]
  have FN : FxN X s.heap.size p s m #[Value.ref b] meth c room_1 RL cL_law 4 10 := ⟨hx, hb, hml, hown, fun w hw => hts w (List.mem_filter.mp hw).1, hA, hk, Nat.le_refl _, by decide, by decide⟩
  have FX : Fx X p s m #[Value.ref b] c room_1 147 3415 RL cL_law 4 10 := ⟨hx, hb, hml, hown, fun w hw => hts w (List.mem_filter.mp hw).1, hinj, hk.1, hst, by decide, by decide, by decide, by decide⟩
  have hbA : ¬ inA X b := fun h => Nat.not_le.mpr hbl (hin b h)
  obtain ⟨gb, -⟩ : ∃ gb : Mem, True := ⟨fun _ => .inr (0, []), trivial⟩
  have hKX := cl_sound (e := e) (below := below) (meth := meth) (Qw := lw_Z below #[Value.ref b] s) FX
  have hSc : Sc (KX X p e room_1 s m #[Value.ref b] below meth c 147 3415 4 (lw_Z below #[Value.ref b] s)) b L xs := ⟨fun g pc vs st i d hi h H locs ls hh hS hl => va_sld hx hb hX hbl hbA hS hi d (h H locs ls hh hS hl), fun g pc vs st d h H locs ls hh hS hl => va_slen hx hb hX hbl hbA hS d (h H locs ls hh hS hl)⟩
  have hE : ∀ (g : Mem) (vs : Lv), KX X p e room_1 s m #[Value.ref b] below meth c 147 3415 4 (lw_Z below #[Value.ref b] s) g 1016 vs [.int 1] := fun g vs H locs ls hh hS hl => va_forget (fun q hq => hin _ (hS.2.2 q hq)) (W.widen (k := 600000) (n := 7302250) (by decide) (by decide) (lw_ret hx hb hr hlk dL_law_1016))
  have hloop := lw_loop (g := gb) hKX hSc hE hL L 0 (by omega) (by omega)
  have h16 : KX X p e room_1 s m #[Value.ref b] below meth c 147 3415 4 (lw_Z below #[Value.ref b] s) (mk9 X (mk8 X gb)) 16 [some (.ref b), some (rf X 19), some (rf X 0), none] [] := by
    rw [mk9_eq, mk8_eq]
    exact q_iconst hKX (v := nI (8 * 0)) dL_law_16 rfl (q_istore_n hKX 3 dL_law_17 rfl (by decide) (hloop s0 _ _ _ _ _ _ _ _ MI_0 BI_0))
  have hKN : KN X s.heap.size p e room_1 s m #[Value.ref b] below meth c 4 (lw_Z below #[Value.ref b] s) gb 0 0 0 0 [some (.ref b), none, none, none] [] := by
    refine n_new FN (o := 19) dL_law_0 ncL_7 (by decide) rfl (by decide) (by decide) ?_
    refine n_dup FN dL_law_3 rfl ?_
    refine n_call FN (o := 19) (as := []) (r := [rf X 19]) dL_law_4 iL_9 rfl (Nat.le_of_ble_eq_true rfl) (by decide) (by decide) (by decide) (by decide) rfl (c_X8_19 ?_)
    refine n_astore_n FN 1 dL_law_7 rfl (by decide) ?_
    refine n_new FN (o := 0) dL_law_8 ncL_10 (by decide) rfl (by decide) (by decide) ?_
    refine n_dup FN dL_law_11 rfl ?_
    refine n_call FN (o := 0) (as := []) (r := [rf X 0]) dL_law_12 iL_12 rfl (Nat.le_of_ble_eq_true rfl) (by decide) (by decide) (by decide) (by decide) rfl (c_X9_0 ?_)
    refine n_astore_n FN 2 dL_law_15 rfl (by decide) ?_
    exact KN_KX hA rfl h16
  have hle := lv_entry [Value.ref b] (n := 4) (Nat.le_of_ble_eq_true rfl)
  rw [lg_entry_eq]
  exact hKN.2 s.heap [] _ ⟨rfl, fun k hk => absurd hk (Nat.not_lt_zero _)⟩ va_S.rf hle
set_option maxHeartbeats 4000000 in
theorem lw_walk (l : Launch) (b : Addr) (xs : List Int32) : MetFree l x (headSpec (Jvm.Cond.code x code maxLocals ret :: tables_1) room_1) (lw_P b xs) (fun _ _ _ _ _ => True) lw_Q := by
  refine MetFree.of_bodyS (code := code) (maxLocals := maxLocals) (ret := ret) (by decide) ?_ ?_
  · intro args s m h hn
    obtain ⟨meth, c, h1, h2, h3, h4, h5, h6, -, -⟩ := Cond.code_spec hn (atoms_spec (ws := Jvm.Cond.code x code maxLocals ret :: tables_1) h _ List.mem_cons_self)
    exact ⟨meth, c, h1, h2, h3, h4, h5, h6⟩
  · intro p e s m args below meth c s₁ B hml0 hP _
    obtain ⟨rfl, hx, hbd, hgv⟩ := hP
    obtain ⟨scr, harrAt, hlist, hof, hsmall⟩ := hx
    obtain ⟨hcb, hkn, -, -⟩ := State.arrayAt?_spec harrAt
    have hown : s.vm.findClass R_law = some m.cls := findClass_of_methodNamed B.named
    have hts0 : ∀ c ∈ (Jvm.Cond.code x code maxLocals ret :: tables_1), c.before #[Value.ref b] s = true := atoms_spec (ws := Jvm.Cond.code x code maxLocals ret :: tables_1) B.pre
    have hts : ∀ w ∈ lw_tbl, w.before #[Value.ref b] s = true := k2_hts_sels lw_privs (fun w hw => hts0 w (List.mem_cons_of_mem _ hw)) lw_privs_ok
    have hml : c.maxLocals = 4 := B.maxLocals_eq (hts0 _ List.mem_cons_self)
    have X₀ : Stand p l e room_1 s m #[Value.ref b] below meth c s₁ [] 0 0 := Stand.of_body B
    have hh0 : s₁.heap = s.heap := by rw [B.state]; rfl
    have hsz : scr.slots.size = xs.length := by rw [← Array.length_toList, hlist, List.length_map]
    have hval : ∀ j : Nat, j < xs.length → scr.slots[j]? = some (.int (xs.getD j 0)) := fun j hj => by
      rw [← Array.getElem?_toList, hlist]
      simp [hj]
    have hbl : b < s.heap.size := (Array.getElem?_eq_some_iff.mp hcb).1
    have hX : va_X b xs.length (fun j => xs.getD j 0) s s.heap := ⟨scr, hcb, hof, hkn, hsz, hval⟩
    have K : W p l e room_1 s m #[Value.ref b] below meth c s₁.heap [] 0 0 (lw_Z below #[Value.ref b] s) (entryFrame m ([Value.ref b] : List Value).toArray 4) := by
      rw [hh0]
      exact whole_start l hbd ⟨B.exec, B.bytes, B.returns, hml, hown, hts, hX, hbl, B.notSynchronized, hgv⟩
    obtain ⟨t, a1, o, b1, b2, b3⟩ := K s₁ rfl X₀
    exact ⟨t, o, a1, b1, b2, b3⟩
theorem lw_pre_spec {args : Array Value} {s : State} (h : (Jvm.Cond.and given_1 narrow_1).before args s = true) (hr : rest_1_c.before args s = true) : ∃ (b : Addr) (xs : List Int32), lw_P b xs args s := by
  have hs := flat_of_before _ h
  have hq := flat_of_before _ hr
  have hc : (Cond.count 1).before args s = true := hs _ (by decide +kernel)
  have harr : (Cond.arrayOf (.arg 0) .int).before args s = true := hs _ (by decide +kernel)
  have hle : (Cond.le (.length (.arg 0)) (.int 4096)).before args s = true := hs _ (by decide +kernel)
  have hlen : (Cond.isInt (.length (.arg 0))).before args s = true := hq _ (by decide +kernel)
  have hall : (Cond.all (.arg 0) (.isInt (.elem (.arg 0) (.index 0)))).before args s = true := hq _ (by decide +kernel)
  obtain ⟨b, xs, hb, hx⟩ := State.ints_of_pre rfl harr hlen hall
  have hsm : xs.length < 2 ^ 31 := hx.choose_spec.2.2.2
  have hev : (Term.length (.arg 0)).eval args s none [] s = some (.int xs.length.toInt32) := hx.length_eval hb
  have hv := Cond.le_ints hev (show (Term.int 4096).eval args s none [] s = some (.int 4096) from rfl)
  have hd : xs.length.toInt32 ≤ 4096 := by
    simpa [Cond.before, Cond.holds, hv] using hle
  have hN : xs.length ≤ 4096 := (Int32.ofNat_le_ofNat hsm (by decide)).mp (show Int32.ofNat xs.length ≤ Int32.ofNat 4096 from hd)
  exact ⟨b, xs, Cond.one_arg hc (show args[0]? = some (.ref b) from hb), hx, hN, h⟩
theorem lw_comes (l : Launch) : Comes l x (Jvm.Cond.code x code maxLocals ret :: tables_1) room_1 (fun tb e args s => Calls_1 tb e args s ∧ rest_1 tb e args s ∧ Pre_1 tb e args s)
    (fun _ _ args s o t => lw_Q args s o t) := by
  intro p e ha hc hk s m args below hf hfit hheap happ hpre
  obtain ⟨b, xs, hP⟩ := lw_pre_spec hpre.2.2 hpre.2.1
  obtain ⟨k, o, h1, h2, h3, hQ⟩ := lw_walk l b xs p e ha hc hk s m args below hf ((Spec.applies_iff_loose hf).mp happ).1 hP trivial
  exact ⟨k, o, h1, h2, h3, hQ⟩
theorem lw_frame {s t : State} {o : Outcome} {args : Array Value} (h : Framed s o t [] 600000 7302250) :
    Framed s o t (fieldLocs frame_1_writes args s ++ arrayLocs frame_1_arrays args s ++ staticLocs frame_1_statics s) 600000 7302250 := h
theorem lw_limb (L : Cond) (hL : ∀ (args : Array Value) (s t : State), L.after args s (.returned (some (.int 1))) t = true) :
    ArmFor flags0 classFile x code maxLocals ret World_1 tables_1 room_1 Calls_1 rest_1 Pre_1
      (fun tb e a s o t => postC L tb e a s o t ∧ Framed s o t (fieldLocs frame_1_writes a s ++ arrayLocs frame_1_arrays a s ++ staticLocs frame_1_statics s) 600000 7302250) := by
  intro l _ _ _ p e ha hc hk s m args below hf hfit hheap happ hpre
  obtain ⟨k, o, h1, h2, h3, rfl, hF⟩ := lw_comes l p e ha hc hk s m args below hf hfit hheap happ hpre
  exact ⟨k, _, h1, h2, h3, hL args s _, lw_frame hF⟩
theorem i_vc : Claimed_1_1 ∧ Claimed_1_2 := ⟨lw_limb limb_1_1 (fun args s t => by simp [limb_1_1, Cond.after, Cond.holds, Cond.value]), lw_limb limb_1_2 (fun args s t => Cond.after_iff.mpr (by
  first | (rw [show limb_1_2 = Cond.eq .result (.int 1) from rfl, Cond.eq_ints (x := 1) (y := 1) rfl rfl]; simp; done) | (simp [limb_1_2, Cond.value, Term.eval]; done)))⟩
