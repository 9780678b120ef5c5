-- ===== the constructors
theorem oX3_3 : Cond.methodLink RX3 3 objectInit ∈ gtb := (gtb_of (tb1 (List.mem_of_getElem? (i := 35) (by decide +kernel))) (by decide +kernel))
theorem qX3_11 : FQ RX3 11 2 0 (.array .int) := ⟨RX3, TX3, 3, tyX3, rfl, by decide, ingX3, tyX3_ok, nmX3, rfl, rfl, by decide +kernel, (gtb_of (tb1 (List.mem_of_getElem? (i := 36) (by decide +kernel))) (by decide +kernel))⟩
theorem rX3_15 : FR RX3 15 2 1 .int := ⟨RX3, TX3, 3, tyX3, rfl, by decide, ingX3, tyX3_ok, nmX3, rfl, by decide +kernel, (gtb_of (tb1 (List.mem_of_getElem? (i := 37) (by decide +kernel))) (by decide +kernel))⟩
theorem rX3_19 : FR RX3 19 2 2 .long := ⟨RX3, TX3, 3, tyX3, rfl, by decide, ingX3, tyX3_ok, nmX3, rfl, by decide +kernel, (gtb_of (tb1 (List.mem_of_getElem? (i := 38) (by decide +kernel))) (by decide +kernel))⟩
theorem c_X3_25 {X : Cx} {sz : Nat} {g : Mem} {Q : Mem → Nat → Prop} (h : Q (va_up (va_up (va_up (va_up (va_up (va_up g 25 (.inr (2, [.null, .int 0, .long 0]))) 26 (.inl (X.2.2.2.1 0, (104, .inl (fun _ => 0))))) 25 (.inr (2, [rf X 26, .int 0, .long 0]))) 26 (aI X 104 (upd (fun _ => 0) 0 (nI 1)))) 25 (.inr (2, [rf X 26, .int (nI 1), .long 0]))) 25 (.inr (2, [rf X 26, .int (nI 1), .long 1]))) 24) : CtM X sz 1 1 104 yX3_init [rf X 25] (va_up g 25 (.inr (2, [.null, .int 0, .long 0]))) 23 Q := by
  refine CtM_intro (own := RX3) [some (rf X 25)] wX3_init (by decide) (by decide) rfl rfl (Nat.le_of_ble_eq_true rfl) rfl (fun p e s m below meth c Qw F hin hret => ?_)
  refine n_aload_n F 0 dX3_init_0 rfl rfl ?_
  refine n_obj F dX3_init_1 oX3_3 (by decide) (Nat.le_of_ble_eq_true rfl) ?_
  refine n_aload_n F 0 dX3_init_4 rfl rfl ?_
  refine n_bipush (v := nI 104) F dX3_init_5 (by decide) ?_
  refine n_newa (o := 26) (t0 := 0) (ty := .int) (n' := 104) (a0 := (104, .inl (fun _ => 0))) F dX3_init_7 rfl ac_int rfl (fun h => h) (fun _ => rfl) (by decide) (by decide) (by decide) (by decide) (by decide) (by decide) (by decide) ?_
  refine n_putF (o := 25) (fs := [.null, .int 0, .long 0]) F hin dX3_init_9 qX3_11 (by decide) (by decide) rfl rfl rfl (Nat.le_of_ble_eq_true rfl) ?_
  refine n_aload_n F 0 dX3_init_12 rfl rfl ?_
  refine n_getf (o := 25) (fs := [rf X 26, .int 0, .long 0]) (v := rf X 26) F dX3_init_13 fX3_11 (by decide) (by decide) rfl rfl ?_
  refine n_iconst (v := nI 0) F dX3_init_16 (by decide) ?_
  refine n_iconst (v := nI 1) F dX3_init_17 (by decide) ?_
  refine n_iast (o := 26) (n := 104) (k := 0) (f := (fun _ => 0)) F dX3_init_18 (by decide) (by decide) rfl rfl (by decide) (by decide) ?_
  refine n_aload_n F 0 dX3_init_19 rfl rfl ?_
  refine n_iconst (v := nI 1) F dX3_init_20 (by decide) ?_
  refine n_put (o := 25) (fs := [rf X 26, .int 0, .long 0]) F dX3_init_21 rX3_15 (by decide) (by decide) rfl rfl rfl (Nat.le_of_ble_eq_true rfl) ?_
  refine n_aload_n F 0 dX3_init_24 rfl rfl ?_
  refine n_lconst (v := 1) F dX3_init_25 (by decide) ?_
  refine n_put (o := 25) (fs := [rf X 26, .int (nI 1), .long 0]) F dX3_init_26 rX3_19 (by decide) (by decide) rfl rfl rfl (Nat.le_of_ble_eq_true rfl) ?_
  exact hret _ _ _ _ (by decide) dX3_init_29 h
theorem c_X3_27 {X : Cx} {sz : Nat} {g : Mem} {Q : Mem → Nat → Prop} (h : Q (va_up (va_up (va_up (va_up (va_up (va_up g 27 (.inr (2, [.null, .int 0, .long 0]))) 28 (.inl (X.2.2.2.1 0, (104, .inl (fun _ => 0))))) 27 (.inr (2, [rf X 28, .int 0, .long 0]))) 28 (aI X 104 (upd (fun _ => 0) 0 (nI 1)))) 27 (.inr (2, [rf X 28, .int (nI 1), .long 0]))) 27 (.inr (2, [rf X 28, .int (nI 1), .long 1]))) 26) : CtM X sz 1 1 104 yX3_init [rf X 27] (va_up g 27 (.inr (2, [.null, .int 0, .long 0]))) 25 Q := by
  refine CtM_intro (own := RX3) [some (rf X 27)] wX3_init (by decide) (by decide) rfl rfl (Nat.le_of_ble_eq_true rfl) rfl (fun p e s m below meth c Qw F hin hret => ?_)
  refine n_aload_n F 0 dX3_init_0 rfl rfl ?_
  refine n_obj F dX3_init_1 oX3_3 (by decide) (Nat.le_of_ble_eq_true rfl) ?_
  refine n_aload_n F 0 dX3_init_4 rfl rfl ?_
  refine n_bipush (v := nI 104) F dX3_init_5 (by decide) ?_
  refine n_newa (o := 28) (t0 := 0) (ty := .int) (n' := 104) (a0 := (104, .inl (fun _ => 0))) F dX3_init_7 rfl ac_int rfl (fun h => h) (fun _ => rfl) (by decide) (by decide) (by decide) (by decide) (by decide) (by decide) (by decide) ?_
  refine n_putF (o := 27) (fs := [.null, .int 0, .long 0]) F hin dX3_init_9 qX3_11 (by decide) (by decide) rfl rfl rfl (Nat.le_of_ble_eq_true rfl) ?_
  refine n_aload_n F 0 dX3_init_12 rfl rfl ?_
  refine n_getf (o := 27) (fs := [rf X 28, .int 0, .long 0]) (v := rf X 28) F dX3_init_13 fX3_11 (by decide) (by decide) rfl rfl ?_
  refine n_iconst (v := nI 0) F dX3_init_16 (by decide) ?_
  refine n_iconst (v := nI 1) F dX3_init_17 (by decide) ?_
  refine n_iast (o := 28) (n := 104) (k := 0) (f := (fun _ => 0)) F dX3_init_18 (by decide) (by decide) rfl rfl (by decide) (by decide) ?_
  refine n_aload_n F 0 dX3_init_19 rfl rfl ?_
  refine n_iconst (v := nI 1) F dX3_init_20 (by decide) ?_
  refine n_put (o := 27) (fs := [rf X 28, .int 0, .long 0]) F dX3_init_21 rX3_15 (by decide) (by decide) rfl rfl rfl (Nat.le_of_ble_eq_true rfl) ?_
  refine n_aload_n F 0 dX3_init_24 rfl rfl ?_
  refine n_lconst (v := 1) F dX3_init_25 (by decide) ?_
  refine n_put (o := 27) (fs := [rf X 28, .int (nI 1), .long 0]) F dX3_init_26 rX3_19 (by decide) (by decide) rfl rfl rfl (Nat.le_of_ble_eq_true rfl) ?_
  exact hret _ _ _ _ (by decide) dX3_init_29 h
theorem oX7_3 : Cond.methodLink RX7 3 objectInit ∈ gtb := (gtb_of (tb1 (List.mem_of_getElem? (i := 29) (by decide +kernel))) (by decide +kernel))
theorem ncX7_9 : NC RX7 9 2 3 [.null, .int 0, .long 0] := ⟨RX3, TX3, tyX3, rfl, ingX3, tyX3_ok, (gtb_of (tb1 (List.mem_of_getElem? (i := 30) (by decide +kernel))) (by decide +kernel)), (gtb_of (tb1 (List.mem_of_getElem? (i := 31) (by decide +kernel))) (by decide +kernel)), (gtb_of (tb1 (List.mem_of_getElem? (i := 3) (by decide +kernel))) (by decide +kernel)), fun j hj => by rcases (show j = 0 ∨ j = 1 ∨ j = 2 by omega) with rfl | rfl | rfl <;> rfl⟩
theorem iX7_11 : IL RX7 11 yX3_init 0 := ⟨(gtb_of (tb1 (List.mem_of_getElem? (i := 32) (by decide +kernel))) (by decide +kernel)), (gtb_of (tb1 (List.mem_of_getElem? (i := 33) (by decide +kernel))) (by decide +kernel)), (gtb_of (tb1 (List.mem_of_getElem? (i := 3) (by decide +kernel))) (by decide +kernel)), rfl, ⟨by decide +kernel, by decide +kernel, by decide +kernel⟩⟩
theorem qX7_12 : FQ RX7 12 5 0 (.object "TuneBench$Natural") := ⟨RX7, TX7, 3, tyX7, rfl, by decide, ingX7, tyX7_ok, nmX7, rfl, rfl, by decide +kernel, (gtb_of (tb1 (List.mem_of_getElem? (i := 49) (by decide +kernel))) (by decide +kernel))⟩
theorem qX7_18 : FQ RX7 18 5 1 (.object "TuneBench$Natural") := ⟨RX7, TX7, 3, tyX7, rfl, by decide, ingX7, tyX7_ok, nmX7, rfl, rfl, by decide +kernel, (gtb_of (tb1 (List.mem_of_getElem? (i := 50) (by decide +kernel))) (by decide +kernel))⟩
theorem qX7_21 : FQ RX7 21 5 2 (.array .int) := ⟨RX7, TX7, 3, tyX7, rfl, by decide, ingX7, tyX7_ok, nmX7, rfl, rfl, by decide +kernel, (gtb_of (tb1 (List.mem_of_getElem? (i := 51) (by decide +kernel))) (by decide +kernel))⟩
theorem c_X7_24 {X : Cx} {sz : Nat} {g : Mem} {Q : Mem → Nat → Prop} (h : Q (va_up (va_up (va_up (va_up (va_up (va_up (va_up (va_up (va_up (va_up (va_up (va_up (va_up (va_up (va_up (va_up (va_up g 24 (.inr (5, [.null, .null, .null]))) 25 (.inr (2, [.null, .int 0, .long 0]))) 26 (.inl (X.2.2.2.1 0, (104, .inl (fun _ => 0))))) 25 (.inr (2, [rf X 26, .int 0, .long 0]))) 26 (aI X 104 (upd (fun _ => 0) 0 (nI 1)))) 25 (.inr (2, [rf X 26, .int (nI 1), .long 0]))) 25 (.inr (2, [rf X 26, .int (nI 1), .long 1]))) 24 (.inr (5, [rf X 25, .null, .null]))) 27 (.inr (2, [.null, .int 0, .long 0]))) 28 (.inl (X.2.2.2.1 0, (104, .inl (fun _ => 0))))) 27 (.inr (2, [rf X 28, .int 0, .long 0]))) 28 (aI X 104 (upd (fun _ => 0) 0 (nI 1)))) 27 (.inr (2, [rf X 28, .int (nI 1), .long 0]))) 27 (.inr (2, [rf X 28, .int (nI 1), .long 1]))) 24 (.inr (5, [rf X 25, rf X 27, .null]))) 29 (.inl (X.2.2.2.1 0, (6, .inl (fun _ => 0))))) 24 (.inr (5, [rf X 25, rf X 27, rf X 29]))) 27) : CtM X sz 2 5 220 yX7_init [rf X 24] (va_up g 24 (.inr (5, [.null, .null, .null]))) 22 Q := by
  refine CtM_intro (own := RX7) [some (rf X 24)] wX7_init (by decide) (by decide) rfl rfl (Nat.le_of_ble_eq_true rfl) rfl (fun p e s m below meth c Qw F hin hret => ?_)
  refine n_aload_n F 0 dX7_init_0 rfl rfl ?_
  refine n_obj F dX7_init_1 oX7_3 (by decide) (Nat.le_of_ble_eq_true rfl) ?_
  refine n_aload_n F 0 dX7_init_4 rfl rfl ?_
  refine n_new (o := 25) F dX7_init_5 ncX7_9 (by decide) (by decide) (by decide) (by decide) ?_
  refine n_dup F dX7_init_8 rfl ?_
  refine n_call (d1 := 1) (mc := 1) (ms := 104) (as := []) (r := [rf X 25, rf X 24]) F dX7_init_9 iX7_11 rfl (Nat.le_of_ble_eq_true rfl) (by decide) (by decide) (by decide) (by decide) rfl (c_X3_25 ?_)
  refine n_putF (o := 24) (fs := [.null, .null, .null]) F hin dX7_init_12 qX7_12 (by decide) (by decide) rfl rfl rfl (Nat.le_of_ble_eq_true rfl) ?_
  refine n_aload_n F 0 dX7_init_15 rfl rfl ?_
  refine n_new (o := 27) F dX7_init_16 ncX7_9 (by decide) (by decide) (by decide) (by decide) ?_
  refine n_dup F dX7_init_19 rfl ?_
  refine n_call (d1 := 1) (mc := 1) (ms := 104) (as := []) (r := [rf X 27, rf X 24]) F dX7_init_20 iX7_11 rfl (Nat.le_of_ble_eq_true rfl) (by decide) (by decide) (by decide) (by decide) rfl (c_X3_27 ?_)
  refine n_putF (o := 24) (fs := [rf X 25, .null, .null]) F hin dX7_init_23 qX7_18 (by decide) (by decide) rfl rfl rfl (Nat.le_of_ble_eq_true rfl) ?_
  refine n_aload_n F 0 dX7_init_26 rfl rfl ?_
  refine n_bipush (v := nI 6) F dX7_init_27 (by decide) ?_
  refine n_newa (o := 29) (t0 := 0) (ty := .int) (n' := 6) (a0 := (6, .inl (fun _ => 0))) F dX7_init_29 rfl ac_int rfl (fun h => h) (fun _ => rfl) (by decide) (by decide) (by decide) (by decide) (by decide) (by decide) (by decide) ?_
  refine n_putF (o := 24) (fs := [rf X 25, rf X 27, .null]) F hin dX7_init_31 qX7_21 (by decide) (by decide) rfl rfl rfl (Nat.le_of_ble_eq_true rfl) ?_
  exact hret _ _ _ _ (by decide) dX7_init_34 h
theorem oX0_3 : Cond.methodLink RX0 3 objectInit ∈ gtb := (gtb_of (tb1 (List.mem_of_getElem? (i := 64) (by decide +kernel))) (by decide +kernel))
theorem kX0_11 : Cond.classLink RX0 11 ("[" ++ (FieldType.array .int).toString) ∈ gtb := (gtb_of (tb1 (List.mem_of_getElem? (i := 65) (by decide +kernel))) (by decide +kernel))
theorem qX0_13 : FQ RX0 13 0 0 (.array (.array .int)) := ⟨RX0, TX0, 4, tyX0, rfl, by decide, ingX0, tyX0_ok, nmX0, rfl, rfl, by decide +kernel, (gtb_of (tb1 (List.mem_of_getElem? (i := 68) (by decide +kernel))) (by decide +kernel))⟩
theorem kX0_16 : Cond.classLink RX0 16 ("[" ++ (FieldType.array .long).toString) ∈ gtb := (gtb_of (tb1 (List.mem_of_getElem? (i := 66) (by decide +kernel))) (by decide +kernel))
theorem qX0_18 : FQ RX0 18 0 1 (.array (.array .long)) := ⟨RX0, TX0, 4, tyX0, rfl, by decide, ingX0, tyX0_ok, nmX0, rfl, rfl, by decide +kernel, (gtb_of (tb1 (List.mem_of_getElem? (i := 69) (by decide +kernel))) (by decide +kernel))⟩
theorem rX0_21 : FR RX0 21 0 2 .int := ⟨RX0, TX0, 4, tyX0, rfl, by decide, ingX0, tyX0_ok, nmX0, rfl, by decide +kernel, (gtb_of (tb1 (List.mem_of_getElem? (i := 70) (by decide +kernel))) (by decide +kernel))⟩
theorem rX0_25 : FR RX0 25 0 3 .long := ⟨RX0, TX0, 4, tyX0, rfl, by decide, ingX0, tyX0_ok, nmX0, rfl, by decide +kernel, (gtb_of (tb1 (List.mem_of_getElem? (i := 72) (by decide +kernel))) (by decide +kernel))⟩
theorem c_X0_30 {X : Cx} {sz : Nat} {g : Mem} {Q : Mem → Nat → Prop} (h : Q (va_up (va_up (va_up (va_ups (va_up (va_up (va_ups (va_up (va_up g 30 (.inr (0, [.null, .null, .int 0, .long 0]))) 31 (.inl (X.2.2.2.1 4, 5, .inr (.inr (.inr (.inr (fun k => some (X.2.2.1 (64 + k))))))))) 64 5 (.inl (X.2.2.2.1 0, (6, .inl (fun _ => 0))))) 30 (.inr (0, [rf X 31, .null, .int 0, .long 0]))) 32 (.inl (X.2.2.2.1 5, 6, .inr (.inr (.inr (.inr (fun k => some (X.2.2.1 (69 + k))))))))) 69 6 (.inl (X.2.2.2.1 1, (6, .inr (.inl (fun _ => 0)))))) 30 (.inr (0, [rf X 31, rf X 32, .int 0, .long 0]))) 30 (.inr (0, [rf X 31, rf X 32, .int (nI 0), .long 0]))) 30 (.inr (0, [rf X 31, rf X 32, .int (nI 0), .long 1]))) 41) : CtM X sz 1 13 77 yX0_init [rf X 30] (va_up g 30 (.inr (0, [.null, .null, .int 0, .long 0]))) 28 Q := by
  refine CtM_intro (own := RX0) [some (rf X 30)] wX0_init (by decide) (by decide) rfl rfl (Nat.le_of_ble_eq_true rfl) rfl (fun p e s m below meth c Qw F hin hret => ?_)
  refine n_aload_n F 0 dX0_init_0 rfl rfl ?_
  refine n_obj F dX0_init_1 oX0_3 (by decide) (Nat.le_of_ble_eq_true rfl) ?_
  refine n_aload_n F 0 dX0_init_4 rfl rfl ?_
  refine n_iconst (v := nI 5) F dX0_init_5 (by decide) ?_
  refine n_bipush (v := nI 6) F dX0_init_6 (by decide) ?_
  refine n_mna (o := 31) (lo := 64) (t1 := 4) (t0 := 0) (n' := 5) (ty := .int) (z := (6, .inl (fun _ => 0))) F dX0_init_8 kX0_11 F.2.2.2.2.2.2.1.2.1 ac_int (F.2.2.2.2.2.2.1.1.1.2 0 _ rfl).2 (F.2.2.2.2.2.2.1.1.1.2 4 _ rfl).2 (by decide) (by decide) (by decide) (by decide) (by decide) (by decide) rfl rfl (fun c => arrV_new c 6 _) (by decide) (by decide) (by decide) (by decide) (by decide) ?_
  refine n_putF (o := 30) (fs := [.null, .null, .int 0, .long 0]) F hin dX0_init_12 qX0_13 (by decide) (by decide) rfl rfl rfl (Nat.le_of_ble_eq_true rfl) ?_
  refine n_aload_n F 0 dX0_init_15 rfl rfl ?_
  refine n_bipush (v := nI 6) F dX0_init_16 (by decide) ?_
  refine n_bipush (v := nI 6) F dX0_init_18 (by decide) ?_
  refine n_mna (o := 32) (lo := 69) (t1 := 5) (t0 := 1) (n' := 6) (ty := .long) (z := (6, .inr (.inl (fun _ => 0)))) F dX0_init_20 kX0_16 F.2.2.2.2.2.2.1.2.2 ac_long (F.2.2.2.2.2.2.1.1.1.2 1 _ rfl).2 (F.2.2.2.2.2.2.1.1.1.2 5 _ rfl).2 (by decide) (by decide) (by decide) (by decide) (by decide) (by decide) rfl rfl (fun c => arrV_new c 6 _) (by decide) (by decide) (by decide) (by decide) (by decide) ?_
  refine n_putF (o := 30) (fs := [rf X 31, .null, .int 0, .long 0]) F hin dX0_init_24 qX0_18 (by decide) (by decide) rfl rfl rfl (Nat.le_of_ble_eq_true rfl) ?_
  refine n_aload_n F 0 dX0_init_27 rfl rfl ?_
  refine n_iconst (v := nI 0) F dX0_init_28 (by decide) ?_
  refine n_put (o := 30) (fs := [rf X 31, rf X 32, .int 0, .long 0]) F dX0_init_29 rX0_21 (by decide) (by decide) rfl rfl rfl (Nat.le_of_ble_eq_true rfl) ?_
  refine n_aload_n F 0 dX0_init_32 rfl rfl ?_
  refine n_lconst (v := 1) F dX0_init_33 (by decide) ?_
  refine n_put (o := 30) (fs := [rf X 31, rf X 32, .int (nI 0), .long 0]) F dX0_init_34 rX0_25 (by decide) (by decide) rfl rfl rfl (Nat.le_of_ble_eq_true rfl) ?_
  exact hret _ _ _ _ (by decide) dX0_init_37 h
theorem oX4_3 : Cond.methodLink RX4 3 objectInit ∈ gtb := (gtb_of (tb1 (List.mem_of_getElem? (i := 95) (by decide +kernel))) (by decide +kernel))
theorem kX4_11 : Cond.classLink RX4 11 ("[" ++ (FieldType.array .int).toString) ∈ gtb := (gtb_of (tb1 (List.mem_of_getElem? (i := 96) (by decide +kernel))) (by decide +kernel))
theorem qX4_13 : FQ RX4 13 3 0 (.array (.array .int)) := ⟨RX4, TX4, 2, tyX4, rfl, by decide, ingX4, tyX4_ok, nmX4, rfl, rfl, by decide +kernel, (gtb_of (tb1 (List.mem_of_getElem? (i := 97) (by decide +kernel))) (by decide +kernel))⟩
theorem rX4_16 : FR RX4 16 3 1 .int := ⟨RX4, TX4, 2, tyX4, rfl, by decide, ingX4, tyX4_ok, nmX4, rfl, by decide +kernel, (gtb_of (tb1 (List.mem_of_getElem? (i := 99) (by decide +kernel))) (by decide +kernel))⟩
theorem c_X4_40 {X : Cx} {sz : Nat} {g : Mem} {Q : Mem → Nat → Prop} (h : Q (va_up (va_up (va_ups (va_up (va_up g 40 (.inr (3, [.null, .int 0]))) 41 (.inl (X.2.2.2.1 4, 24, .inr (.inr (.inr (.inr (fun k => some (X.2.2.1 (99 + k))))))))) 99 24 (.inl (X.2.2.2.1 0, (6, .inl (fun _ => 0))))) 40 (.inr (3, [rf X 41, .int 0]))) 40 (.inr (3, [rf X 41, .int (nI 0)]))) 98) : CtM X sz 1 25 168 yX4_init [rf X 40] (va_up g 40 (.inr (3, [.null, .int 0]))) 73 Q := by
  refine CtM_intro (own := RX4) [some (rf X 40)] wX4_init (by decide) (by decide) rfl rfl (Nat.le_of_ble_eq_true rfl) rfl (fun p e s m below meth c Qw F hin hret => ?_)
  refine n_aload_n F 0 dX4_init_0 rfl rfl ?_
  refine n_obj F dX4_init_1 oX4_3 (by decide) (Nat.le_of_ble_eq_true rfl) ?_
  refine n_aload_n F 0 dX4_init_4 rfl rfl ?_
  refine n_bipush (v := nI 24) F dX4_init_5 (by decide) ?_
  refine n_bipush (v := nI 6) F dX4_init_7 (by decide) ?_
  refine n_mna (o := 41) (lo := 99) (t1 := 4) (t0 := 0) (n' := 24) (ty := .int) (z := (6, .inl (fun _ => 0))) F dX4_init_9 kX4_11 F.2.2.2.2.2.2.1.2.1 ac_int (F.2.2.2.2.2.2.1.1.1.2 0 _ rfl).2 (F.2.2.2.2.2.2.1.1.1.2 4 _ rfl).2 (by decide) (by decide) (by decide) (by decide) (by decide) (by decide) rfl rfl (fun c => arrV_new c 6 _) (by decide) (by decide) (by decide) (by decide) (by decide) ?_
  refine n_putF (o := 40) (fs := [.null, .int 0]) F hin dX4_init_13 qX4_13 (by decide) (by decide) rfl rfl rfl (Nat.le_of_ble_eq_true rfl) ?_
  refine n_aload_n F 0 dX4_init_16 rfl rfl ?_
  refine n_iconst (v := nI 0) F dX4_init_17 (by decide) ?_
  refine n_put (o := 40) (fs := [rf X 41, .int 0]) F dX4_init_18 rX4_16 (by decide) (by decide) rfl rfl rfl (Nat.le_of_ble_eq_true rfl) ?_
  exact hret _ _ _ _ (by decide) dX4_init_21 h
theorem c_X4_42 {X : Cx} {sz : Nat} {g : Mem} {Q : Mem → Nat → Prop} (h : Q (va_up (va_up (va_ups (va_up (va_up g 42 (.inr (3, [.null, .int 0]))) 43 (.inl (X.2.2.2.1 4, 24, .inr (.inr (.inr (.inr (fun k => some (X.2.2.1 (123 + k))))))))) 123 24 (.inl (X.2.2.2.1 0, (6, .inl (fun _ => 0))))) 42 (.inr (3, [rf X 43, .int 0]))) 42 (.inr (3, [rf X 43, .int (nI 0)]))) 124) : CtM X sz 1 25 168 yX4_init [rf X 42] (va_up g 42 (.inr (3, [.null, .int 0]))) 99 Q := by
  refine CtM_intro (own := RX4) [some (rf X 42)] wX4_init (by decide) (by decide) rfl rfl (Nat.le_of_ble_eq_true rfl) rfl (fun p e s m below meth c Qw F hin hret => ?_)
  refine n_aload_n F 0 dX4_init_0 rfl rfl ?_
  refine n_obj F dX4_init_1 oX4_3 (by decide) (Nat.le_of_ble_eq_true rfl) ?_
  refine n_aload_n F 0 dX4_init_4 rfl rfl ?_
  refine n_bipush (v := nI 24) F dX4_init_5 (by decide) ?_
  refine n_bipush (v := nI 6) F dX4_init_7 (by decide) ?_
  refine n_mna (o := 43) (lo := 123) (t1 := 4) (t0 := 0) (n' := 24) (ty := .int) (z := (6, .inl (fun _ => 0))) F dX4_init_9 kX4_11 F.2.2.2.2.2.2.1.2.1 ac_int (F.2.2.2.2.2.2.1.1.1.2 0 _ rfl).2 (F.2.2.2.2.2.2.1.1.1.2 4 _ rfl).2 (by decide) (by decide) (by decide) (by decide) (by decide) (by decide) rfl rfl (fun c => arrV_new c 6 _) (by decide) (by decide) (by decide) (by decide) (by decide) ?_
  refine n_putF (o := 42) (fs := [.null, .int 0]) F hin dX4_init_13 qX4_13 (by decide) (by decide) rfl rfl rfl (Nat.le_of_ble_eq_true rfl) ?_
  refine n_aload_n F 0 dX4_init_16 rfl rfl ?_
  refine n_iconst (v := nI 0) F dX4_init_17 (by decide) ?_
  refine n_put (o := 42) (fs := [rf X 43, .int 0]) F dX4_init_18 rX4_16 (by decide) (by decide) rfl rfl rfl (Nat.le_of_ble_eq_true rfl) ?_
  exact hret _ _ _ _ (by decide) dX4_init_21 h
theorem oX6_3 : Cond.methodLink RX6 3 objectInit ∈ gtb := (gtb_of (tb1 (List.mem_of_getElem? (i := 88) (by decide +kernel))) (by decide +kernel))
theorem qX6_9 : FQ RX6 9 4 0 (.object "TuneBench$Sizes") := ⟨RX6, TX6, 9, tyX6, rfl, by decide, ingX6, tyX6_ok, nmX6, rfl, rfl, by decide +kernel, (gtb_of (tb1 (List.mem_of_getElem? (i := 107) (by decide +kernel))) (by decide +kernel))⟩
theorem qX6_15 : FQ RX6 15 4 1 (.array .int) := ⟨RX6, TX6, 9, tyX6, rfl, by decide, ingX6, tyX6_ok, nmX6, rfl, rfl, by decide +kernel, (gtb_of (tb1 (List.mem_of_getElem? (i := 108) (by decide +kernel))) (by decide +kernel))⟩
theorem qX6_19 : FQ RX6 19 4 2 (.array .int) := ⟨RX6, TX6, 9, tyX6, rfl, by decide, ingX6, tyX6_ok, nmX6, rfl, rfl, by decide +kernel, (gtb_of (tb1 (List.mem_of_getElem? (i := 110) (by decide +kernel))) (by decide +kernel))⟩
theorem qX6_22 : FQ RX6 22 4 3 (.array .int) := ⟨RX6, TX6, 9, tyX6, rfl, by decide, ingX6, tyX6_ok, nmX6, rfl, rfl, by decide +kernel, (gtb_of (tb1 (List.mem_of_getElem? (i := 111) (by decide +kernel))) (by decide +kernel))⟩
theorem qX6_25 : FQ RX6 25 4 4 (.array .int) := ⟨RX6, TX6, 9, tyX6, rfl, by decide, ingX6, tyX6_ok, nmX6, rfl, rfl, by decide +kernel, (gtb_of (tb1 (List.mem_of_getElem? (i := 112) (by decide +kernel))) (by decide +kernel))⟩
theorem kX6_30 : Cond.classLink RX6 30 ("[" ++ (FieldType.array .int).toString) ∈ gtb := (gtb_of (tb1 (List.mem_of_getElem? (i := 89) (by decide +kernel))) (by decide +kernel))
theorem qX6_32 : FQ RX6 32 4 5 (.array (.array .int)) := ⟨RX6, TX6, 9, tyX6, rfl, by decide, ingX6, tyX6_ok, nmX6, rfl, rfl, by decide +kernel, (gtb_of (tb1 (List.mem_of_getElem? (i := 113) (by decide +kernel))) (by decide +kernel))⟩
theorem qX6_35 : FQ RX6 35 4 6 (.array .int) := ⟨RX6, TX6, 9, tyX6, rfl, by decide, ingX6, tyX6_ok, nmX6, rfl, rfl, by decide +kernel, (gtb_of (tb1 (List.mem_of_getElem? (i := 114) (by decide +kernel))) (by decide +kernel))⟩
theorem ncX6_28 : NC RX6 28 3 2 [.null, .int 0] := ⟨RX4, TX4, tyX4, rfl, ingX4, tyX4_ok, (gtb_of (tb1 (List.mem_of_getElem? (i := 90) (by decide +kernel))) (by decide +kernel)), (gtb_of (tb1 (List.mem_of_getElem? (i := 91) (by decide +kernel))) (by decide +kernel)), (gtb_of (tb1 (List.mem_of_getElem? (i := 6) (by decide +kernel))) (by decide +kernel)), fun j hj => by rcases (show j = 0 ∨ j = 1 by omega) with rfl | rfl <;> rfl⟩
theorem iX6_38 : IL RX6 38 yX4_init 0 := ⟨(gtb_of (tb1 (List.mem_of_getElem? (i := 92) (by decide +kernel))) (by decide +kernel)), (gtb_of (tb1 (List.mem_of_getElem? (i := 93) (by decide +kernel))) (by decide +kernel)), (gtb_of (tb1 (List.mem_of_getElem? (i := 6) (by decide +kernel))) (by decide +kernel)), rfl, ⟨by decide +kernel, by decide +kernel, by decide +kernel⟩⟩
theorem rX6_39 : FR RX6 39 4 7 (.object "TuneBench$NoteList") := ⟨RX6, TX6, 9, tyX6, rfl, by decide, ingX6, tyX6_ok, nmX6, rfl, by decide +kernel, (gtb_of (tb1 (List.mem_of_getElem? (i := 115) (by decide +kernel))) (by decide +kernel))⟩
theorem rX6_43 : FR RX6 43 4 8 (.object "TuneBench$NoteList") := ⟨RX6, TX6, 9, tyX6, rfl, by decide, ingX6, tyX6_ok, nmX6, rfl, by decide +kernel, (gtb_of (tb1 (List.mem_of_getElem? (i := 117) (by decide +kernel))) (by decide +kernel))⟩
theorem c_X6_33 {X : Cx} {sz : Nat} {g : Mem} {Q : Mem → Nat → Prop} (h : Q (va_up (va_up (va_up (va_ups (va_up (va_up (va_up (va_up (va_up (va_ups (va_up (va_up (va_up (va_up (va_up (va_ups (va_up (va_up (va_up (va_up (va_up (va_up (va_up (va_up (va_up (va_up (va_up g 33 (.inr (4, [.null, .null, .null, .null, .null, .null, .null, .null, .null]))) 33 (.inr (4, [rf X 24, .null, .null, .null, .null, .null, .null, .null, .null]))) 34 (.inl (X.2.2.2.1 0, (6, .inl (fun _ => 0))))) 33 (.inr (4, [rf X 24, rf X 34, .null, .null, .null, .null, .null, .null, .null]))) 35 (.inl (X.2.2.2.1 0, (6, .inl (fun _ => 0))))) 33 (.inr (4, [rf X 24, rf X 34, rf X 35, .null, .null, .null, .null, .null, .null]))) 36 (.inl (X.2.2.2.1 0, (6, .inl (fun _ => 0))))) 33 (.inr (4, [rf X 24, rf X 34, rf X 35, rf X 36, .null, .null, .null, .null, .null]))) 37 (.inl (X.2.2.2.1 0, (6, .inl (fun _ => 0))))) 33 (.inr (4, [rf X 24, rf X 34, rf X 35, rf X 36, rf X 37, .null, .null, .null, .null]))) 38 (.inl (X.2.2.2.1 4, 24, .inr (.inr (.inr (.inr (fun k => some (X.2.2.1 (75 + k))))))))) 75 24 (.inl (X.2.2.2.1 0, (6, .inl (fun _ => 0))))) 33 (.inr (4, [rf X 24, rf X 34, rf X 35, rf X 36, rf X 37, rf X 38, .null, .null, .null]))) 39 (.inl (X.2.2.2.1 0, (24, .inl (fun _ => 0))))) 33 (.inr (4, [rf X 24, rf X 34, rf X 35, rf X 36, rf X 37, rf X 38, rf X 39, .null, .null]))) 40 (.inr (3, [.null, .int 0]))) 41 (.inl (X.2.2.2.1 4, 24, .inr (.inr (.inr (.inr (fun k => some (X.2.2.1 (99 + k))))))))) 99 24 (.inl (X.2.2.2.1 0, (6, .inl (fun _ => 0))))) 40 (.inr (3, [rf X 41, .int 0]))) 40 (.inr (3, [rf X 41, .int (nI 0)]))) 33 (.inr (4, [rf X 24, rf X 34, rf X 35, rf X 36, rf X 37, rf X 38, rf X 39, rf X 40, .null]))) 42 (.inr (3, [.null, .int 0]))) 43 (.inl (X.2.2.2.1 4, 24, .inr (.inr (.inr (.inr (fun k => some (X.2.2.1 (123 + k))))))))) 123 24 (.inl (X.2.2.2.1 0, (6, .inl (fun _ => 0))))) 42 (.inr (3, [rf X 43, .int 0]))) 42 (.inr (3, [rf X 43, .int (nI 0)]))) 33 (.inr (4, [rf X 24, rf X 34, rf X 35, rf X 36, rf X 37, rf X 38, rf X 39, rf X 40, rf X 42]))) 124) : CtM X sz 2 82 556 yX6_init [rf X 33, rf X 24] (va_up g 33 (.inr (4, [.null, .null, .null, .null, .null, .null, .null, .null, .null]))) 42 Q := by
  refine CtM_intro (own := RX6) [some (rf X 33), some (rf X 24)] wX6_init (by decide) (by decide) rfl rfl (Nat.le_of_ble_eq_true rfl) rfl (fun p e s m below meth c Qw F hin hret => ?_)
  refine n_aload_n F 0 dX6_init_0 rfl rfl ?_
  refine n_obj F dX6_init_1 oX6_3 (by decide) (Nat.le_of_ble_eq_true rfl) ?_
  refine n_aload_n F 0 dX6_init_4 rfl rfl ?_
  refine n_aload_n F 1 dX6_init_5 rfl rfl ?_
  refine n_putF (o := 33) (fs := [.null, .null, .null, .null, .null, .null, .null, .null, .null]) F hin dX6_init_6 qX6_9 (by decide) (by decide) rfl rfl rfl (Nat.le_of_ble_eq_true rfl) ?_
  refine n_aload_n F 0 dX6_init_9 rfl rfl ?_
  refine n_bipush (v := nI 6) F dX6_init_10 (by decide) ?_
  refine n_newa (o := 34) (t0 := 0) (ty := .int) (n' := 6) (a0 := (6, .inl (fun _ => 0))) F dX6_init_12 rfl ac_int rfl (fun h => h) (fun _ => rfl) (by decide) (by decide) (by decide) (by decide) (by decide) (by decide) (by decide) ?_
  refine n_putF (o := 33) (fs := [rf X 24, .null, .null, .null, .null, .null, .null, .null, .null]) F hin dX6_init_14 qX6_15 (by decide) (by decide) rfl rfl rfl (Nat.le_of_ble_eq_true rfl) ?_
  refine n_aload_n F 0 dX6_init_17 rfl rfl ?_
  refine n_bipush (v := nI 6) F dX6_init_18 (by decide) ?_
  refine n_newa (o := 35) (t0 := 0) (ty := .int) (n' := 6) (a0 := (6, .inl (fun _ => 0))) F dX6_init_20 rfl ac_int rfl (fun h => h) (fun _ => rfl) (by decide) (by decide) (by decide) (by decide) (by decide) (by decide) (by decide) ?_
  refine n_putF (o := 33) (fs := [rf X 24, rf X 34, .null, .null, .null, .null, .null, .null, .null]) F hin dX6_init_22 qX6_19 (by decide) (by decide) rfl rfl rfl (Nat.le_of_ble_eq_true rfl) ?_
  refine n_aload_n F 0 dX6_init_25 rfl rfl ?_
  refine n_bipush (v := nI 6) F dX6_init_26 (by decide) ?_
  refine n_newa (o := 36) (t0 := 0) (ty := .int) (n' := 6) (a0 := (6, .inl (fun _ => 0))) F dX6_init_28 rfl ac_int rfl (fun h => h) (fun _ => rfl) (by decide) (by decide) (by decide) (by decide) (by decide) (by decide) (by decide) ?_
  refine n_putF (o := 33) (fs := [rf X 24, rf X 34, rf X 35, .null, .null, .null, .null, .null, .null]) F hin dX6_init_30 qX6_22 (by decide) (by decide) rfl rfl rfl (Nat.le_of_ble_eq_true rfl) ?_
  refine n_aload_n F 0 dX6_init_33 rfl rfl ?_
  refine n_bipush (v := nI 6) F dX6_init_34 (by decide) ?_
  refine n_newa (o := 37) (t0 := 0) (ty := .int) (n' := 6) (a0 := (6, .inl (fun _ => 0))) F dX6_init_36 rfl ac_int rfl (fun h => h) (fun _ => rfl) (by decide) (by decide) (by decide) (by decide) (by decide) (by decide) (by decide) ?_
  refine n_putF (o := 33) (fs := [rf X 24, rf X 34, rf X 35, rf X 36, .null, .null, .null, .null, .null]) F hin dX6_init_38 qX6_25 (by decide) (by decide) rfl rfl rfl (Nat.le_of_ble_eq_true rfl) ?_
  refine n_aload_n F 0 dX6_init_41 rfl rfl ?_
  refine n_bipush (v := nI 24) F dX6_init_42 (by decide) ?_
  refine n_bipush (v := nI 6) F dX6_init_44 (by decide) ?_
  refine n_mna (o := 38) (lo := 75) (t1 := 4) (t0 := 0) (n' := 24) (ty := .int) (z := (6, .inl (fun _ => 0))) F dX6_init_46 kX6_30 F.2.2.2.2.2.2.1.2.1 ac_int (F.2.2.2.2.2.2.1.1.1.2 0 _ rfl).2 (F.2.2.2.2.2.2.1.1.1.2 4 _ rfl).2 (by decide) (by decide) (by decide) (by decide) (by decide) (by decide) rfl rfl (fun c => arrV_new c 6 _) (by decide) (by decide) (by decide) (by decide) (by decide) ?_
  refine n_putF (o := 33) (fs := [rf X 24, rf X 34, rf X 35, rf X 36, rf X 37, .null, .null, .null, .null]) F hin dX6_init_50 qX6_32 (by decide) (by decide) rfl rfl rfl (Nat.le_of_ble_eq_true rfl) ?_
  refine n_aload_n F 0 dX6_init_53 rfl rfl ?_
  refine n_bipush (v := nI 24) F dX6_init_54 (by decide) ?_
  refine n_newa (o := 39) (t0 := 0) (ty := .int) (n' := 24) (a0 := (24, .inl (fun _ => 0))) F dX6_init_56 rfl ac_int rfl (fun h => h) (fun _ => rfl) (by decide) (by decide) (by decide) (by decide) (by decide) (by decide) (by decide) ?_
  refine n_putF (o := 33) (fs := [rf X 24, rf X 34, rf X 35, rf X 36, rf X 37, rf X 38, .null, .null, .null]) F hin dX6_init_58 qX6_35 (by decide) (by decide) rfl rfl rfl (Nat.le_of_ble_eq_true rfl) ?_
  refine n_aload_n F 0 dX6_init_61 rfl rfl ?_
  refine n_new (o := 40) F dX6_init_62 ncX6_28 (by decide) (by decide) (by decide) (by decide) ?_
  refine n_dup F dX6_init_65 rfl ?_
  refine n_call (d1 := 1) (mc := 25) (ms := 168) (as := []) (r := [rf X 40, rf X 33]) F dX6_init_66 iX6_38 rfl (Nat.le_of_ble_eq_true rfl) (by decide) (by decide) (by decide) (by decide) rfl (c_X4_40 ?_)
  refine n_put (o := 33) (fs := [rf X 24, rf X 34, rf X 35, rf X 36, rf X 37, rf X 38, rf X 39, .null, .null]) F dX6_init_69 rX6_39 (by decide) (by decide) rfl rfl rfl (Nat.le_of_ble_eq_true rfl) ?_
  refine n_aload_n F 0 dX6_init_72 rfl rfl ?_
  refine n_new (o := 42) F dX6_init_73 ncX6_28 (by decide) (by decide) (by decide) (by decide) ?_
  refine n_dup F dX6_init_76 rfl ?_
  refine n_call (d1 := 1) (mc := 25) (ms := 168) (as := []) (r := [rf X 42, rf X 33]) F dX6_init_77 iX6_38 rfl (Nat.le_of_ble_eq_true rfl) (by decide) (by decide) (by decide) (by decide) rfl (c_X4_42 ?_)
  refine n_put (o := 33) (fs := [rf X 24, rf X 34, rf X 35, rf X 36, rf X 37, rf X 38, rf X 39, rf X 40, .null]) F dX6_init_80 rX6_43 (by decide) (by decide) rfl rfl rfl (Nat.le_of_ble_eq_true rfl) ?_
  exact hret _ _ _ _ (by decide) dX6_init_83 h
theorem oX2_3 : Cond.methodLink RX2 3 objectInit ∈ gtb := (gtb_of (tb1 (List.mem_of_getElem? (i := 142) (by decide +kernel))) (by decide +kernel))
theorem qX2_9 : FQ RX2 9 1 0 (.object "TuneBench$Sizes") := ⟨RX2, TX2, 4, tyX2, rfl, by decide, ingX2, tyX2_ok, nmX2, rfl, rfl, by decide +kernel, (gtb_of (tb1 (List.mem_of_getElem? (i := 143) (by decide +kernel))) (by decide +kernel))⟩
theorem qX2_15 : FQ RX2 15 1 1 (.array .int) := ⟨RX2, TX2, 4, tyX2, rfl, by decide, ingX2, tyX2_ok, nmX2, rfl, rfl, by decide +kernel, (gtb_of (tb1 (List.mem_of_getElem? (i := 144) (by decide +kernel))) (by decide +kernel))⟩
theorem rX2_19 : FR RX2 19 1 2 (.array .int) := ⟨RX2, TX2, 4, tyX2, rfl, by decide, ingX2, tyX2_ok, nmX2, rfl, by decide +kernel, (gtb_of (tb1 (List.mem_of_getElem? (i := 145) (by decide +kernel))) (by decide +kernel))⟩
theorem rX2_22 : FR RX2 22 1 3 (.array .int) := ⟨RX2, TX2, 4, tyX2, rfl, by decide, ingX2, tyX2_ok, nmX2, rfl, by decide +kernel, (gtb_of (tb1 (List.mem_of_getElem? (i := 146) (by decide +kernel))) (by decide +kernel))⟩
theorem c_X2_44 {X : Cx} {sz : Nat} {g : Mem} {Q : Mem → Nat → Prop} (h : Q (va_up (va_up (va_up (va_up (va_up (va_up (va_up (va_up g 44 (.inr (1, [.null, .null, .null, .null]))) 44 (.inr (1, [rf X 24, .null, .null, .null]))) 45 (.inl (X.2.2.2.1 0, (6, .inl (fun _ => 0))))) 44 (.inr (1, [rf X 24, rf X 45, .null, .null]))) 46 (.inl (X.2.2.2.1 0, (6, .inl (fun _ => 0))))) 44 (.inr (1, [rf X 24, rf X 45, rf X 46, .null]))) 47 (.inl (X.2.2.2.1 0, (6, .inl (fun _ => 0))))) 44 (.inr (1, [rf X 24, rf X 45, rf X 46, rf X 47]))) 128) : CtM X sz 1 3 18 yX2_init [rf X 44, rf X 24] (va_up g 44 (.inr (1, [.null, .null, .null, .null]))) 125 Q := by
  refine CtM_intro (own := RX2) [some (rf X 44), some (rf X 24)] wX2_init (by decide) (by decide) rfl rfl (Nat.le_of_ble_eq_true rfl) rfl (fun p e s m below meth c Qw F hin hret => ?_)
  refine n_aload_n F 0 dX2_init_0 rfl rfl ?_
  refine n_obj F dX2_init_1 oX2_3 (by decide) (Nat.le_of_ble_eq_true rfl) ?_
  refine n_aload_n F 0 dX2_init_4 rfl rfl ?_
  refine n_aload_n F 1 dX2_init_5 rfl rfl ?_
  refine n_putF (o := 44) (fs := [.null, .null, .null, .null]) F hin dX2_init_6 qX2_9 (by decide) (by decide) rfl rfl rfl (Nat.le_of_ble_eq_true rfl) ?_
  refine n_aload_n F 0 dX2_init_9 rfl rfl ?_
  refine n_bipush (v := nI 6) F dX2_init_10 (by decide) ?_
  refine n_newa (o := 45) (t0 := 0) (ty := .int) (n' := 6) (a0 := (6, .inl (fun _ => 0))) F dX2_init_12 rfl ac_int rfl (fun h => h) (fun _ => rfl) (by decide) (by decide) (by decide) (by decide) (by decide) (by decide) (by decide) ?_
  refine n_putF (o := 44) (fs := [rf X 24, .null, .null, .null]) F hin dX2_init_14 qX2_15 (by decide) (by decide) rfl rfl rfl (Nat.le_of_ble_eq_true rfl) ?_
  refine n_aload_n F 0 dX2_init_17 rfl rfl ?_
  refine n_bipush (v := nI 6) F dX2_init_18 (by decide) ?_
  refine n_newa (o := 46) (t0 := 0) (ty := .int) (n' := 6) (a0 := (6, .inl (fun _ => 0))) F dX2_init_20 rfl ac_int rfl (fun h => h) (fun _ => rfl) (by decide) (by decide) (by decide) (by decide) (by decide) (by decide) (by decide) ?_
  refine n_put (o := 44) (fs := [rf X 24, rf X 45, .null, .null]) F dX2_init_22 rX2_19 (by decide) (by decide) rfl rfl rfl (Nat.le_of_ble_eq_true rfl) ?_
  refine n_aload_n F 0 dX2_init_25 rfl rfl ?_
  refine n_bipush (v := nI 6) F dX2_init_26 (by decide) ?_
  refine n_newa (o := 47) (t0 := 0) (ty := .int) (n' := 6) (a0 := (6, .inl (fun _ => 0))) F dX2_init_28 rfl ac_int rfl (fun h => h) (fun _ => rfl) (by decide) (by decide) (by decide) (by decide) (by decide) (by decide) (by decide) ?_
  refine n_put (o := 44) (fs := [rf X 24, rf X 45, rf X 46, .null]) F dX2_init_30 rX2_22 (by decide) (by decide) rfl rfl rfl (Nat.le_of_ble_eq_true rfl) ?_
  exact hret _ _ _ _ (by decide) dX2_init_33 h
theorem oX8_1 : Cond.methodLink RX8 1 objectInit ∈ gtb := (gtb_of (tb1 (List.mem_of_getElem? (i := 19) (by decide +kernel))) (by decide +kernel))
theorem kX8_9 : Cond.classLink RX8 9 ("[" ++ (FieldType.array .int).toString) ∈ gtb := (gtb_of (tb1 (List.mem_of_getElem? (i := 22) (by decide +kernel))) (by decide +kernel))
theorem qX8_11 : FQ RX8 11 6 0 (.array (.array .int)) := ⟨RX8, TX8, 10, tyX8, rfl, by decide, ingX8, tyX8_ok, nmX8, rfl, rfl, by decide +kernel, (gtb_of (tb1 (List.mem_of_getElem? (i := 156) (by decide +kernel))) (by decide +kernel))⟩
theorem qX8_14 : FQ RX8 14 6 1 (.array .boolean) := ⟨RX8, TX8, 10, tyX8, rfl, by decide, ingX8, tyX8_ok, nmX8, rfl, rfl, by decide +kernel, (gtb_of (tb1 (List.mem_of_getElem? (i := 157) (by decide +kernel))) (by decide +kernel))⟩
theorem qX8_18 : FQ RX8 18 6 2 (.array .int) := ⟨RX8, TX8, 10, tyX8, rfl, by decide, ingX8, tyX8_ok, nmX8, rfl, rfl, by decide +kernel, (gtb_of (tb1 (List.mem_of_getElem? (i := 158) (by decide +kernel))) (by decide +kernel))⟩
theorem qX8_22 : FQ RX8 22 6 3 (.array .byte) := ⟨RX8, TX8, 10, tyX8, rfl, by decide, ingX8, tyX8_ok, nmX8, rfl, rfl, by decide +kernel, (gtb_of (tb1 (List.mem_of_getElem? (i := 159) (by decide +kernel))) (by decide +kernel))⟩
theorem ncX8_26 : NC RX8 26 5 3 [.null, .null, .null] := ⟨RX7, TX7, tyX7, rfl, ingX7, tyX7_ok, (gtb_of (tb1 (List.mem_of_getElem? (i := 24) (by decide +kernel))) (by decide +kernel)), (gtb_of (tb1 (List.mem_of_getElem? (i := 25) (by decide +kernel))) (by decide +kernel)), (gtb_of (tb1 (List.mem_of_getElem? (i := 2) (by decide +kernel))) (by decide +kernel)), fun j hj => by rcases (show j = 0 ∨ j = 1 ∨ j = 2 by omega) with rfl | rfl | rfl <;> rfl⟩
theorem iX8_28 : IL RX8 28 yX7_init 0 := ⟨(gtb_of (tb1 (List.mem_of_getElem? (i := 26) (by decide +kernel))) (by decide +kernel)), (gtb_of (tb1 (List.mem_of_getElem? (i := 27) (by decide +kernel))) (by decide +kernel)), (gtb_of (tb1 (List.mem_of_getElem? (i := 2) (by decide +kernel))) (by decide +kernel)), rfl, ⟨by decide +kernel, by decide +kernel, by decide +kernel⟩⟩
theorem qX8_29 : FQ RX8 29 6 4 (.object "TuneBench$Sizes") := ⟨RX8, TX8, 10, tyX8, rfl, by decide, ingX8, tyX8_ok, nmX8, rfl, rfl, by decide +kernel, (gtb_of (tb1 (List.mem_of_getElem? (i := 160) (by decide +kernel))) (by decide +kernel))⟩
theorem ncX8_33 : NC RX8 33 0 4 [.null, .null, .int 0, .long 0] := ⟨RX0, TX0, tyX0, rfl, ingX0, tyX0_ok, (gtb_of (tb1 (List.mem_of_getElem? (i := 59) (by decide +kernel))) (by decide +kernel)), (gtb_of (tb1 (List.mem_of_getElem? (i := 60) (by decide +kernel))) (by decide +kernel)), (gtb_of (tb1 (List.mem_of_getElem? (i := 4) (by decide +kernel))) (by decide +kernel)), fun j hj => by rcases (show j = 0 ∨ j = 1 ∨ j = 2 ∨ j = 3 by omega) with rfl | rfl | rfl | rfl <;> rfl⟩
theorem iX8_35 : IL RX8 35 yX0_init 0 := ⟨(gtb_of (tb1 (List.mem_of_getElem? (i := 61) (by decide +kernel))) (by decide +kernel)), (gtb_of (tb1 (List.mem_of_getElem? (i := 62) (by decide +kernel))) (by decide +kernel)), (gtb_of (tb1 (List.mem_of_getElem? (i := 4) (by decide +kernel))) (by decide +kernel)), rfl, ⟨by decide +kernel, by decide +kernel, by decide +kernel⟩⟩
theorem qX8_36 : FQ RX8 36 6 5 (.object "TuneBench$Commas") := ⟨RX8, TX8, 10, tyX8, rfl, by decide, ingX8, tyX8_ok, nmX8, rfl, rfl, by decide +kernel, (gtb_of (tb1 (List.mem_of_getElem? (i := 161) (by decide +kernel))) (by decide +kernel))⟩
theorem ncX8_40 : NC RX8 40 4 9 [.null, .null, .null, .null, .null, .null, .null, .null, .null] := ⟨RX6, TX6, tyX6, rfl, ingX6, tyX6_ok, (gtb_of (tb1 (List.mem_of_getElem? (i := 83) (by decide +kernel))) (by decide +kernel)), (gtb_of (tb1 (List.mem_of_getElem? (i := 84) (by decide +kernel))) (by decide +kernel)), (gtb_of (tb1 (List.mem_of_getElem? (i := 5) (by decide +kernel))) (by decide +kernel)), fun j hj => by rcases (show j = 0 ∨ j = 1 ∨ j = 2 ∨ j = 3 ∨ j = 4 ∨ j = 5 ∨ j = 6 ∨ j = 7 ∨ j = 8 by omega) with rfl | rfl | rfl | rfl | rfl | rfl | rfl | rfl | rfl <;> rfl⟩
theorem iX8_42 : IL RX8 42 yX6_init 1 := ⟨(gtb_of (tb1 (List.mem_of_getElem? (i := 85) (by decide +kernel))) (by decide +kernel)), (gtb_of (tb1 (List.mem_of_getElem? (i := 86) (by decide +kernel))) (by decide +kernel)), (gtb_of (tb1 (List.mem_of_getElem? (i := 5) (by decide +kernel))) (by decide +kernel)), rfl, ⟨by decide +kernel, by decide +kernel, by decide +kernel⟩⟩
theorem qX8_45 : FQ RX8 45 6 6 (.object "TuneBench$Scale") := ⟨RX8, TX8, 10, tyX8, rfl, by decide, ingX8, tyX8_ok, nmX8, rfl, rfl, by decide +kernel, (gtb_of (tb1 (List.mem_of_getElem? (i := 162) (by decide +kernel))) (by decide +kernel))⟩
theorem ncX8_49 : NC RX8 49 1 4 [.null, .null, .null, .null] := ⟨RX2, TX2, tyX2, rfl, ingX2, tyX2_ok, (gtb_of (tb1 (List.mem_of_getElem? (i := 137) (by decide +kernel))) (by decide +kernel)), (gtb_of (tb1 (List.mem_of_getElem? (i := 138) (by decide +kernel))) (by decide +kernel)), (gtb_of (tb1 (List.mem_of_getElem? (i := 7) (by decide +kernel))) (by decide +kernel)), fun j hj => by rcases (show j = 0 ∨ j = 1 ∨ j = 2 ∨ j = 3 by omega) with rfl | rfl | rfl | rfl <;> rfl⟩
theorem iX8_51 : IL RX8 51 yX2_init 1 := ⟨(gtb_of (tb1 (List.mem_of_getElem? (i := 139) (by decide +kernel))) (by decide +kernel)), (gtb_of (tb1 (List.mem_of_getElem? (i := 140) (by decide +kernel))) (by decide +kernel)), (gtb_of (tb1 (List.mem_of_getElem? (i := 7) (by decide +kernel))) (by decide +kernel)), rfl, ⟨by decide +kernel, by decide +kernel, by decide +kernel⟩⟩
theorem qX8_52 : FQ RX8 52 6 7 (.object "TuneBench$Measure") := ⟨RX8, TX8, 10, tyX8, rfl, by decide, ingX8, tyX8_ok, nmX8, rfl, rfl, by decide +kernel, (gtb_of (tb1 (List.mem_of_getElem? (i := 163) (by decide +kernel))) (by decide +kernel))⟩
theorem rX8_56 : FR RX8 56 6 8 .int := ⟨RX8, TX8, 10, tyX8, rfl, by decide, ingX8, tyX8_ok, nmX8, rfl, by decide +kernel, (gtb_of (tb1 (List.mem_of_getElem? (i := 164) (by decide +kernel))) (by decide +kernel))⟩
theorem rX8_60 : FR RX8 60 6 9 .int := ⟨RX8, TX8, 10, tyX8, rfl, by decide, ingX8, tyX8_ok, nmX8, rfl, by decide +kernel, (gtb_of (tb1 (List.mem_of_getElem? (i := 165) (by decide +kernel))) (by decide +kernel))⟩
theorem c_X8_19 {X : Cx} {sz : Nat} {g : Mem} {Q : Mem → Nat → Prop} (h : Q (va_up (va_up (va_up (va_up (va_up (va_up (va_up (va_up (va_up (va_up (va_up (va_up (va_up (va_up (va_up (va_ups (va_up (va_up (va_up (va_up (va_up (va_ups (va_up (va_up (va_up (va_up (va_up (va_ups (va_up (va_up (va_up (va_up (va_up (va_up (va_up (va_up (va_up (va_up (va_up (va_up (va_up (va_up (va_up (va_ups (va_up (va_up (va_ups (va_up (va_up (va_up (va_up (va_up (va_up (va_up (va_up (va_up (va_up (va_up (va_up (va_up (va_up (va_up (va_up (va_up (va_up (va_up (va_up (va_up (va_up (va_up (va_up (va_up (va_up (va_up (va_ups (va_up (va_up g 19 (.inr (6, [.null, .null, .null, .null, .null, .null, .null, .null, .int 0, .int 0]))) 20 (.inl (X.2.2.2.1 4, 16, .inr (.inr (.inr (.inr (fun k => some (X.2.2.1 (48 + k))))))))) 48 16 (.inl (X.2.2.2.1 0, (6, .inl (fun _ => 0))))) 19 (.inr (6, [rf X 20, .null, .null, .null, .null, .null, .null, .null, .int 0, .int 0]))) 21 (.inl (X.2.2.2.1 3, (16, .inl (fun _ => 0))))) 19 (.inr (6, [rf X 20, rf X 21, .null, .null, .null, .null, .null, .null, .int 0, .int 0]))) 22 (.inl (X.2.2.2.1 0, (6, .inl (fun _ => 0))))) 19 (.inr (6, [rf X 20, rf X 21, rf X 22, .null, .null, .null, .null, .null, .int 0, .int 0]))) 23 (.inl (X.2.2.2.1 2, (256, .inl (fun _ => 0))))) 19 (.inr (6, [rf X 20, rf X 21, rf X 22, rf X 23, .null, .null, .null, .null, .int 0, .int 0]))) 24 (.inr (5, [.null, .null, .null]))) 25 (.inr (2, [.null, .int 0, .long 0]))) 26 (.inl (X.2.2.2.1 0, (104, .inl (fun _ => 0))))) 25 (.inr (2, [rf X 26, .int 0, .long 0]))) 26 (aI X 104 (upd (fun _ => 0) 0 (nI 1)))) 25 (.inr (2, [rf X 26, .int (nI 1), .long 0]))) 25 (.inr (2, [rf X 26, .int (nI 1), .long 1]))) 24 (.inr (5, [rf X 25, .null, .null]))) 27 (.inr (2, [.null, .int 0, .long 0]))) 28 (.inl (X.2.2.2.1 0, (104, .inl (fun _ => 0))))) 27 (.inr (2, [rf X 28, .int 0, .long 0]))) 28 (aI X 104 (upd (fun _ => 0) 0 (nI 1)))) 27 (.inr (2, [rf X 28, .int (nI 1), .long 0]))) 27 (.inr (2, [rf X 28, .int (nI 1), .long 1]))) 24 (.inr (5, [rf X 25, rf X 27, .null]))) 29 (.inl (X.2.2.2.1 0, (6, .inl (fun _ => 0))))) 24 (.inr (5, [rf X 25, rf X 27, rf X 29]))) 19 (.inr (6, [rf X 20, rf X 21, rf X 22, rf X 23, rf X 24, .null, .null, .null, .int 0, .int 0]))) 30 (.inr (0, [.null, .null, .int 0, .long 0]))) 31 (.inl (X.2.2.2.1 4, 5, .inr (.inr (.inr (.inr (fun k => some (X.2.2.1 (64 + k))))))))) 64 5 (.inl (X.2.2.2.1 0, (6, .inl (fun _ => 0))))) 30 (.inr (0, [rf X 31, .null, .int 0, .long 0]))) 32 (.inl (X.2.2.2.1 5, 6, .inr (.inr (.inr (.inr (fun k => some (X.2.2.1 (69 + k))))))))) 69 6 (.inl (X.2.2.2.1 1, (6, .inr (.inl (fun _ => 0)))))) 30 (.inr (0, [rf X 31, rf X 32, .int 0, .long 0]))) 30 (.inr (0, [rf X 31, rf X 32, .int (nI 0), .long 0]))) 30 (.inr (0, [rf X 31, rf X 32, .int (nI 0), .long 1]))) 19 (.inr (6, [rf X 20, rf X 21, rf X 22, rf X 23, rf X 24, rf X 30, .null, .null, .int 0, .int 0]))) 33 (.inr (4, [.null, .null, .null, .null, .null, .null, .null, .null, .null]))) 33 (.inr (4, [rf X 24, .null, .null, .null, .null, .null, .null, .null, .null]))) 34 (.inl (X.2.2.2.1 0, (6, .inl (fun _ => 0))))) 33 (.inr (4, [rf X 24, rf X 34, .null, .null, .null, .null, .null, .null, .null]))) 35 (.inl (X.2.2.2.1 0, (6, .inl (fun _ => 0))))) 33 (.inr (4, [rf X 24, rf X 34, rf X 35, .null, .null, .null, .null, .null, .null]))) 36 (.inl (X.2.2.2.1 0, (6, .inl (fun _ => 0))))) 33 (.inr (4, [rf X 24, rf X 34, rf X 35, rf X 36, .null, .null, .null, .null, .null]))) 37 (.inl (X.2.2.2.1 0, (6, .inl (fun _ => 0))))) 33 (.inr (4, [rf X 24, rf X 34, rf X 35, rf X 36, rf X 37, .null, .null, .null, .null]))) 38 (.inl (X.2.2.2.1 4, 24, .inr (.inr (.inr (.inr (fun k => some (X.2.2.1 (75 + k))))))))) 75 24 (.inl (X.2.2.2.1 0, (6, .inl (fun _ => 0))))) 33 (.inr (4, [rf X 24, rf X 34, rf X 35, rf X 36, rf X 37, rf X 38, .null, .null, .null]))) 39 (.inl (X.2.2.2.1 0, (24, .inl (fun _ => 0))))) 33 (.inr (4, [rf X 24, rf X 34, rf X 35, rf X 36, rf X 37, rf X 38, rf X 39, .null, .null]))) 40 (.inr (3, [.null, .int 0]))) 41 (.inl (X.2.2.2.1 4, 24, .inr (.inr (.inr (.inr (fun k => some (X.2.2.1 (99 + k))))))))) 99 24 (.inl (X.2.2.2.1 0, (6, .inl (fun _ => 0))))) 40 (.inr (3, [rf X 41, .int 0]))) 40 (.inr (3, [rf X 41, .int (nI 0)]))) 33 (.inr (4, [rf X 24, rf X 34, rf X 35, rf X 36, rf X 37, rf X 38, rf X 39, rf X 40, .null]))) 42 (.inr (3, [.null, .int 0]))) 43 (.inl (X.2.2.2.1 4, 24, .inr (.inr (.inr (.inr (fun k => some (X.2.2.1 (123 + k))))))))) 123 24 (.inl (X.2.2.2.1 0, (6, .inl (fun _ => 0))))) 42 (.inr (3, [rf X 43, .int 0]))) 42 (.inr (3, [rf X 43, .int (nI 0)]))) 33 (.inr (4, [rf X 24, rf X 34, rf X 35, rf X 36, rf X 37, rf X 38, rf X 39, rf X 40, rf X 42]))) 19 (.inr (6, [rf X 20, rf X 21, rf X 22, rf X 23, rf X 24, rf X 30, rf X 33, .null, .int 0, .int 0]))) 44 (.inr (1, [.null, .null, .null, .null]))) 44 (.inr (1, [rf X 24, .null, .null, .null]))) 45 (.inl (X.2.2.2.1 0, (6, .inl (fun _ => 0))))) 44 (.inr (1, [rf X 24, rf X 45, .null, .null]))) 46 (.inl (X.2.2.2.1 0, (6, .inl (fun _ => 0))))) 44 (.inr (1, [rf X 24, rf X 45, rf X 46, .null]))) 47 (.inl (X.2.2.2.1 0, (6, .inl (fun _ => 0))))) 44 (.inr (1, [rf X 24, rf X 45, rf X 46, rf X 47]))) 19 (.inr (6, [rf X 20, rf X 21, rf X 22, rf X 23, rf X 24, rf X 30, rf X 33, rf X 44, .int 0, .int 0]))) 19 (.inr (6, [rf X 20, rf X 21, rf X 22, rf X 23, rf X 24, rf X 30, rf X 33, rf X 44, .int (nI 0), .int 0]))) 19 (.inr (6, [rf X 20, rf X 21, rf X 22, rf X 23, rf X 24, rf X 30, rf X 33, rf X 44, .int (nI 0), .int (nI 0)]))) 128) : CtM X sz 3 127 1281 yX8_init [rf X 19] (va_up g 19 (.inr (6, [.null, .null, .null, .null, .null, .null, .null, .null, .int 0, .int 0]))) 1 Q := by
  refine CtM_intro (own := RX8) [some (rf X 19), none] wX8_init (by decide) (by decide) rfl rfl (Nat.le_of_ble_eq_true rfl) rfl (fun p e s m below meth c Qw F hin hret => ?_)
  refine n_aload_n F 0 dX8_init_0 rfl rfl ?_
  refine n_obj F dX8_init_1 oX8_1 (by decide) (Nat.le_of_ble_eq_true rfl) ?_
  refine n_aload_n F 0 dX8_init_4 rfl rfl ?_
  refine n_bipush (v := nI 16) F dX8_init_5 (by decide) ?_
  refine n_bipush (v := nI 6) F dX8_init_7 (by decide) ?_
  refine n_mna (o := 20) (lo := 48) (t1 := 4) (t0 := 0) (n' := 16) (ty := .int) (z := (6, .inl (fun _ => 0))) F dX8_init_9 kX8_9 F.2.2.2.2.2.2.1.2.1 ac_int (F.2.2.2.2.2.2.1.1.1.2 0 _ rfl).2 (F.2.2.2.2.2.2.1.1.1.2 4 _ rfl).2 (by decide) (by decide) (by decide) (by decide) (by decide) (by decide) rfl rfl (fun c => arrV_new c 6 _) (by decide) (by decide) (by decide) (by decide) (by decide) ?_
  refine n_putF (o := 19) (fs := [.null, .null, .null, .null, .null, .null, .null, .null, .int 0, .int 0]) F hin dX8_init_13 qX8_11 (by decide) (by decide) rfl rfl rfl (Nat.le_of_ble_eq_true rfl) ?_
  refine n_aload_n F 0 dX8_init_16 rfl rfl ?_
  refine n_bipush (v := nI 16) F dX8_init_17 (by decide) ?_
  refine n_newa (o := 21) (t0 := 3) (ty := .boolean) (n' := 16) (a0 := (16, .inl (fun _ => 0))) F dX8_init_19 rfl ac_bool rfl (fun h => h) (fun _ => rfl) (by decide) (by decide) (by decide) (by decide) (by decide) (by decide) (by decide) ?_
  refine n_putF (o := 19) (fs := [rf X 20, .null, .null, .null, .null, .null, .null, .null, .int 0, .int 0]) F hin dX8_init_21 qX8_14 (by decide) (by decide) rfl rfl rfl (Nat.le_of_ble_eq_true rfl) ?_
  refine n_aload_n F 0 dX8_init_24 rfl rfl ?_
  refine n_bipush (v := nI 6) F dX8_init_25 (by decide) ?_
  refine n_newa (o := 22) (t0 := 0) (ty := .int) (n' := 6) (a0 := (6, .inl (fun _ => 0))) F dX8_init_27 rfl ac_int rfl (fun h => h) (fun _ => rfl) (by decide) (by decide) (by decide) (by decide) (by decide) (by decide) (by decide) ?_
  refine n_putF (o := 19) (fs := [rf X 20, rf X 21, .null, .null, .null, .null, .null, .null, .int 0, .int 0]) F hin dX8_init_29 qX8_18 (by decide) (by decide) rfl rfl rfl (Nat.le_of_ble_eq_true rfl) ?_
  refine n_aload_n F 0 dX8_init_32 rfl rfl ?_
  refine n_sipush (v := nI 256) F dX8_init_33 (by decide) ?_
  refine n_newa (o := 23) (t0 := 2) (ty := .byte) (n' := 256) (a0 := (256, .inl (fun _ => 0))) F dX8_init_36 rfl ac_byte rfl (fun h => h) (fun _ => rfl) (by decide) (by decide) (by decide) (by decide) (by decide) (by decide) (by decide) ?_
  refine n_putF (o := 19) (fs := [rf X 20, rf X 21, rf X 22, .null, .null, .null, .null, .null, .int 0, .int 0]) F hin dX8_init_38 qX8_22 (by decide) (by decide) rfl rfl rfl (Nat.le_of_ble_eq_true rfl) ?_
  refine n_new (o := 24) F dX8_init_41 ncX8_26 (by decide) (by decide) (by decide) (by decide) ?_
  refine n_dup F dX8_init_44 rfl ?_
  refine n_call (d1 := 2) (mc := 5) (ms := 220) (as := []) (r := [rf X 24]) F dX8_init_45 iX8_28 rfl (Nat.le_of_ble_eq_true rfl) (by decide) (by decide) (by decide) (by decide) rfl (c_X7_24 ?_)
  refine n_astore_n F 1 dX8_init_48 rfl (by decide) ?_
  refine n_aload_n F 0 dX8_init_49 rfl rfl ?_
  refine n_aload_n F 1 dX8_init_50 rfl rfl ?_
  refine n_putF (o := 19) (fs := [rf X 20, rf X 21, rf X 22, rf X 23, .null, .null, .null, .null, .int 0, .int 0]) F hin dX8_init_51 qX8_29 (by decide) (by decide) rfl rfl rfl (Nat.le_of_ble_eq_true rfl) ?_
  refine n_aload_n F 0 dX8_init_54 rfl rfl ?_
  refine n_new (o := 30) F dX8_init_55 ncX8_33 (by decide) (by decide) (by decide) (by decide) ?_
  refine n_dup F dX8_init_58 rfl ?_
  refine n_call (d1 := 1) (mc := 13) (ms := 77) (as := []) (r := [rf X 30, rf X 19]) F dX8_init_59 iX8_35 rfl (Nat.le_of_ble_eq_true rfl) (by decide) (by decide) (by decide) (by decide) rfl (c_X0_30 ?_)
  refine n_putF (o := 19) (fs := [rf X 20, rf X 21, rf X 22, rf X 23, rf X 24, .null, .null, .null, .int 0, .int 0]) F hin dX8_init_62 qX8_36 (by decide) (by decide) rfl rfl rfl (Nat.le_of_ble_eq_true rfl) ?_
  refine n_aload_n F 0 dX8_init_65 rfl rfl ?_
  refine n_new (o := 33) F dX8_init_66 ncX8_40 (by decide) (by decide) (by decide) (by decide) ?_
  refine n_dup F dX8_init_69 rfl ?_
  refine n_aload_n F 1 dX8_init_70 rfl rfl ?_
  refine n_call (d1 := 2) (mc := 82) (ms := 556) (as := [rf X 24]) (r := [rf X 33, rf X 19]) F dX8_init_71 iX8_42 rfl (Nat.le_of_ble_eq_true rfl) (by decide) (by decide) (by decide) (by decide) rfl (c_X6_33 ?_)
  refine n_putF (o := 19) (fs := [rf X 20, rf X 21, rf X 22, rf X 23, rf X 24, rf X 30, .null, .null, .int 0, .int 0]) F hin dX8_init_74 qX8_45 (by decide) (by decide) rfl rfl rfl (Nat.le_of_ble_eq_true rfl) ?_
  refine n_aload_n F 0 dX8_init_77 rfl rfl ?_
  refine n_new (o := 44) F dX8_init_78 ncX8_49 (by decide) (by decide) (by decide) (by decide) ?_
  refine n_dup F dX8_init_81 rfl ?_
  refine n_aload_n F 1 dX8_init_82 rfl rfl ?_
  refine n_call (d1 := 1) (mc := 3) (ms := 18) (as := [rf X 24]) (r := [rf X 44, rf X 19]) F dX8_init_83 iX8_51 rfl (Nat.le_of_ble_eq_true rfl) (by decide) (by decide) (by decide) (by decide) rfl (c_X2_44 ?_)
  refine n_putF (o := 19) (fs := [rf X 20, rf X 21, rf X 22, rf X 23, rf X 24, rf X 30, rf X 33, .null, .int 0, .int 0]) F hin dX8_init_86 qX8_52 (by decide) (by decide) rfl rfl rfl (Nat.le_of_ble_eq_true rfl) ?_
  refine n_aload_n F 0 dX8_init_89 rfl rfl ?_
  refine n_iconst (v := nI 0) F dX8_init_90 (by decide) ?_
  refine n_put (o := 19) (fs := [rf X 20, rf X 21, rf X 22, rf X 23, rf X 24, rf X 30, rf X 33, rf X 44, .int 0, .int 0]) F dX8_init_91 rX8_56 (by decide) (by decide) rfl rfl rfl (Nat.le_of_ble_eq_true rfl) ?_
  refine n_aload_n F 0 dX8_init_94 rfl rfl ?_
  refine n_iconst (v := nI 0) F dX8_init_95 (by decide) ?_
  refine n_put (o := 19) (fs := [rf X 20, rf X 21, rf X 22, rf X 23, rf X 24, rf X 30, rf X 33, rf X 44, .int (nI 0), .int 0]) F dX8_init_96 rX8_60 (by decide) (by decide) rfl rfl rfl (Nat.le_of_ble_eq_true rfl) ?_
  exact hret _ _ _ _ (by decide) dX8_init_99 h
theorem oX9_1 : Cond.methodLink RX9 1 objectInit ∈ gtb := (gtb_of (tb3 (List.mem_of_getElem? (i := 124) (by decide +kernel))) (by decide +kernel))
theorem qX9_7 : FQ RX9 7 7 1 (.array .int) := ⟨RX9, TX9, 25, tyX9, rfl, by decide, ingX9, tyX9_ok, nmX9, rfl, rfl, by decide +kernel, (gtb_of (tb3 (List.mem_of_getElem? (i := 126) (by decide +kernel))) (by decide +kernel))⟩
theorem qX9_13 : FQ RX9 13 7 2 (.array .boolean) := ⟨RX9, TX9, 25, tyX9, rfl, by decide, ingX9, tyX9_ok, nmX9, rfl, rfl, by decide +kernel, (gtb_of (tb3 (List.mem_of_getElem? (i := 127) (by decide +kernel))) (by decide +kernel))⟩
theorem qX9_17 : FQ RX9 17 7 3 (.array .int) := ⟨RX9, TX9, 25, tyX9, rfl, by decide, ingX9, tyX9_ok, nmX9, rfl, rfl, by decide +kernel, (gtb_of (tb3 (List.mem_of_getElem? (i := 128) (by decide +kernel))) (by decide +kernel))⟩
theorem qX9_20 : FQ RX9 20 7 4 (.array .int) := ⟨RX9, TX9, 25, tyX9, rfl, by decide, ingX9, tyX9_ok, nmX9, rfl, rfl, by decide +kernel, (gtb_of (tb3 (List.mem_of_getElem? (i := 129) (by decide +kernel))) (by decide +kernel))⟩
theorem qX9_23 : FQ RX9 23 7 7 (.array .int) := ⟨RX9, TX9, 25, tyX9, rfl, by decide, ingX9, tyX9_ok, nmX9, rfl, rfl, by decide +kernel, (gtb_of (tb3 (List.mem_of_getElem? (i := 132) (by decide +kernel))) (by decide +kernel))⟩
theorem qX9_26 : FQ RX9 26 7 8 (.array .int) := ⟨RX9, TX9, 25, tyX9, rfl, by decide, ingX9, tyX9_ok, nmX9, rfl, rfl, by decide +kernel, (gtb_of (tb3 (List.mem_of_getElem? (i := 133) (by decide +kernel))) (by decide +kernel))⟩
theorem qX9_29 : FQ RX9 29 7 9 (.array .int) := ⟨RX9, TX9, 25, tyX9, rfl, by decide, ingX9, tyX9_ok, nmX9, rfl, rfl, by decide +kernel, (gtb_of (tb3 (List.mem_of_getElem? (i := 134) (by decide +kernel))) (by decide +kernel))⟩
theorem qX9_32 : FQ RX9 32 7 10 (.array .int) := ⟨RX9, TX9, 25, tyX9, rfl, by decide, ingX9, tyX9_ok, nmX9, rfl, rfl, by decide +kernel, (gtb_of (tb3 (List.mem_of_getElem? (i := 135) (by decide +kernel))) (by decide +kernel))⟩
theorem qX9_35 : FQ RX9 35 7 12 (.array .int) := ⟨RX9, TX9, 25, tyX9, rfl, by decide, ingX9, tyX9_ok, nmX9, rfl, rfl, by decide +kernel, (gtb_of (tb3 (List.mem_of_getElem? (i := 137) (by decide +kernel))) (by decide +kernel))⟩
theorem qX9_38 : FQ RX9 38 7 13 (.array .int) := ⟨RX9, TX9, 25, tyX9, rfl, by decide, ingX9, tyX9_ok, nmX9, rfl, rfl, by decide +kernel, (gtb_of (tb3 (List.mem_of_getElem? (i := 138) (by decide +kernel))) (by decide +kernel))⟩
theorem qX9_41 : FQ RX9 41 7 15 (.array .long) := ⟨RX9, TX9, 25, tyX9, rfl, by decide, ingX9, tyX9_ok, nmX9, rfl, rfl, by decide +kernel, (gtb_of (tb3 (List.mem_of_getElem? (i := 140) (by decide +kernel))) (by decide +kernel))⟩
theorem qX9_45 : FQ RX9 45 7 16 (.array .int) := ⟨RX9, TX9, 25, tyX9, rfl, by decide, ingX9, tyX9_ok, nmX9, rfl, rfl, by decide +kernel, (gtb_of (tb3 (List.mem_of_getElem? (i := 141) (by decide +kernel))) (by decide +kernel))⟩
theorem qX9_48 : FQ RX9 48 7 17 (.array .int) := ⟨RX9, TX9, 25, tyX9, rfl, by decide, ingX9, tyX9_ok, nmX9, rfl, rfl, by decide +kernel, (gtb_of (tb3 (List.mem_of_getElem? (i := 142) (by decide +kernel))) (by decide +kernel))⟩
theorem qX9_51 : FQ RX9 51 7 19 (.array .int) := ⟨RX9, TX9, 25, tyX9, rfl, by decide, ingX9, tyX9_ok, nmX9, rfl, rfl, by decide +kernel, (gtb_of (tb3 (List.mem_of_getElem? (i := 144) (by decide +kernel))) (by decide +kernel))⟩
theorem qX9_54 : FQ RX9 54 7 20 (.array .int) := ⟨RX9, TX9, 25, tyX9, rfl, by decide, ingX9, tyX9_ok, nmX9, rfl, rfl, by decide +kernel, (gtb_of (tb3 (List.mem_of_getElem? (i := 145) (by decide +kernel))) (by decide +kernel))⟩
theorem qX9_57 : FQ RX9 57 7 21 (.array .int) := ⟨RX9, TX9, 25, tyX9, rfl, by decide, ingX9, tyX9_ok, nmX9, rfl, rfl, by decide +kernel, (gtb_of (tb3 (List.mem_of_getElem? (i := 146) (by decide +kernel))) (by decide +kernel))⟩
theorem qX9_60 : FQ RX9 60 7 23 (.array .int) := ⟨RX9, TX9, 25, tyX9, rfl, by decide, ingX9, tyX9_ok, nmX9, rfl, rfl, by decide +kernel, (gtb_of (tb3 (List.mem_of_getElem? (i := 148) (by decide +kernel))) (by decide +kernel))⟩
theorem qX9_63 : FQ RX9 63 7 24 (.array .int) := ⟨RX9, TX9, 25, tyX9, rfl, by decide, ingX9, tyX9_ok, nmX9, rfl, rfl, by decide +kernel, (gtb_of (tb3 (List.mem_of_getElem? (i := 149) (by decide +kernel))) (by decide +kernel))⟩
theorem c_X9_0 {X : Cx} {sz : Nat} {g : Mem} {Q : Mem → Nat → Prop} (h : Q (va_up (va_up (va_up (va_up (va_up (va_up (va_up (va_up (va_up (va_up (va_up (va_up (va_up (va_up (va_up (va_up (va_up (va_up (va_up (va_up (va_up (va_up (va_up (va_up (va_up (va_up (va_up (va_up (va_up (va_up (va_up (va_up (va_up (va_up (va_up (va_up (va_up g 0 (.inr (7, [.int 0, .null, .null, .null, .null, .int 0, .int 0, .null, .null, .null, .null, .int 0, .null, .null, .int 0, .null, .null, .null, .int 0, .null, .null, .null, .int 0, .null, .null]))) 1 (.inl (X.2.2.2.1 0, (96, .inl (fun _ => 0))))) 0 (.inr (7, [.int 0, rf X 1, .null, .null, .null, .int 0, .int 0, .null, .null, .null, .null, .int 0, .null, .null, .int 0, .null, .null, .null, .int 0, .null, .null, .null, .int 0, .null, .null]))) 2 (.inl (X.2.2.2.1 3, (16, .inl (fun _ => 0))))) 0 (.inr (7, [.int 0, rf X 1, rf X 2, .null, .null, .int 0, .int 0, .null, .null, .null, .null, .int 0, .null, .null, .int 0, .null, .null, .null, .int 0, .null, .null, .null, .int 0, .null, .null]))) 3 (.inl (X.2.2.2.1 0, (130, .inl (fun _ => 0))))) 0 (.inr (7, [.int 0, rf X 1, rf X 2, rf X 3, .null, .int 0, .int 0, .null, .null, .null, .null, .int 0, .null, .null, .int 0, .null, .null, .null, .int 0, .null, .null, .null, .int 0, .null, .null]))) 4 (.inl (X.2.2.2.1 0, (130, .inl (fun _ => 0))))) 0 (.inr (7, [.int 0, rf X 1, rf X 2, rf X 3, rf X 4, .int 0, .int 0, .null, .null, .null, .null, .int 0, .null, .null, .int 0, .null, .null, .null, .int 0, .null, .null, .null, .int 0, .null, .null]))) 5 (.inl (X.2.2.2.1 0, (6, .inl (fun _ => 0))))) 0 (.inr (7, [.int 0, rf X 1, rf X 2, rf X 3, rf X 4, .int 0, .int 0, rf X 5, .null, .null, .null, .int 0, .null, .null, .int 0, .null, .null, .null, .int 0, .null, .null, .null, .int 0, .null, .null]))) 6 (.inl (X.2.2.2.1 0, (6, .inl (fun _ => 0))))) 0 (.inr (7, [.int 0, rf X 1, rf X 2, rf X 3, rf X 4, .int 0, .int 0, rf X 5, rf X 6, .null, .null, .int 0, .null, .null, .int 0, .null, .null, .null, .int 0, .null, .null, .null, .int 0, .null, .null]))) 7 (.inl (X.2.2.2.1 0, (6, .inl (fun _ => 0))))) 0 (.inr (7, [.int 0, rf X 1, rf X 2, rf X 3, rf X 4, .int 0, .int 0, rf X 5, rf X 6, rf X 7, .null, .int 0, .null, .null, .int 0, .null, .null, .null, .int 0, .null, .null, .null, .int 0, .null, .null]))) 8 (.inl (X.2.2.2.1 0, (400, .inl (fun _ => 0))))) 0 (.inr (7, [.int 0, rf X 1, rf X 2, rf X 3, rf X 4, .int 0, .int 0, rf X 5, rf X 6, rf X 7, rf X 8, .int 0, .null, .null, .int 0, .null, .null, .null, .int 0, .null, .null, .null, .int 0, .null, .null]))) 9 (.inl (X.2.2.2.1 0, (600, .inl (fun _ => 0))))) 0 (.inr (7, [.int 0, rf X 1, rf X 2, rf X 3, rf X 4, .int 0, .int 0, rf X 5, rf X 6, rf X 7, rf X 8, .int 0, rf X 9, .null, .int 0, .null, .null, .null, .int 0, .null, .null, .null, .int 0, .null, .null]))) 10 (.inl (X.2.2.2.1 0, (36, .inl (fun _ => 0))))) 0 (.inr (7, [.int 0, rf X 1, rf X 2, rf X 3, rf X 4, .int 0, .int 0, rf X 5, rf X 6, rf X 7, rf X 8, .int 0, rf X 9, rf X 10, .int 0, .null, .null, .null, .int 0, .null, .null, .null, .int 0, .null, .null]))) 11 (.inl (X.2.2.2.1 1, (36, .inr (.inl (fun _ => 0)))))) 0 (.inr (7, [.int 0, rf X 1, rf X 2, rf X 3, rf X 4, .int 0, .int 0, rf X 5, rf X 6, rf X 7, rf X 8, .int 0, rf X 9, rf X 10, .int 0, rf X 11, .null, .null, .int 0, .null, .null, .null, .int 0, .null, .null]))) 12 (.inl (X.2.2.2.1 0, (150, .inl (fun _ => 0))))) 0 (.inr (7, [.int 0, rf X 1, rf X 2, rf X 3, rf X 4, .int 0, .int 0, rf X 5, rf X 6, rf X 7, rf X 8, .int 0, rf X 9, rf X 10, .int 0, rf X 11, rf X 12, .null, .int 0, .null, .null, .null, .int 0, .null, .null]))) 13 (.inl (X.2.2.2.1 0, (150, .inl (fun _ => 0))))) 0 (.inr (7, [.int 0, rf X 1, rf X 2, rf X 3, rf X 4, .int 0, .int 0, rf X 5, rf X 6, rf X 7, rf X 8, .int 0, rf X 9, rf X 10, .int 0, rf X 11, rf X 12, rf X 13, .int 0, .null, .null, .null, .int 0, .null, .null]))) 14 (.inl (X.2.2.2.1 0, (150, .inl (fun _ => 0))))) 0 (.inr (7, [.int 0, rf X 1, rf X 2, rf X 3, rf X 4, .int 0, .int 0, rf X 5, rf X 6, rf X 7, rf X 8, .int 0, rf X 9, rf X 10, .int 0, rf X 11, rf X 12, rf X 13, .int 0, rf X 14, .null, .null, .int 0, .null, .null]))) 15 (.inl (X.2.2.2.1 0, (25, .inl (fun _ => 0))))) 0 (.inr (7, [.int 0, rf X 1, rf X 2, rf X 3, rf X 4, .int 0, .int 0, rf X 5, rf X 6, rf X 7, rf X 8, .int 0, rf X 9, rf X 10, .int 0, rf X 11, rf X 12, rf X 13, .int 0, rf X 14, rf X 15, .null, .int 0, .null, .null]))) 16 (.inl (X.2.2.2.1 0, (150, .inl (fun _ => 0))))) 0 (.inr (7, [.int 0, rf X 1, rf X 2, rf X 3, rf X 4, .int 0, .int 0, rf X 5, rf X 6, rf X 7, rf X 8, .int 0, rf X 9, rf X 10, .int 0, rf X 11, rf X 12, rf X 13, .int 0, rf X 14, rf X 15, rf X 16, .int 0, .null, .null]))) 17 (.inl (X.2.2.2.1 0, (6, .inl (fun _ => 0))))) 0 (.inr (7, [.int 0, rf X 1, rf X 2, rf X 3, rf X 4, .int 0, .int 0, rf X 5, rf X 6, rf X 7, rf X 8, .int 0, rf X 9, rf X 10, .int 0, rf X 11, rf X 12, rf X 13, .int 0, rf X 14, rf X 15, rf X 16, .int 0, rf X 17, .null]))) 18 (.inl (X.2.2.2.1 0, (6, .inl (fun _ => 0))))) 0 (.inr (7, [.int 0, rf X 1, rf X 2, rf X 3, rf X 4, .int 0, .int 0, rf X 5, rf X 6, rf X 7, rf X 8, .int 0, rf X 9, rf X 10, .int 0, rf X 11, rf X 12, rf X 13, .int 0, rf X 14, rf X 15, rf X 16, .int 0, rf X 17, rf X 18]))) 147) : CtM X sz 1 18 2099 yX9_init [rf X 0] (va_up g 0 (.inr (7, [.int 0, .null, .null, .null, .null, .int 0, .int 0, .null, .null, .null, .null, .int 0, .null, .null, .int 0, .null, .null, .null, .int 0, .null, .null, .null, .int 0, .null, .null]))) 129 Q := by
  refine CtM_intro (own := RX9) [some (rf X 0)] wX9_init (by decide) (by decide) rfl rfl (Nat.le_of_ble_eq_true rfl) rfl (fun p e s m below meth c Qw F hin hret => ?_)
  refine n_aload_n F 0 dX9_init_0 rfl rfl ?_
  refine n_obj F dX9_init_1 oX9_1 (by decide) (Nat.le_of_ble_eq_true rfl) ?_
  refine n_aload_n F 0 dX9_init_4 rfl rfl ?_
  refine n_bipush (v := nI 96) F dX9_init_5 (by decide) ?_
  refine n_newa (o := 1) (t0 := 0) (ty := .int) (n' := 96) (a0 := (96, .inl (fun _ => 0))) F dX9_init_7 rfl ac_int rfl (fun h => h) (fun _ => rfl) (by decide) (by decide) (by decide) (by decide) (by decide) (by decide) (by decide) ?_
  refine n_putF (o := 0) (fs := [.int 0, .null, .null, .null, .null, .int 0, .int 0, .null, .null, .null, .null, .int 0, .null, .null, .int 0, .null, .null, .null, .int 0, .null, .null, .null, .int 0, .null, .null]) F hin dX9_init_9 qX9_7 (by decide) (by decide) rfl rfl rfl (Nat.le_of_ble_eq_true rfl) ?_
  refine n_aload_n F 0 dX9_init_12 rfl rfl ?_
  refine n_bipush (v := nI 16) F dX9_init_13 (by decide) ?_
  refine n_newa (o := 2) (t0 := 3) (ty := .boolean) (n' := 16) (a0 := (16, .inl (fun _ => 0))) F dX9_init_15 rfl ac_bool rfl (fun h => h) (fun _ => rfl) (by decide) (by decide) (by decide) (by decide) (by decide) (by decide) (by decide) ?_
  refine n_putF (o := 0) (fs := [.int 0, rf X 1, .null, .null, .null, .int 0, .int 0, .null, .null, .null, .null, .int 0, .null, .null, .int 0, .null, .null, .null, .int 0, .null, .null, .null, .int 0, .null, .null]) F hin dX9_init_17 qX9_13 (by decide) (by decide) rfl rfl rfl (Nat.le_of_ble_eq_true rfl) ?_
  refine n_aload_n F 0 dX9_init_20 rfl rfl ?_
  refine n_sipush (v := nI 130) F dX9_init_21 (by decide) ?_
  refine n_newa (o := 3) (t0 := 0) (ty := .int) (n' := 130) (a0 := (130, .inl (fun _ => 0))) F dX9_init_24 rfl ac_int rfl (fun h => h) (fun _ => rfl) (by decide) (by decide) (by decide) (by decide) (by decide) (by decide) (by decide) ?_
  refine n_putF (o := 0) (fs := [.int 0, rf X 1, rf X 2, .null, .null, .int 0, .int 0, .null, .null, .null, .null, .int 0, .null, .null, .int 0, .null, .null, .null, .int 0, .null, .null, .null, .int 0, .null, .null]) F hin dX9_init_26 qX9_17 (by decide) (by decide) rfl rfl rfl (Nat.le_of_ble_eq_true rfl) ?_
  refine n_aload_n F 0 dX9_init_29 rfl rfl ?_
  refine n_sipush (v := nI 130) F dX9_init_30 (by decide) ?_
  refine n_newa (o := 4) (t0 := 0) (ty := .int) (n' := 130) (a0 := (130, .inl (fun _ => 0))) F dX9_init_33 rfl ac_int rfl (fun h => h) (fun _ => rfl) (by decide) (by decide) (by decide) (by decide) (by decide) (by decide) (by decide) ?_
  refine n_putF (o := 0) (fs := [.int 0, rf X 1, rf X 2, rf X 3, .null, .int 0, .int 0, .null, .null, .null, .null, .int 0, .null, .null, .int 0, .null, .null, .null, .int 0, .null, .null, .null, .int 0, .null, .null]) F hin dX9_init_35 qX9_20 (by decide) (by decide) rfl rfl rfl (Nat.le_of_ble_eq_true rfl) ?_
  refine n_aload_n F 0 dX9_init_38 rfl rfl ?_
  refine n_bipush (v := nI 6) F dX9_init_39 (by decide) ?_
  refine n_newa (o := 5) (t0 := 0) (ty := .int) (n' := 6) (a0 := (6, .inl (fun _ => 0))) F dX9_init_41 rfl ac_int rfl (fun h => h) (fun _ => rfl) (by decide) (by decide) (by decide) (by decide) (by decide) (by decide) (by decide) ?_
  refine n_putF (o := 0) (fs := [.int 0, rf X 1, rf X 2, rf X 3, rf X 4, .int 0, .int 0, .null, .null, .null, .null, .int 0, .null, .null, .int 0, .null, .null, .null, .int 0, .null, .null, .null, .int 0, .null, .null]) F hin dX9_init_43 qX9_23 (by decide) (by decide) rfl rfl rfl (Nat.le_of_ble_eq_true rfl) ?_
  refine n_aload_n F 0 dX9_init_46 rfl rfl ?_
  refine n_bipush (v := nI 6) F dX9_init_47 (by decide) ?_
  refine n_newa (o := 6) (t0 := 0) (ty := .int) (n' := 6) (a0 := (6, .inl (fun _ => 0))) F dX9_init_49 rfl ac_int rfl (fun h => h) (fun _ => rfl) (by decide) (by decide) (by decide) (by decide) (by decide) (by decide) (by decide) ?_
  refine n_putF (o := 0) (fs := [.int 0, rf X 1, rf X 2, rf X 3, rf X 4, .int 0, .int 0, rf X 5, .null, .null, .null, .int 0, .null, .null, .int 0, .null, .null, .null, .int 0, .null, .null, .null, .int 0, .null, .null]) F hin dX9_init_51 qX9_26 (by decide) (by decide) rfl rfl rfl (Nat.le_of_ble_eq_true rfl) ?_
  refine n_aload_n F 0 dX9_init_54 rfl rfl ?_
  refine n_bipush (v := nI 6) F dX9_init_55 (by decide) ?_
  refine n_newa (o := 7) (t0 := 0) (ty := .int) (n' := 6) (a0 := (6, .inl (fun _ => 0))) F dX9_init_57 rfl ac_int rfl (fun h => h) (fun _ => rfl) (by decide) (by decide) (by decide) (by decide) (by decide) (by decide) (by decide) ?_
  refine n_putF (o := 0) (fs := [.int 0, rf X 1, rf X 2, rf X 3, rf X 4, .int 0, .int 0, rf X 5, rf X 6, .null, .null, .int 0, .null, .null, .int 0, .null, .null, .null, .int 0, .null, .null, .null, .int 0, .null, .null]) F hin dX9_init_59 qX9_29 (by decide) (by decide) rfl rfl rfl (Nat.le_of_ble_eq_true rfl) ?_
  refine n_aload_n F 0 dX9_init_62 rfl rfl ?_
  refine n_sipush (v := nI 400) F dX9_init_63 (by decide) ?_
  refine n_newa (o := 8) (t0 := 0) (ty := .int) (n' := 400) (a0 := (400, .inl (fun _ => 0))) F dX9_init_66 rfl ac_int rfl (fun h => h) (fun _ => rfl) (by decide) (by decide) (by decide) (by decide) (by decide) (by decide) (by decide) ?_
  refine n_putF (o := 0) (fs := [.int 0, rf X 1, rf X 2, rf X 3, rf X 4, .int 0, .int 0, rf X 5, rf X 6, rf X 7, .null, .int 0, .null, .null, .int 0, .null, .null, .null, .int 0, .null, .null, .null, .int 0, .null, .null]) F hin dX9_init_68 qX9_32 (by decide) (by decide) rfl rfl rfl (Nat.le_of_ble_eq_true rfl) ?_
  refine n_aload_n F 0 dX9_init_71 rfl rfl ?_
  refine n_sipush (v := nI 600) F dX9_init_72 (by decide) ?_
  refine n_newa (o := 9) (t0 := 0) (ty := .int) (n' := 600) (a0 := (600, .inl (fun _ => 0))) F dX9_init_75 rfl ac_int rfl (fun h => h) (fun _ => rfl) (by decide) (by decide) (by decide) (by decide) (by decide) (by decide) (by decide) ?_
  refine n_putF (o := 0) (fs := [.int 0, rf X 1, rf X 2, rf X 3, rf X 4, .int 0, .int 0, rf X 5, rf X 6, rf X 7, rf X 8, .int 0, .null, .null, .int 0, .null, .null, .null, .int 0, .null, .null, .null, .int 0, .null, .null]) F hin dX9_init_77 qX9_35 (by decide) (by decide) rfl rfl rfl (Nat.le_of_ble_eq_true rfl) ?_
  refine n_aload_n F 0 dX9_init_80 rfl rfl ?_
  refine n_bipush (v := nI 36) F dX9_init_81 (by decide) ?_
  refine n_newa (o := 10) (t0 := 0) (ty := .int) (n' := 36) (a0 := (36, .inl (fun _ => 0))) F dX9_init_83 rfl ac_int rfl (fun h => h) (fun _ => rfl) (by decide) (by decide) (by decide) (by decide) (by decide) (by decide) (by decide) ?_
  refine n_putF (o := 0) (fs := [.int 0, rf X 1, rf X 2, rf X 3, rf X 4, .int 0, .int 0, rf X 5, rf X 6, rf X 7, rf X 8, .int 0, rf X 9, .null, .int 0, .null, .null, .null, .int 0, .null, .null, .null, .int 0, .null, .null]) F hin dX9_init_85 qX9_38 (by decide) (by decide) rfl rfl rfl (Nat.le_of_ble_eq_true rfl) ?_
  refine n_aload_n F 0 dX9_init_88 rfl rfl ?_
  refine n_bipush (v := nI 36) F dX9_init_89 (by decide) ?_
  refine n_newa (o := 11) (t0 := 1) (ty := .long) (n' := 36) (a0 := (36, .inr (.inl (fun _ => 0)))) F dX9_init_91 rfl ac_long rfl (fun h => h) (fun _ => rfl) (by decide) (by decide) (by decide) (by decide) (by decide) (by decide) (by decide) ?_
  refine n_putF (o := 0) (fs := [.int 0, rf X 1, rf X 2, rf X 3, rf X 4, .int 0, .int 0, rf X 5, rf X 6, rf X 7, rf X 8, .int 0, rf X 9, rf X 10, .int 0, .null, .null, .null, .int 0, .null, .null, .null, .int 0, .null, .null]) F hin dX9_init_93 qX9_41 (by decide) (by decide) rfl rfl rfl (Nat.le_of_ble_eq_true rfl) ?_
  refine n_aload_n F 0 dX9_init_96 rfl rfl ?_
  refine n_sipush (v := nI 150) F dX9_init_97 (by decide) ?_
  refine n_newa (o := 12) (t0 := 0) (ty := .int) (n' := 150) (a0 := (150, .inl (fun _ => 0))) F dX9_init_100 rfl ac_int rfl (fun h => h) (fun _ => rfl) (by decide) (by decide) (by decide) (by decide) (by decide) (by decide) (by decide) ?_
  refine n_putF (o := 0) (fs := [.int 0, rf X 1, rf X 2, rf X 3, rf X 4, .int 0, .int 0, rf X 5, rf X 6, rf X 7, rf X 8, .int 0, rf X 9, rf X 10, .int 0, rf X 11, .null, .null, .int 0, .null, .null, .null, .int 0, .null, .null]) F hin dX9_init_102 qX9_45 (by decide) (by decide) rfl rfl rfl (Nat.le_of_ble_eq_true rfl) ?_
  refine n_aload_n F 0 dX9_init_105 rfl rfl ?_
  refine n_sipush (v := nI 150) F dX9_init_106 (by decide) ?_
  refine n_newa (o := 13) (t0 := 0) (ty := .int) (n' := 150) (a0 := (150, .inl (fun _ => 0))) F dX9_init_109 rfl ac_int rfl (fun h => h) (fun _ => rfl) (by decide) (by decide) (by decide) (by decide) (by decide) (by decide) (by decide) ?_
  refine n_putF (o := 0) (fs := [.int 0, rf X 1, rf X 2, rf X 3, rf X 4, .int 0, .int 0, rf X 5, rf X 6, rf X 7, rf X 8, .int 0, rf X 9, rf X 10, .int 0, rf X 11, rf X 12, .null, .int 0, .null, .null, .null, .int 0, .null, .null]) F hin dX9_init_111 qX9_48 (by decide) (by decide) rfl rfl rfl (Nat.le_of_ble_eq_true rfl) ?_
  refine n_aload_n F 0 dX9_init_114 rfl rfl ?_
  refine n_sipush (v := nI 150) F dX9_init_115 (by decide) ?_
  refine n_newa (o := 14) (t0 := 0) (ty := .int) (n' := 150) (a0 := (150, .inl (fun _ => 0))) F dX9_init_118 rfl ac_int rfl (fun h => h) (fun _ => rfl) (by decide) (by decide) (by decide) (by decide) (by decide) (by decide) (by decide) ?_
  refine n_putF (o := 0) (fs := [.int 0, rf X 1, rf X 2, rf X 3, rf X 4, .int 0, .int 0, rf X 5, rf X 6, rf X 7, rf X 8, .int 0, rf X 9, rf X 10, .int 0, rf X 11, rf X 12, rf X 13, .int 0, .null, .null, .null, .int 0, .null, .null]) F hin dX9_init_120 qX9_51 (by decide) (by decide) rfl rfl rfl (Nat.le_of_ble_eq_true rfl) ?_
  refine n_aload_n F 0 dX9_init_123 rfl rfl ?_
  refine n_bipush (v := nI 25) F dX9_init_124 (by decide) ?_
  refine n_newa (o := 15) (t0 := 0) (ty := .int) (n' := 25) (a0 := (25, .inl (fun _ => 0))) F dX9_init_126 rfl ac_int rfl (fun h => h) (fun _ => rfl) (by decide) (by decide) (by decide) (by decide) (by decide) (by decide) (by decide) ?_
  refine n_putF (o := 0) (fs := [.int 0, rf X 1, rf X 2, rf X 3, rf X 4, .int 0, .int 0, rf X 5, rf X 6, rf X 7, rf X 8, .int 0, rf X 9, rf X 10, .int 0, rf X 11, rf X 12, rf X 13, .int 0, rf X 14, .null, .null, .int 0, .null, .null]) F hin dX9_init_128 qX9_54 (by decide) (by decide) rfl rfl rfl (Nat.le_of_ble_eq_true rfl) ?_
  refine n_aload_n F 0 dX9_init_131 rfl rfl ?_
  refine n_sipush (v := nI 150) F dX9_init_132 (by decide) ?_
  refine n_newa (o := 16) (t0 := 0) (ty := .int) (n' := 150) (a0 := (150, .inl (fun _ => 0))) F dX9_init_135 rfl ac_int rfl (fun h => h) (fun _ => rfl) (by decide) (by decide) (by decide) (by decide) (by decide) (by decide) (by decide) ?_
  refine n_putF (o := 0) (fs := [.int 0, rf X 1, rf X 2, rf X 3, rf X 4, .int 0, .int 0, rf X 5, rf X 6, rf X 7, rf X 8, .int 0, rf X 9, rf X 10, .int 0, rf X 11, rf X 12, rf X 13, .int 0, rf X 14, rf X 15, .null, .int 0, .null, .null]) F hin dX9_init_137 qX9_57 (by decide) (by decide) rfl rfl rfl (Nat.le_of_ble_eq_true rfl) ?_
  refine n_aload_n F 0 dX9_init_140 rfl rfl ?_
  refine n_bipush (v := nI 6) F dX9_init_141 (by decide) ?_
  refine n_newa (o := 17) (t0 := 0) (ty := .int) (n' := 6) (a0 := (6, .inl (fun _ => 0))) F dX9_init_143 rfl ac_int rfl (fun h => h) (fun _ => rfl) (by decide) (by decide) (by decide) (by decide) (by decide) (by decide) (by decide) ?_
  refine n_putF (o := 0) (fs := [.int 0, rf X 1, rf X 2, rf X 3, rf X 4, .int 0, .int 0, rf X 5, rf X 6, rf X 7, rf X 8, .int 0, rf X 9, rf X 10, .int 0, rf X 11, rf X 12, rf X 13, .int 0, rf X 14, rf X 15, rf X 16, .int 0, .null, .null]) F hin dX9_init_145 qX9_60 (by decide) (by decide) rfl rfl rfl (Nat.le_of_ble_eq_true rfl) ?_
  refine n_aload_n F 0 dX9_init_148 rfl rfl ?_
  refine n_bipush (v := nI 6) F dX9_init_149 (by decide) ?_
  refine n_newa (o := 18) (t0 := 0) (ty := .int) (n' := 6) (a0 := (6, .inl (fun _ => 0))) F dX9_init_151 rfl ac_int rfl (fun h => h) (fun _ => rfl) (by decide) (by decide) (by decide) (by decide) (by decide) (by decide) (by decide) ?_
  refine n_putF (o := 0) (fs := [.int 0, rf X 1, rf X 2, rf X 3, rf X 4, .int 0, .int 0, rf X 5, rf X 6, rf X 7, rf X 8, .int 0, rf X 9, rf X 10, .int 0, rf X 11, rf X 12, rf X 13, .int 0, rf X 14, rf X 15, rf X 16, .int 0, rf X 17, .null]) F hin dX9_init_153 qX9_63 (by decide) (by decide) rfl rfl rfl (Nat.le_of_ble_eq_true rfl) ?_
  exact hret _ _ _ _ (by decide) dX9_init_156 h
