-- ===== what the class uses of the library
theorem nJ6_265 : Cond.constant RJ6 265 (1431655765) ∈ gtb := (gtb_of (tb2 (List.mem_of_getElem? (i := 168) (by decide +kernel))) (by decide +kernel))
theorem nJ6_266 : Cond.constant RJ6 266 (858993459) ∈ gtb := (gtb_of (tb2 (List.mem_of_getElem? (i := 169) (by decide +kernel))) (by decide +kernel))
theorem nJ6_267 : Cond.constant RJ6 267 (252645135) ∈ gtb := (gtb_of (tb2 (List.mem_of_getElem? (i := 170) (by decide +kernel))) (by decide +kernel))
theorem MetW_F {l : Launch} {y : MethodName} {ws ws' : List Cond} {rm : Room} {Pc : Array Value → State → Prop} {Qc : Array Value → State → Outcome → State → Prop} {mc ms : Nat} {free : Addr → Prop} {cc : ByteArray} {maxL : Nat} {ret : Option FieldType} (hy : plainFor y = true) (hw : ws = Cond.code y cc maxL ret :: ws')
    (body : ∀ p e s m args below meth c s₁, BodyLoose p l y (headSpec ws rm) cc maxL ret e s m args below meth c s₁ → c.maxLocals = maxL → Pc args s → W p l e (headSpec ws rm).room s m args below meth c s.heap [] 0 0 (MQ below Qc args s mc ms free) (entryFrame m args maxL)) : Met l y ws rm Pc Qc mc ms free := by
  refine MetFree.of_bodySF (code := cc) (maxLocals := maxL) (ret := ret) hy (fun args s m h hn => ?_) (fun p e s m args below meth c s₁ B hml hP _ => ?_)
  · obtain ⟨meth, c, h1, h2, h3, h4, h5, h6, -, -⟩ := Cond.code_spec hn (atoms_spec (ws := ws) h _ (by rw [hw]; exact List.mem_cons_self))
    exact ⟨meth, c, h1, h2, h3, h4, h5, h6⟩
  · obtain ⟨t, a1, o, b1, b2, b3⟩ := body p e s m args below meth c s₁ B hml hP s₁ (by rw [B.state]; rfl) (Stand.of_body B)
    exact ⟨t, o, a1, b1, b2, ⟨b3.1, b3.2⟩⟩
theorem CallM_introF {X : Cx} {d : Nat} {y : MethodName} {cc : ByteArray} {nL : Nat} {ret : Option FieldType} {as : List Value} {g : Mem} {Q : Option Value → Mem → Prop} {own : String} (vs0 : Lv) (hc : Cond.code y cc nL ret ∈ gtb) (hn : nL ≤ 19) (hp : plainFor y = true) (ho : y.cls = own) (hl : (lg_sl as).length ≤ nL) (hv : asc 0 vs0 = lv_args 0 as) (h : ∀ K : KT, Cl X own cc nL d K → ClR cc ret Q K → K g 0 vs0 []) : CallM X d y as g Q := by
  refine ⟨cc, nL, ret, hc, hn, MetW_F (cc := cc) (maxL := nL) (ret := ret) hp rfl ?_⟩
  intro p e s m args below meth c s₁ B hml hv'
  obtain ⟨rfl, hinj, hk, hst, hh⟩ := hv'
  have F : Fx X p s m as.toArray c (rmd d) 0 0 own cc nL d := ⟨B.exec, B.bytes, hml, by rw [← ho]; exact findClass_of_methodNamed B.named, fun w hw => atoms_spec (ws := Cond.code y cc nL ret :: gtb) B.pre w (List.mem_cons_of_mem _ hw), hinj, hk, hst, Nat.le_refl _, Nat.le_refl _, Nat.le_refl _, Nat.le_refl _⟩
  have hr := B.returns
  have hlocks := B.notSynchronized
  have hle := lv_entry as (n := nL) hl
  rw [lg_entry_eq]
  refine h (KX X p e (rmd d) s m as.toArray below meth c 0 0 nL (MQ below (Qcc X Q) as.toArray s 0 0 (inA X))) (cl_sound F) ⟨?_, ?_, ?_⟩ s.heap [] _ hh va_S.rf (by show lv_has _ _ (asc 0 vs0); rw [hv]; exact hle)
  · intro g pc vs v ty hd hty hna hQ H locs ls hh hS hl
    exact W.zret F.1 F.2.1 (hr.trans hty) hna (fun t ht hW => ⟨⟨some (.int v), g, rfl, hQ, by rw [ht]; exact hh⟩, hS.F ht⟩) hS.2.2 hd hlocks
  · intro g pc vs v hd hty hQ H locs ls hh hS hl
    exact W.lret F.1 F.2.1 (hr.trans hty) (fun t ht hW => ⟨⟨some (.long v), g, rfl, hQ, by rw [ht]; exact hh⟩, hS.F ht⟩) hS.2.2 hd hlocks
  · intro g pc vs hd hty hQ H locs ls hh hS hl
    exact W.vret F.1 F.2.1 (hr.trans hty) (fun t ht hW => ⟨⟨none, g, rfl, hQ, by rw [ht]; exact hh⟩, hS.F ht⟩) hS.2.2 hd hlocks
theorem i32_neg (x : Int32) : x < 0 ↔ x.toBitVec.msb = true := by
  rw [lt0_iff, BitVec.msb_eq_toInt, decide_eq_true_eq]
  rfl
theorem i32_xor {x y : Int32} (hy : ¬ y < 0) : 0 ≤ x ^^^ y ↔ ¬ x < 0 := by
  have h1 : y.toBitVec.msb = false := by
    cases q : y.toBitVec.msb
    · rfl
    · exact absurd ((i32_neg y).mpr q) hy
  rw [← Int32.not_lt, i32_neg, i32_neg, Int32.toBitVec_xor, BitVec.msb_xor, h1, Bool.xor_false]
theorem fdiv_neg {a b : Int} (hb : 0 < b) : a / b = if (-a) % b = 0 then -((-a) / b) else -((-a) / b) - 1 := by
  have h1 := Int.emod_add_mul_ediv (-a) b
  have h2 := Int.emod_nonneg (-a) (by omega : b ≠ 0)
  have h3 := Int.emod_lt_of_pos (-a) hb
  generalize (-a) % b = m at *
  generalize (-a) / b = t at *
  split
  · rename_i hm
    exact ((Int.ediv_emod_unique hb (r := 0) (q := -t)).mpr ⟨by rw [Int.mul_neg]; omega, by omega, by omega⟩).1
  · rename_i hm
    exact ((Int.ediv_emod_unique hb (r := b - m) (q := -t - 1)).mpr ⟨by rw [Int.mul_sub, Int.mul_neg]; omega, by omega, by omega⟩).1
section B1
variable {X : Cx} {g : Mem}
theorem j_abs {x : Int64} {Q : Int64 → Mem → Prop} (h : Q (lab x) g) : CallL X 0 yJ9_abs_067f4 [.long x] g Q := by
  refine CallM_introF (own := RJ9) [some (.long x), none] wJ9_abs_067f4 (by decide) (by decide +kernel) rfl (Nat.le_of_ble_eq_true rfl) rfl (fun K hK hR => ?_)
  refine q_lload_n hK 0 dJ9_abs_067f4_0 rfl rfl ?_
  refine q_lconst (v := 0) hK dJ9_abs_067f4_1 (by decide) ?_
  refine q_lcmp hK dJ9_abs_067f4_2 ?_
  refine q_if_ge hK 11 dJ9_abs_067f4_3 (by decide) (fun c3 => ?_) (fun c3 => ?_)
  · have hx := (lg_cmp_ge _ _).mp c3
    rw [show lab x = x from if_neg (Int64.not_lt.mpr hx)] at h
    refine q_lload_n hK 0 dJ9_abs_067f4_11 rfl rfl ?_
    exact q_lret hR dJ9_abs_067f4_12 ⟨_, rfl, h⟩
  · have hx := mt (lg_cmp_ge x 0).mpr c3
    rw [show lab x = -x from if_pos (Int64.not_le.mp hx)] at h
    refine q_lload_n hK 0 dJ9_abs_067f4_6 rfl rfl ?_
    refine q_lneg hK dJ9_abs_067f4_7 ?_
    refine q_goto hK 12 dJ9_abs_067f4_8 (by decide) ?_
    exact q_lret hR dJ9_abs_067f4_12 ⟨_, rfl, h⟩
theorem j_max {a b : Int} {Q : Int32 → Mem → Prop} (h1 : -2147483648 ≤ a) (h2 : a < 2147483648) (h3 : -2147483648 ≤ b) (h4 : b < 2147483648) (h : Q (jI (max a b)) g) : CallI X 0 yJ9_max_7cf53 [.int (jI a), .int (jI b)] g Q := by
  refine CallM_introF (own := RJ9) [some (.int (jI a)), some (.int (jI b))] wJ9_max_7cf53 (by decide) (by decide +kernel) rfl (Nat.le_of_ble_eq_true rfl) rfl (fun K hK hR => ?_)
  refine q_iload_n hK 0 dJ9_max_7cf53_0 rfl rfl ?_
  refine q_iload_n hK 1 dJ9_max_7cf53_1 rfl rfl ?_
  refine q_icmp_lt hK 9 dJ9_max_7cf53_2 (by decide) (fun c2 => ?_) (fun c2 => ?_)
  · have q := (jI_lt h1 h2 h3 h4).mp c2
    rw [show max a b = b by omega] at h
    refine q_iload_n hK 1 dJ9_max_7cf53_9 rfl rfl ?_
    exact q_iret hR dJ9_max_7cf53_10 rfl ⟨_, rfl, h⟩
  · have q := mt (jI_lt h1 h2 h3 h4).mpr c2
    rw [show max a b = a by omega] at h
    refine q_iload_n hK 0 dJ9_max_7cf53_5 rfl rfl ?_
    refine q_goto hK 10 dJ9_max_7cf53_6 (by decide) ?_
    exact q_iret hR dJ9_max_7cf53_10 rfl ⟨_, rfl, h⟩
theorem j_min {a b : Int} {Q : Int32 → Mem → Prop} (h1 : -2147483648 ≤ a) (h2 : a < 2147483648) (h3 : -2147483648 ≤ b) (h4 : b < 2147483648) (h : Q (jI (min a b)) g) : CallI X 0 yJ9_min_7cf53 [.int (jI a), .int (jI b)] g Q := by
  refine CallM_introF (own := RJ9) [some (.int (jI a)), some (.int (jI b))] wJ9_min_7cf53 (by decide) (by decide +kernel) rfl (Nat.le_of_ble_eq_true rfl) rfl (fun K hK hR => ?_)
  refine q_iload_n hK 0 dJ9_min_7cf53_0 rfl rfl ?_
  refine q_iload_n hK 1 dJ9_min_7cf53_1 rfl rfl ?_
  refine q_icmp_gt hK 9 dJ9_min_7cf53_2 (by decide) (fun c2 => ?_) (fun c2 => ?_)
  · have q := (jI_lt h3 h4 h1 h2).mp c2
    rw [show min a b = b by omega] at h
    refine q_iload_n hK 1 dJ9_min_7cf53_9 rfl rfl ?_
    exact q_iret hR dJ9_min_7cf53_10 rfl ⟨_, rfl, h⟩
  · have q := mt (jI_lt h3 h4 h1 h2).mpr c2
    rw [show min a b = a by omega] at h
    refine q_iload_n hK 0 dJ9_min_7cf53_5 rfl rfl ?_
    refine q_goto hK 10 dJ9_min_7cf53_6 (by decide) ?_
    exact q_iret hR dJ9_min_7cf53_10 rfl ⟨_, rfl, h⟩
theorem j_floorDiv {a b : Int} {Q : Int32 → Mem → Prop} (h1 : -1000000 ≤ a) (h2 : a ≤ 1000000) (h3 : 0 < b) (h4 : b ≤ 1000000) (h : Q (jI (a / b)) g) : CallI X 0 yJ9_floorDiv_7cf53 [.int (jI a), .int (jI b)] g Q := by
  have hb : ¬ jI b < 0 := by rw [lt0_iff, jI_toInt (by omega) (by omega)]; omega
  refine CallM_introF (own := RJ9) [some (.int (jI a)), some (.int (jI b)), none] wJ9_floorDiv_7cf53 (by decide) (by decide +kernel) rfl (Nat.le_of_ble_eq_true rfl) rfl (fun K hK hR => ?_)
  refine q_iload_n hK 0 dJ9_floorDiv_7cf53_0 rfl rfl ?_
  refine q_iload_n hK 1 dJ9_floorDiv_7cf53_1 rfl rfl ?_
  refine q_idiv hK dJ9_floorDiv_7cf53_2 (fun z => by have := (jI_eq (b := 0) (by omega) (by omega) (by decide) (by decide)).mp z; omega) ?_
  refine q_istore_n hK 2 dJ9_floorDiv_7cf53_3 rfl (by decide) ?_
  refine q_iload_n hK 0 dJ9_floorDiv_7cf53_4 rfl rfl ?_
  refine q_iload_n hK 1 dJ9_floorDiv_7cf53_5 rfl rfl ?_
  refine q_ixor hK dJ9_floorDiv_7cf53_6 ?_
  refine q_if_ge hK 21 dJ9_floorDiv_7cf53_7 (by decide) (fun c7 => ?_) (fun c7 => ?_)
  · have ha : 0 ≤ a := by
      have := (i32_xor hb).mp c7
      rw [lt0_iff, jI_toInt (by omega) (by omega)] at this
      omega
    rw [jI_div ha (by omega) h3 (by omega)]
    refine q_iload_n hK 2 dJ9_floorDiv_7cf53_21 rfl rfl ?_
    exact q_iret hR dJ9_floorDiv_7cf53_22 rfl ⟨_, rfl, h⟩
  · have ha : a < 0 := by
      have := mt (i32_xor (x := jI a) hb).mpr c7
      rw [lt0_iff, jI_toInt (by omega) (by omega)] at this
      omega
    have hd : jI a / jI b = jI (-((-a) / b)) := by
      apply Int32.toInt_inj.mp
      have hq : 0 ≤ (-a) / b := Int.ediv_nonneg (by omega) (by omega)
      have hq2 : (-a) / b ≤ -a := Int.ediv_le_self _ (by omega)
      rw [Int32.toInt_div, jI_toInt (by omega) (by omega), jI_toInt (by omega) (by omega), jI_toInt (by omega) (by omega), show a = -(-a) by omega, Int.neg_tdiv, Int.tdiv_eq_ediv_of_nonneg (by omega : 0 ≤ -a), Int.neg_neg]
      exact Int.bmod_eq_of_le (by omega) (by omega)
    have m1 := Int.emod_add_mul_ediv (-a) b
    have m2 := Int.emod_nonneg (-a) (by omega : b ≠ 0)
    have hf := fdiv_neg (a := a) h3
    have hq : 0 ≤ (-a) / b := Int.ediv_nonneg (by omega) (by omega)
    have hq2 : (-a) / b ≤ -a := Int.ediv_le_self _ (by omega)
    rw [hd]
    generalize (-a) % b = m at *
    generalize (-a) / b = t at *
    have hbt : -1000000 ≤ -t * b ∧ -t * b ≤ 1000000 := by
      rw [Int.neg_mul, Int.mul_comm t b]
      have : 0 ≤ b * t := Int.mul_nonneg (by omega) hq
      omega
    refine q_iload_n hK 2 dJ9_floorDiv_7cf53_10 rfl rfl ?_
    refine q_iload_n hK 1 dJ9_floorDiv_7cf53_11 rfl rfl ?_
    refine q_imul hK dJ9_floorDiv_7cf53_12 ?_
    refine q_iload_n hK 0 dJ9_floorDiv_7cf53_13 rfl rfl ?_
    rw [jI_mul]
    refine q_icmp_eq hK 21 dJ9_floorDiv_7cf53_14 (by decide) (fun c14 => ?_) (fun c14 => ?_)
    · have e := (jI_eq (by omega) (by omega) (by omega) (by omega)).mp c14
      have hm : m = 0 := by rw [Int.neg_mul, Int.mul_comm t b] at e; omega
      rw [if_pos hm] at hf
      rw [hf] at h
      refine q_iload_n hK 2 dJ9_floorDiv_7cf53_21 rfl rfl ?_
      exact q_iret hR dJ9_floorDiv_7cf53_22 rfl ⟨_, rfl, h⟩
    · have hm : ¬ m = 0 := fun z => c14 (by congr 1; rw [Int.neg_mul, Int.mul_comm t b]; omega)
      rw [if_neg hm] at hf
      rw [hf] at h
      refine q_iload_n hK 2 dJ9_floorDiv_7cf53_17 rfl rfl ?_
      refine q_iconst (v := nI 1) hK dJ9_floorDiv_7cf53_18 (by decide) ?_
      refine q_isub hK dJ9_floorDiv_7cf53_19 ?_
      rw [jI_nat 1, jI_sub]
      exact q_iret hR dJ9_floorDiv_7cf53_20 rfl ⟨_, rfl, h⟩
def bc0 (x y : Int32) : Int32 := (x.toUInt32 >>> (y.toUInt32 &&& Int32.toUInt32 31)).toInt32
def bc1 (v : Int32) : Int32 := v - (bc0 v (nI 1) &&& 1431655765)
def bc2 (v : Int32) : Int32 := (v &&& 858993459) + (bc0 v (nI 2) &&& 858993459)
def bc3 (v : Int32) : Int32 := (v + bc0 v (nI 4)) &&& 252645135
def bc4 (v : Int32) : Int32 := v + bc0 v (nI 8)
def bc5 (v : Int32) : Int32 := v + bc0 v (nI 16)
theorem bc_all : ∀ v, v < 64 → (bc5 (bc4 (bc3 (bc2 (bc1 (nI v))))) &&& nI 63) = nI (plen v) := by decide +kernel
theorem j_bitCount {v : Nat} {Q : Int32 → Mem → Prop} (hv : v < 64) (h : Q (nI (plen v)) g) : CallI X 0 yJ6_bitCount_0f7a4 [.int (nI v)] g Q := by
  rw [← bc_all v hv] at h
  refine CallM_introF (own := RJ6) [some (.int (nI v))] wJ6_bitCount_0f7a4 (by decide) (by decide +kernel) rfl (Nat.le_of_ble_eq_true rfl) rfl (fun K hK hR => ?_)
  refine q_iload_n hK 0 dJ6_bitCount_0f7a4_0 rfl rfl ?_
  refine q_iload_n hK 0 dJ6_bitCount_0f7a4_1 rfl rfl ?_
  refine q_iconst (v := nI 1) hK dJ6_bitCount_0f7a4_2 (by decide) ?_
  refine q_iushr hK dJ6_bitCount_0f7a4_3 rfl ?_
  refine q_ldcw hK dJ6_bitCount_0f7a4_4 nJ6_265 ?_
  refine q_iand hK dJ6_bitCount_0f7a4_7 ?_
  refine q_isub hK dJ6_bitCount_0f7a4_8 ?_
  refine q_istore_n hK 0 dJ6_bitCount_0f7a4_9 rfl (by decide) ?_
  refine q_iload_n hK 0 dJ6_bitCount_0f7a4_10 rfl rfl ?_
  refine q_ldcw hK dJ6_bitCount_0f7a4_11 nJ6_266 ?_
  refine q_iand hK dJ6_bitCount_0f7a4_14 ?_
  refine q_iload_n hK 0 dJ6_bitCount_0f7a4_15 rfl rfl ?_
  refine q_iconst (v := nI 2) hK dJ6_bitCount_0f7a4_16 (by decide) ?_
  refine q_iushr hK dJ6_bitCount_0f7a4_17 rfl ?_
  refine q_ldcw hK dJ6_bitCount_0f7a4_18 nJ6_266 ?_
  refine q_iand hK dJ6_bitCount_0f7a4_21 ?_
  refine q_iadd hK dJ6_bitCount_0f7a4_22 ?_
  refine q_istore_n hK 0 dJ6_bitCount_0f7a4_23 rfl (by decide) ?_
  refine q_iload_n hK 0 dJ6_bitCount_0f7a4_24 rfl rfl ?_
  refine q_iload_n hK 0 dJ6_bitCount_0f7a4_25 rfl rfl ?_
  refine q_iconst (v := nI 4) hK dJ6_bitCount_0f7a4_26 (by decide) ?_
  refine q_iushr hK dJ6_bitCount_0f7a4_27 rfl ?_
  refine q_iadd hK dJ6_bitCount_0f7a4_28 ?_
  refine q_ldcw hK dJ6_bitCount_0f7a4_29 nJ6_267 ?_
  refine q_iand hK dJ6_bitCount_0f7a4_32 ?_
  refine q_istore_n hK 0 dJ6_bitCount_0f7a4_33 rfl (by decide) ?_
  refine q_iload_n hK 0 dJ6_bitCount_0f7a4_34 rfl rfl ?_
  refine q_iload_n hK 0 dJ6_bitCount_0f7a4_35 rfl rfl ?_
  refine q_bipush (v := nI 8) hK dJ6_bitCount_0f7a4_36 (by decide) ?_
  refine q_iushr hK dJ6_bitCount_0f7a4_38 rfl ?_
  refine q_iadd hK dJ6_bitCount_0f7a4_39 ?_
  refine q_istore_n hK 0 dJ6_bitCount_0f7a4_40 rfl (by decide) ?_
  refine q_iload_n hK 0 dJ6_bitCount_0f7a4_41 rfl rfl ?_
  refine q_iload_n hK 0 dJ6_bitCount_0f7a4_42 rfl rfl ?_
  refine q_bipush (v := nI 16) hK dJ6_bitCount_0f7a4_43 (by decide) ?_
  refine q_iushr hK dJ6_bitCount_0f7a4_45 rfl ?_
  refine q_iadd hK dJ6_bitCount_0f7a4_46 ?_
  refine q_istore_n hK 0 dJ6_bitCount_0f7a4_47 rfl (by decide) ?_
  refine q_iload_n hK 0 dJ6_bitCount_0f7a4_48 rfl rfl ?_
  refine q_bipush (v := nI 63) hK dJ6_bitCount_0f7a4_49 (by decide) ?_
  refine q_iand hK dJ6_bitCount_0f7a4_51 ?_
  exact q_iret hR dJ6_bitCount_0f7a4_52 rfl ⟨_, rfl, h⟩
end B1
-- rows of six
def sameN (f h : Nat → Int32) : Nat → Bool
  | 0 => true
  | i + 1 => sameN f h i && decide (f i = h i)
theorem sameN_all {f h : Nat → Int32} : ∀ {n : Nat}, sameN f h n = true ↔ ∀ k, k < n → f k = h k
  | 0 => by simp [sameN]
  | n + 1 => by
    simp only [sameN, Bool.and_eq_true, decide_eq_true_eq, sameN_all (n := n)]
    constructor
    · rintro ⟨h1, h2⟩ k hk
      by_cases e : k = n
      · rw [e]; exact h2
      · exact h1 k (by omega)
    · intro h
      exact ⟨fun k hk => h k (by omega), h n (by omega)⟩
theorem farN_stay {t : Nat} {f : Nat → Int32} {i : Nat} (h : farN t f i = true) : ∀ m, farN t f (i + m) = true
  | 0 => h
  | m + 1 => by
    show (farN t f (i + m) || _ || _) = true
    rw [farN_stay h m]
    rfl
theorem sameN_stay {f h : Nat → Int32} {i : Nat} (q : sameN f h i = false) : ∀ m, sameN f h (i + m) = false
  | 0 => q
  | m + 1 => by
    show (sameN f h (i + m) && _) = false
    rw [sameN_stay q m]
    rfl
section B2
variable {X : Cx} {Z : Nat → Int32} {V : Nat → Int64} {P : Nat → Nat → Nat} {F : Nat → Nat → Int32} {L : Nat → Nat → Int64} {g : Mem}
theorem b_makeOne {n : Nat} {Q : Mem → Prop} (hn : bR n = true) (h : ∀ f, (∀ k, k < 6 → f k = 0) → Q (BB X Z V P (va_up F n f) L g)) : CallV X 0 yX5_makeOne [rf X n] (BB X Z V P F L g) Q := by
  refine CallM_intro (own := RX5) [some (rf X n), none] wX5_makeOne (by decide) (by decide) rfl (Nat.le_of_ble_eq_true rfl) rfl (fun K hK hR => ?_)
  refine q_iconst (v := nI 0) hK dX5_makeOne_0 (by decide) ?_
  refine q_istore_n hK 1 dX5_makeOne_1 rfl (by decide) ?_
  have loop : ∀ m i f, i + m = 6 → (∀ k, k < i → f k = 0) → K (BB X Z V P (va_up F n f) L g) 2 [some (rf X n), some (.int (nI i))] [] := by
    intro m
    induction m with
    | zero =>
      intro i f hi hf
      refine q_iload_n hK 1 dX5_makeOne_2 rfl rfl ?_
      refine q_bipush (v := nI 6) hK dX5_makeOne_3 (by decide) ?_
      refine q_icmp_ge hK 18 dX5_makeOne_5 (by decide) (fun c5 => ?_) (fun c5 => ?_)
      · exact q_vret hR dX5_makeOne_18 ⟨rfl, h f (fun k hk => hf k (by omega))⟩
      · exact absurd ((nI_leI (by decide) (by omega)).mpr (by omega)) c5
    | succ m ih =>
      intro i f hi hf
      refine q_iload_n hK 1 dX5_makeOne_2 rfl rfl ?_
      refine q_bipush (v := nI 6) hK dX5_makeOne_3 (by decide) ?_
      refine q_icmp_ge hK 18 dX5_makeOne_5 (by decide) (fun c5 => ?_) (fun c5 => ?_)
      · have := (nI_leI (by decide) (by omega)).mp c5
        omega
      refine q_aload_n hK 0 dX5_makeOne_8 rfl rfl ?_
      refine q_iload_n hK 1 dX5_makeOne_9 rfl rfl ?_
      refine q_iconst (v := nI 0) hK dX5_makeOne_10 (by decide) ?_
      refine qb_iastR hK dX5_makeOne_11 hn rfl (by omega) ?_
      refine q_inc1 hK dX5_makeOne_12 rfl (by decide) ?_
      refine q_goto hK 2 dX5_makeOne_15 (by decide) ?_
      rw [up_up, up_same]
      refine ih (i + 1) _ (by omega) (fun k hk => ?_)
      by_cases e : k = i
      · rw [e, upd_same]; rfl
      · rw [upd_ne e]
        exact hf k (by omega)
  have := loop 6 0 (F n) rfl (fun k hk => by omega)
  rw [up_id] at this
  exact this
theorem b_copy {n m : Nat} {Q : Mem → Prop} (hn : bR n = true) (hm : bR m = true) (h : ∀ f, (∀ k, k < 6 → f k = F n k) → Q (BB X Z V P (va_up F m f) L g)) : CallV X 1 yX5_copy [rf X n, rf X m] (BB X Z V P F L g) Q := by
  refine CallM_intro (own := RX5) [some (rf X n), some (rf X m)] wX5_copy (by decide) (by decide) rfl (Nat.le_of_ble_eq_true rfl) rfl (fun K hK hR => ?_)
  refine q_aload_n hK 0 dX5_copy_0 rfl rfl ?_
  refine q_iconst (v := nI 0) hK dX5_copy_1 (by decide) ?_
  refine q_aload_n hK 1 dX5_copy_2 rfl rfl ?_
  refine q_iconst (v := nI 0) hK dX5_copy_3 (by decide) ?_
  refine q_bipush (v := nI 6) hK dX5_copy_4 (by decide) ?_
  refine q_copy hK dX5_copy_6 aX5_9 (by decide) (bI_lt (bR_I hn)) (BB_R hn) (bI_lt (bR_I hm)) (BB_R hm) (by decide) (by decide) (by decide) (by decide) (by decide) ?_
  rw [BB_setR hm]
  refine q_vret hR dX5_copy_9 ⟨rfl, h _ (fun k hk => ?_)⟩
  unfold va_cpy
  rw [if_pos (by show 0 ≤ k ∧ k < 0 + 6; omega)]
  congr 1
  show 0 + (k - 0) = k
  omega
theorem b_combine {a b t : Nat} {p : Int32} {Q : Mem → Prop} (ha : bR a = true) (hb : bR b = true) (ht : bR t = true) (h : ∀ f, (∀ k, k < 6 → f k = F a k + p * F b k) → Q (BB X Z V P (va_up F t f) L g)) : CallV X 0 yX5_combine [rf X a, rf X b, .int p, rf X t] (BB X Z V P F L g) Q := by
  refine CallM_intro (own := RX5) [some (rf X a), some (rf X b), some (.int p), some (rf X t), none] wX5_combine (by decide) (by decide) rfl (Nat.le_of_ble_eq_true rfl) rfl (fun K hK hR => ?_)
  refine q_iconst (v := nI 0) hK dX5_combine_0 (by decide) ?_
  refine q_istore hK dX5_combine_1 (by decide) ?_
  have loop : ∀ m i f, i + m = 6 → (∀ k, k < i → f k = F a k + p * F b k) → (∀ k, i ≤ k → f k = F t k) → K (BB X Z V P (va_up F t f) L g) 3 [some (rf X a), some (rf X b), some (.int p), some (rf X t), some (.int (nI i))] [] := by
    intro m
    induction m with
    | zero =>
      intro i f hi hf hg
      refine q_iload hK dX5_combine_3 rfl ?_
      refine q_bipush (v := nI 6) hK dX5_combine_5 (by decide) ?_
      refine q_icmp_ge hK 31 dX5_combine_7 (by decide) (fun c7 => ?_) (fun c7 => ?_)
      · exact q_vret hR dX5_combine_31 ⟨rfl, h f (fun k hk => hf k (by omega))⟩
      · exact absurd ((nI_leI (by decide) (by omega)).mpr (by omega)) c7
    | succ m ih =>
      intro i f hi hf hg
      have rd : ∀ n, va_up F t f n i = F n i := by
        intro n
        by_cases e : n = t
        · rw [e, up_same]; exact hg i (Nat.le_refl i)
        · rw [up_ne e]
      refine q_iload hK dX5_combine_3 rfl ?_
      refine q_bipush (v := nI 6) hK dX5_combine_5 (by decide) ?_
      refine q_icmp_ge hK 31 dX5_combine_7 (by decide) (fun c7 => ?_) (fun c7 => ?_)
      · have := (nI_leI (by decide) (by omega)).mp c7
        omega
      refine q_aload_n hK 3 dX5_combine_10 rfl rfl ?_
      refine q_iload hK dX5_combine_11 rfl ?_
      refine q_aload_n hK 0 dX5_combine_13 rfl rfl ?_
      refine q_iload hK dX5_combine_14 rfl ?_
      refine qb_ialdR hK dX5_combine_16 ha rfl (by omega) ?_
      refine q_iload_n hK 2 dX5_combine_17 rfl rfl ?_
      refine q_aload_n hK 1 dX5_combine_18 rfl rfl ?_
      refine q_iload hK dX5_combine_19 rfl ?_
      refine qb_ialdR hK dX5_combine_21 hb rfl (by omega) ?_
      refine q_imul hK dX5_combine_22 ?_
      refine q_iadd hK dX5_combine_23 ?_
      refine qb_iastR hK dX5_combine_24 ht rfl (by omega) ?_
      refine q_inc1 hK dX5_combine_25 rfl (by decide) ?_
      refine q_goto hK 3 dX5_combine_28 (by decide) ?_
      rw [up_up, up_same, rd a, rd b]
      refine ih (i + 1) _ (by omega) (fun k hk => ?_) (fun k hk => ?_)
      · by_cases e : k = i
        · rw [e, upd_same]
        · rw [upd_ne e]
          exact hf k (by omega)
      · rw [upd_ne (by omega)]
        exact hg k (by omega)
  have := loop 6 0 (F t) rfl (fun k hk => by omega) (fun k hk => rfl)
  rw [up_id] at this
  exact this
theorem b_isWithin {n t : Nat} {Q : Int32 → Mem → Prop} (hn : bR n = true) (h : Q (b2i (!farN t (F n) 6)) (BB X Z V P F L g)) : CallI X 0 yX5_isWithin [rf X n, .int (nI t)] (BB X Z V P F L g) Q := by
  have e0 : -nI t = jI (-(t : Int)) := by rw [jI_nat, jI_neg]
  refine CallM_intro (own := RX5) [some (rf X n), some (.int (nI t)), none] wX5_isWithin (by decide) (by decide) rfl (Nat.le_of_ble_eq_true rfl) rfl (fun K hK hR => ?_)
  refine q_iconst (v := nI 0) hK dX5_isWithin_0 (by decide) ?_
  refine q_istore_n hK 2 dX5_isWithin_1 rfl (by decide) ?_
  have loop : ∀ m i, i + m = 6 → farN t (F n) i = false → K (BB X Z V P F L g) 2 [some (rf X n), some (.int (nI t)), some (.int (nI i))] [] := by
    intro m
    induction m with
    | zero =>
      intro i hi hf
      have : i = 6 := by omega
      subst this
      rw [hf] at h
      refine q_iload_n hK 2 dX5_isWithin_2 rfl rfl ?_
      refine q_bipush (v := nI 6) hK dX5_isWithin_3 (by decide) ?_
      refine q_icmp_ge hK 31 dX5_isWithin_5 (by decide) (fun c5 => ?_) (fun c5 => ?_)
      · refine q_iconst (v := nI 1) hK dX5_isWithin_31 (by decide) ?_
        exact q_iret hR dX5_isWithin_32 rfl ⟨_, rfl, h⟩
      · exact absurd ((nI_leI (by decide) (by decide)).mpr (by decide)) c5
    | succ m ih =>
      intro i hi hf
      have bad : farN t (F n) (i + 1) = true → K (BB X Z V P F L g) 23 [some (rf X n), some (.int (nI t)), some (.int (nI i))] [] := by
        intro hb
        have := farN_stay hb (5 - i)
        rw [show i + 1 + (5 - i) = 6 by omega] at this
        rw [this] at h
        refine q_iconst (v := nI 0) hK dX5_isWithin_23 (by decide) ?_
        exact q_iret hR dX5_isWithin_24 rfl ⟨_, rfl, h⟩
      refine q_iload_n hK 2 dX5_isWithin_2 rfl rfl ?_
      refine q_bipush (v := nI 6) hK dX5_isWithin_3 (by decide) ?_
      refine q_icmp_ge hK 31 dX5_isWithin_5 (by decide) (fun c5 => ?_) (fun c5 => ?_)
      · have := (nI_leI (by decide) (by omega)).mp c5
        omega
      refine q_aload_n hK 0 dX5_isWithin_8 rfl rfl ?_
      refine q_iload_n hK 2 dX5_isWithin_9 rfl rfl ?_
      refine qb_ialdR hK dX5_isWithin_10 hn rfl (by omega) ?_
      refine q_iload_n hK 1 dX5_isWithin_11 rfl rfl ?_
      refine q_ineg hK dX5_isWithin_12 ?_
      rw [e0]
      refine q_icmp_lt hK 23 dX5_isWithin_13 (by decide) (fun c13 => ?_) (fun c13 => ?_)
      · exact bad (by simp only [farN, Bool.or_eq_true, decide_eq_true_eq]; exact Or.inl (Or.inr c13))
      refine q_aload_n hK 0 dX5_isWithin_16 rfl rfl ?_
      refine q_iload_n hK 2 dX5_isWithin_17 rfl rfl ?_
      refine qb_ialdR hK dX5_isWithin_18 hn rfl (by omega) ?_
      refine q_iload_n hK 1 dX5_isWithin_19 rfl rfl ?_
      refine q_icmp_le hK 25 dX5_isWithin_20 (by decide) (fun c20 => ?_) (fun c20 => ?_)
      rotate_left
      · exact bad (by simp only [farN, Bool.or_eq_true, decide_eq_true_eq]; exact Or.inr (Int32.not_le.mp c20))
      refine q_inc1 hK dX5_isWithin_25 rfl (by decide) ?_
      refine q_goto hK 2 dX5_isWithin_28 (by decide) ?_
      refine ih (i + 1) (by omega) ?_
      simp only [farN, hf, Bool.false_or, Bool.or_eq_false_iff, decide_eq_false_iff_not]
      exact ⟨c13, Int32.not_lt.mpr c20⟩
  exact loop 6 0 rfl rfl
theorem b_isOne {n : Nat} {Q : Int32 → Mem → Prop} (hn : bR n = true) (h : Q (b2i (!farN 0 (F n) 6)) (BB X Z V P F L g)) : CallI X 1 yX5_isOne [rf X n] (BB X Z V P F L g) Q := by
  refine CallM_intro (own := RX5) [some (rf X n)] wX5_isOne (by decide) (by decide) rfl (Nat.le_of_ble_eq_true rfl) rfl (fun K hK hR => ?_)
  refine q_aload_n hK 0 dX5_isOne_0 rfl rfl ?_
  refine q_iconst (v := nI 0) hK dX5_isOne_1 (by decide) ?_
  refine q_cSi2 hK dX5_isOne_2 lX5_15 (by decide) (Nat.le_of_ble_eq_true rfl) (b_isWithin (t := 0) hn ?_)
  exact q_iret hR dX5_isOne_5 (nar_b _) ⟨_, rfl, h⟩
theorem b_isSame {a b : Nat} {Q : Int32 → Mem → Prop} (ha : bR a = true) (hb : bR b = true) (h : Q (b2i (sameN (F a) (F b) 6)) (BB X Z V P F L g)) : CallI X 0 yX5_isSame [rf X a, rf X b] (BB X Z V P F L g) Q := by
  refine CallM_intro (own := RX5) [some (rf X a), some (rf X b), none] wX5_isSame (by decide) (by decide) rfl (Nat.le_of_ble_eq_true rfl) rfl (fun K hK hR => ?_)
  refine q_iconst (v := nI 0) hK dX5_isSame_0 (by decide) ?_
  refine q_istore_n hK 2 dX5_isSame_1 rfl (by decide) ?_
  have loop : ∀ m i, i + m = 6 → sameN (F a) (F b) i = true → K (BB X Z V P F L g) 2 [some (rf X a), some (rf X b), some (.int (nI i))] [] := by
    intro m
    induction m with
    | zero =>
      intro i hi hf
      have : i = 6 := by omega
      subst this
      rw [hf] at h
      refine q_iload_n hK 2 dX5_isSame_2 rfl rfl ?_
      refine q_bipush (v := nI 6) hK dX5_isSame_3 (by decide) ?_
      refine q_icmp_ge hK 25 dX5_isSame_5 (by decide) (fun c5 => ?_) (fun c5 => ?_)
      · refine q_iconst (v := nI 1) hK dX5_isSame_25 (by decide) ?_
        exact q_iret hR dX5_isSame_26 rfl ⟨_, rfl, h⟩
      · exact absurd ((nI_leI (by decide) (by decide)).mpr (by decide)) c5
    | succ m ih =>
      intro i hi hf
      refine q_iload_n hK 2 dX5_isSame_2 rfl rfl ?_
      refine q_bipush (v := nI 6) hK dX5_isSame_3 (by decide) ?_
      refine q_icmp_ge hK 25 dX5_isSame_5 (by decide) (fun c5 => ?_) (fun c5 => ?_)
      · have := (nI_leI (by decide) (by omega)).mp c5
        omega
      refine q_aload_n hK 0 dX5_isSame_8 rfl rfl ?_
      refine q_iload_n hK 2 dX5_isSame_9 rfl rfl ?_
      refine qb_ialdR hK dX5_isSame_10 ha rfl (by omega) ?_
      refine q_aload_n hK 1 dX5_isSame_11 rfl rfl ?_
      refine q_iload_n hK 2 dX5_isSame_12 rfl rfl ?_
      refine qb_ialdR hK dX5_isSame_13 hb rfl (by omega) ?_
      refine q_icmp_eq hK 19 dX5_isSame_14 (by decide) (fun c14 => ?_) (fun c14 => ?_)
      · refine q_inc1 hK dX5_isSame_19 rfl (by decide) ?_
        refine q_goto hK 2 dX5_isSame_22 (by decide) ?_
        exact ih (i + 1) (by omega) (by simp [sameN, hf, c14])
      · have hb2 : sameN (F a) (F b) (i + 1) = false := by simp [sameN, c14]
        have := sameN_stay hb2 (5 - i)
        rw [show i + 1 + (5 - i) = 6 by omega] at this
        rw [this] at h
        refine q_iconst (v := nI 0) hK dX5_isSame_17 (by decide) ?_
        exact q_iret hR dX5_isSame_18 rfl ⟨_, rfl, h⟩
  exact loop 6 0 rfl rfl
end B2
