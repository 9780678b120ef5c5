-- ===== quotients, in the class
def stB (x y : Vec) (q : Nat) : Bool := !farV 200 (fun k => x k - (q : Int) * y k) && decide (0 ≤ sgn (fun k => x k - (q : Int) * y k))
theorem stB_iff {x y : Vec} {q : Nat} : stB x y q = true ↔ ¬ qP x y q := by
  unfold stB qP
  cases farV 200 (fun k => x k - (q : Int) * y k) <;> simp <;> omega
theorem stB_down {x y : Vec} {a b : Nat} (hx : ∀ k, k < 6 → -200 ≤ x k ∧ x k ≤ 200) (hy : 0 < sgn y) (h : stB x y b = true) (hab : a ≤ b) : stB x y a = true := by
  unfold stB at h ⊢
  simp only [Bool.and_eq_true, Bool.not_eq_true', decide_eq_true_eq] at h ⊢
  constructor
  · rw [farV_false] at *
    intro k hk
    have h1 := h.1 k hk
    have h2 := hx k hk
    rcases Int.lt_or_le (y k) 0 with q | q
    · have e1 : (a : Int) * y k ≤ 0 := by
        have := Int.mul_le_mul_of_nonneg_left (show y k ≤ 0 by omega) (show 0 ≤ (a : Int) by omega)
        omega
      have e2 : (b : Int) * y k ≤ (a : Int) * y k := by
        have := Int.mul_le_mul_of_nonneg_left (show y k ≤ 0 by omega) (show 0 ≤ (b : Int) - (a : Int) by omega)
        rw [Int.sub_mul] at this
        omega
      omega
    · have e1 : 0 ≤ (a : Int) * y k := Int.mul_nonneg (by omega) q
      have e2 : (a : Int) * y k ≤ (b : Int) * y k := Int.mul_le_mul_of_nonneg_right (by omega) q
      omega
  · have := sgn_mul h.2 hy (b - a)
    rw [sgn_congr (b := fun k => x k - (a : Int) * y k) (fun k _ => by rw [Int.natCast_sub hab, Int.sub_mul]; omega)] at this
    exact this
def isXY (P : Nat → Nat → Nat) : Prop := (P 44 2 = 46 ∧ P 44 3 = 47) ∨ (P 44 2 = 47 ∧ P 44 3 = 46)
theorem isXY.x {P : Nat → Nat → Nat} (h : isXY P) : bR (P 44 2) = true := by rcases h with ⟨h, _⟩ | ⟨h, _⟩ <;> rw [h] <;> rfl
theorem isXY.y {P : Nat → Nat → Nat} (h : isXY P) : bR (P 44 3) = true := by rcases h with ⟨_, h⟩ | ⟨_, h⟩ <;> rw [h] <;> rfl
theorem isXY.mx {P : Nat → Nat → Nat} (h : isXY P) : P 44 2 ∉ [26, 28, 45] := by rcases h with ⟨h, _⟩ | ⟨h, _⟩ <;> rw [h] <;> decide
theorem isXY.my {P : Nat → Nat → Nat} (h : isXY P) : P 44 3 ∉ [26, 28, 45] := by rcases h with ⟨_, h⟩ | ⟨_, h⟩ <;> rw [h] <;> decide
theorem isXY.ne {P : Nat → Nat → Nat} (h : isXY P) : P 44 3 ≠ P 44 2 := by rcases h with ⟨h, h2⟩ | ⟨h, h2⟩ <;> rw [h, h2] <;> decide
theorem isXY.sx {P : Nat → Nat → Nat} (h : isXY P) : P 44 2 ∈ [26, 28, 45, 46, 47] := by rcases h with ⟨h, _⟩ | ⟨h, _⟩ <;> rw [h] <;> decide
theorem isXY.sy {P : Nat → Nat → Nat} (h : isXY P) : P 44 3 ∈ [26, 28, 45, 46, 47] := by rcases h with ⟨_, h⟩ | ⟨_, h⟩ <;> rw [h] <;> decide
section BA
variable {X : Cx} {Z : Nat → Int32} {V : Nat → Int64} {P : Nat → Nat → Nat} {F : Nat → Nat → Int32} {L : Nat → Nat → Int64} {g : Mem}
theorem b_stays {x y : Vec} {q : Nat} {Q : Int32 → Mem → Prop} (hP : isXY P) (hx : has6 (F (P 44 2)) x 200) (hy : has6 (F (P 44 3)) y 200) (hq : q ≤ 1024) (h : ∀ Z' V' F', eqo [2, 3] Z Z' → eqo [26, 28, 45] F F' → Q (b2i (stB x y q)) (BB X Z' V' P F' L g)) : CallI X 3 yX2_stays [rf X 44, .int (nI q)] (BB X Z V P F L g) Q := by
  refine CallM_intro (own := RX2) [some (rf X 44), some (.int (nI q))] wX2_stays (by decide) (by decide) rfl (Nat.le_of_ble_eq_true rfl) rfl (fun K hK hR => ?_)
  refine q_aload_n hK 0 dX2_stays_0 rfl rfl ?_
  refine q_getf hK dX2_stays_1 fX2_19 (by decide) rfl rfl ?_
  refine q_aload_n hK 0 dX2_stays_4 rfl rfl ?_
  refine q_getf hK dX2_stays_5 fX2_22 (by decide) rfl rfl ?_
  refine q_iload_n hK 1 dX2_stays_8 rfl rfl ?_
  refine q_ineg hK dX2_stays_9 ?_
  refine q_aload_n hK 0 dX2_stays_10 rfl rfl ?_
  refine q_getf hK dX2_stays_11 fX2_15 (by decide) rfl rfl ?_
  refine q_cSv4 hK dX2_stays_14 lX2_35 (by decide) (Nat.le_of_ble_eq_true rfl) (b_combine (t := 45) hP.x hP.y rfl (fun f hf => ?_))
  have hX : hasX (va_up F 45 f 45) (fun k => x k - (q : Int) * y k) := fun k hk => by
    have h1 := hx k hk
    have h2 := hy k hk
    have h3 := mul_bd (x := (q : Int)) (y := y k) (s := 1024) (t := 200) (by omega) (by omega) (by omega) (by omega)
    rw [up_same, hf k hk, h1.1, h2.1, jI_nat q, jI_neg, jI_mul, jI_add]
    exact ⟨by congr 1; rw [Int.neg_mul]; show _ = x k - (q : Int) * y k; omega, by show _ ≤ x k - (q : Int) * y k; omega, by show x k - (q : Int) * y k < _; omega⟩
  refine q_aload_n hK 0 dX2_stays_17 rfl rfl ?_
  refine q_getf hK dX2_stays_18 fX2_15 (by decide) rfl rfl ?_
  refine q_sipush (v := nI 200) hK dX2_stays_21 (by decide) ?_
  refine q_cSi2 hK dX2_stays_24 lX2_47 (by decide) (Nat.le_of_ble_eq_true rfl) (b_isWithin (n := 45) (t := 200) rfl ?_)
  rw [farN_V (by decide) hX]
  unfold stB at h
  refine q_if_eq hK 48 dX2_stays_27 (by decide) (fun c27 => ?_) (fun c27 => ?_)
  · have hf := (b2i_eq0 _).mp c27
    rw [hf] at h
    refine q_iconst (v := nI 0) hK dX2_stays_48 (by decide) ?_
    exact q_iret hR dX2_stays_49 rfl ⟨_, rfl, h Z V _ eqo.rf (eqo.rf.up (by decide))⟩
  have hfar := (b2i_ne0 _).mp c27
  rw [hfar, Bool.true_and] at h
  have hfar' := farV_false.mp (by simpa using hfar)
  refine q_aload_n hK 0 dX2_stays_30 rfl rfl ?_
  refine q_getf hK dX2_stays_31 fX2_9 (by decide) rfl rfl ?_
  refine q_aload_n hK 0 dX2_stays_34 rfl rfl ?_
  refine q_getf hK dX2_stays_35 fX2_15 (by decide) rfl rfl ?_
  have hs : has6 (va_up F 45 f 45) (fun k => x k - (q : Int) * y k) 200 := fun k hk => ⟨(hX k hk).1, (hfar' k hk).1, (hfar' k hk).2⟩
  refine q_cVi1 hK dX2_stays_38 lX2_51 (by decide) (by decide) rfl (Nat.le_of_ble_eq_true rfl) (b_sign (n := 45) rfl hs (fun Z' V' F' y1 y2 => ?_))
  have hh := h Z' V' F' y1 ((eqo.rf.up (by decide)).tr (y2.mono (by decide)))
  have sr := sgn_range (fun k => x k - (q : Int) * y k)
  refine q_if_lt hK 48 dX2_stays_41 (by decide) (fun c41 => ?_) (fun c41 => ?_)
  · have s := (jI_lt0 (by omega) (by omega)).mp c41
    rw [show decide (0 ≤ sgn (fun k => x k - (q : Int) * y k)) = false by simp; omega] at hh
    refine q_iconst (v := nI 0) hK dX2_stays_48 (by decide) ?_
    exact q_iret hR dX2_stays_49 rfl ⟨_, rfl, hh⟩
  · have s := mt (jI_lt0 (b := sgn (fun k => x k - (q : Int) * y k)) (by omega) (by omega)).mpr c41
    rw [show decide (0 ≤ sgn (fun k => x k - (q : Int) * y k)) = true by simp; omega] at hh
    refine q_iconst (v := nI 1) hK dX2_stays_44 (by decide) ?_
    refine q_goto hK 49 dX2_stays_45 (by decide) ?_
    exact q_iret hR dX2_stays_49 rfl ⟨_, rfl, hh⟩
theorem b_firstBelowOne {x y : Vec} {Q : Int32 → Mem → Prop} (hP : isXY P) (hx : has6 (F (P 44 2)) x 200) (hy : has6 (F (P 44 3)) y 200) (hx0 : 0 < sgn x) (hy0 : 0 < sgn y) (h : ∀ Z' V' F', eqo [2, 3] Z Z' → eqo [26, 28, 45] F F' → Q (if farV 200 (fun k => x k - (qf x y : Int) * y k) then 0 else nI (qf x y)) (BB X Z' V' P F' L g)) : CallI X 4 yX2_firstBelowOne [rf X 44] (BB X Z V P F L g) Q := by
  have hxb : ∀ k, k < 6 → -200 ≤ x k ∧ x k ≤ 200 := fun k hk => (hx k hk).2
  obtain ⟨q1, q2, q3, q4⟩ := qf_facts hxb hx0 hy0
  have dn : ∀ a, stB x y a = true ↔ a < qf x y := by
    intro a
    constructor
    · intro ha
      rcases Nat.lt_or_ge a (qf x y) with z | z
      · exact z
      · exact absurd q3 (stB_iff.mp (stB_down hxb hy0 ha z))
    · intro ha
      exact stB_iff.mpr (q4 a ha)
  have tx : ∀ {F'}, eqo [26, 28, 45] F F' → has6 (F' (P 44 2)) x 200 := fun h k hk => by rw [h _ hP.mx]; exact hx k hk
  have ty : ∀ {F'}, eqo [26, 28, 45] F F' → has6 (F' (P 44 3)) y 200 := fun h k hk => by rw [h _ hP.my]; exact hy k hk
  refine CallM_intro (own := RX2) [some (rf X 44), none, none, none, none] wX2_firstBelowOne (by decide) (by decide) rfl (Nat.le_of_ble_eq_true rfl) rfl (fun K hK hR => ?_)
  refine q_iconst (v := nI 0) hK dX2_firstBelowOne_0 (by decide) ?_
  refine q_istore_n hK 1 dX2_firstBelowOne_1 rfl (by decide) ?_
  refine q_iconst (v := nI 1) hK dX2_firstBelowOne_2 (by decide) ?_
  refine q_istore_n hK 2 dX2_firstBelowOne_3 rfl (by decide) ?_
  refine q_iconst (v := nI 0) hK dX2_firstBelowOne_4 (by decide) ?_
  refine q_istore_n hK 3 dX2_firstBelowOne_5 rfl (by decide) ?_
  have fin : ∀ v1 v3 v4 Z' V' F', eqo [2, 3] Z Z' → eqo [26, 28, 45] F F' → K (BB X Z' V' P F' L g) 78 [some (rf X 44), v1, some (.int (nI (qf x y))), v3, v4] [] := by
    intro v1 v3 v4 Z' V' F' z1 z2
    refine q_aload_n hK 0 dX2_firstBelowOne_78 rfl rfl ?_
    refine q_getf hK dX2_firstBelowOne_79 fX2_19 (by decide) rfl rfl ?_
    refine q_aload_n hK 0 dX2_firstBelowOne_82 rfl rfl ?_
    refine q_getf hK dX2_firstBelowOne_83 fX2_22 (by decide) rfl rfl ?_
    refine q_iload_n hK 2 dX2_firstBelowOne_86 rfl rfl ?_
    refine q_ineg hK dX2_firstBelowOne_87 ?_
    refine q_aload_n hK 0 dX2_firstBelowOne_88 rfl rfl ?_
    refine q_getf hK dX2_firstBelowOne_89 fX2_15 (by decide) rfl rfl ?_
    refine q_cSv4 hK dX2_firstBelowOne_92 lX2_35 (by decide) (Nat.le_of_ble_eq_true rfl) (b_combine (t := 45) hP.x hP.y rfl (fun f hf => ?_))
    have hX : hasX (va_up F' 45 f 45) (fun k => x k - (qf x y : Int) * y k) := fun k hk => by
      have h1 := tx z2 k hk
      have h2 := ty z2 k hk
      have h3 := mul_bd (x := (qf x y : Int)) (y := y k) (s := 1024) (t := 200) (by omega) (by omega) (by omega) (by omega)
      rw [up_same, hf k hk, h1.1, h2.1, jI_nat (qf x y), jI_neg, jI_mul, jI_add]
      exact ⟨by congr 1; rw [Int.neg_mul]; show _ = x k - (qf x y : Int) * y k; omega, by show _ ≤ x k - (qf x y : Int) * y k; omega, by show x k - (qf x y : Int) * y k < _; omega⟩
    have hh := h Z' V' _ z1 (z2.up (k := 45) (v := f) (by decide))
    refine q_aload_n hK 0 dX2_firstBelowOne_95 rfl rfl ?_
    refine q_getf hK dX2_firstBelowOne_96 fX2_15 (by decide) rfl rfl ?_
    refine q_sipush (v := nI 200) hK dX2_firstBelowOne_99 (by decide) ?_
    refine q_cSi2 hK dX2_firstBelowOne_102 lX2_47 (by decide) (Nat.le_of_ble_eq_true rfl) (b_isWithin (n := 45) (t := 200) rfl ?_)
    rw [farN_V (by decide) hX]
    refine q_if_eq hK 112 dX2_firstBelowOne_105 (by decide) (fun c105 => ?_) (fun c105 => ?_)
    · have hf := (b2i_eq0 _).mp c105
      rw [if_pos (by simpa using hf)] at hh
      refine q_iconst (v := nI 0) hK dX2_firstBelowOne_112 (by decide) ?_
      exact q_iret hR dX2_firstBelowOne_113 rfl ⟨_, rfl, hh⟩
    · have hf := (b2i_ne0 _).mp c105
      rw [if_neg (by simpa using hf)] at hh
      refine q_iload_n hK 2 dX2_firstBelowOne_108 rfl rfl ?_
      refine q_goto hK 113 dX2_firstBelowOne_109 (by decide) ?_
      exact q_iret hR dX2_firstBelowOne_113 rfl ⟨_, rfl, hh⟩
  have srch : ∀ s i low high v4 Z' V' F', i + s = 10 → low < high → high ≤ 1024 → low < qf x y → qf x y ≤ high → high - low ≤ 2 ^ s → eqo [2, 3] Z Z' → eqo [26, 28, 45] F F' → K (BB X Z' V' P F' L g) 34 [some (rf X 44), some (.int (nI low)), some (.int (nI high)), some (.int (nI i)), v4] [] := by
    intro s
    induction s with
    | zero =>
      intro i low high v4 Z' V' F' hi h1 h2 h3 h4 h5 z1 z2
      have h5' : high - low ≤ 1 := h5
      have : high = qf x y := by omega
      subst this
      refine q_iload_n hK 3 dX2_firstBelowOne_34 rfl rfl ?_
      refine q_bipush (v := nI 10) hK dX2_firstBelowOne_35 (by decide) ?_
      refine q_icmp_ge hK 78 dX2_firstBelowOne_37 (by decide) (fun c37 => ?_) (fun c37 => ?_)
      · exact fin _ _ _ Z' V' F' z1 z2
      · exact absurd ((nI_leI (by decide) (by omega)).mpr (by omega)) c37
    | succ s ih =>
      intro i low high v4 Z' V' F' hi h1 h2 h3 h4 h5 z1 z2
      refine q_iload_n hK 3 dX2_firstBelowOne_34 rfl rfl ?_
      refine q_bipush (v := nI 10) hK dX2_firstBelowOne_35 (by decide) ?_
      refine q_icmp_ge hK 78 dX2_firstBelowOne_37 (by decide) (fun c37 => ?_) (fun c37 => ?_)
      · have := (nI_leI (by decide) (by omega)).mp c37
        omega
      refine q_iload_n hK 1 dX2_firstBelowOne_40 rfl rfl ?_
      refine q_iconst (v := nI 1) hK dX2_firstBelowOne_41 (by decide) ?_
      refine q_iadd hK dX2_firstBelowOne_42 ?_
      refine q_iload_n hK 2 dX2_firstBelowOne_43 rfl rfl ?_
      rw [show nI low + nI 1 = nI (low + 1) from nI_add low 1]
      refine q_icmp_ge hK 78 dX2_firstBelowOne_44 (by decide) (fun c44 => ?_) (fun c44 => ?_)
      · have := (nI_leI (by omega) (by omega)).mp c44
        have : high = qf x y := by omega
        subst this
        exact fin _ _ _ Z' V' F' z1 z2
      have hlt := mt (nI_leI (a := high) (b := low + 1) (by omega) (by omega)).mpr c44
      refine q_iload_n hK 1 dX2_firstBelowOne_47 rfl rfl ?_
      refine q_iload_n hK 2 dX2_firstBelowOne_48 rfl rfl ?_
      refine q_iadd hK dX2_firstBelowOne_49 ?_
      refine q_iconst (v := nI 2) hK dX2_firstBelowOne_50 (by decide) ?_
      refine q_idiv hK dX2_firstBelowOne_51 (by decide) ?_
      rw [show nI low + nI high = nI (low + high) from nI_add low high, show nI (low + high) / nI 2 = nI ((low + high) / 2) from pk_div (by omega) (by decide) (by decide)]
      have hp2 : 2 ^ (s + 1) = 2 ^ s * 2 := Nat.pow_succ ..
      have m1 : low < (low + high) / 2 ∧ (low + high) / 2 < high := by omega
      have m2 : high - (low + high) / 2 ≤ 2 ^ s := by omega
      have m3 : (low + high) / 2 - low ≤ 2 ^ s := by omega
      generalize (low + high) / 2 = mid at *
      refine q_istore hK dX2_firstBelowOne_52 (by decide) ?_
      refine q_aload_n hK 0 dX2_firstBelowOne_54 rfl rfl ?_
      refine q_iload hK dX2_firstBelowOne_55 rfl ?_
      refine q_cVi1 hK dX2_firstBelowOne_57 lX2_43 (by decide) (by decide) rfl (Nat.le_of_ble_eq_true rfl) (b_stays hP (tx z2) (ty z2) (by omega) (fun Z2 V2 F2 y1 y2 => ?_))
      refine q_if_eq hK 69 dX2_firstBelowOne_60 (by decide) (fun c60 => ?_) (fun c60 => ?_)
      · have hs : ¬ mid < qf x y := fun z => by rw [(dn mid).mpr z] at c60; exact absurd c60 (by decide)
        refine q_iload hK dX2_firstBelowOne_69 rfl ?_
        refine q_istore_n hK 2 dX2_firstBelowOne_71 rfl (by decide) ?_
        refine q_inc1 hK dX2_firstBelowOne_72 rfl (by decide) ?_
        refine q_goto hK 34 dX2_firstBelowOne_75 (by decide) ?_
        exact ih (i + 1) low mid _ Z2 V2 F2 (by omega) (by omega) (by omega) (by omega) (by omega) m3 (z1.tr y1) (z2.tr y2)
      · have hs := (dn mid).mp ((b2i_ne0 _).mp c60)
        refine q_iload hK dX2_firstBelowOne_63 rfl ?_
        refine q_istore_n hK 1 dX2_firstBelowOne_65 rfl (by decide) ?_
        refine q_goto hK 72 dX2_firstBelowOne_66 (by decide) ?_
        refine q_inc1 hK dX2_firstBelowOne_72 rfl (by decide) ?_
        refine q_goto hK 34 dX2_firstBelowOne_75 (by decide) ?_
        exact ih (i + 1) mid high _ Z2 V2 F2 (by omega) (by omega) (by omega) (by omega) (by omega) m2 (z1.tr y1) (z2.tr y2)
  have dbl : ∀ s i low Z' V' F', i + s = 10 → low < 2 ^ i → low < qf x y → eqo [2, 3] Z Z' → eqo [26, 28, 45] F F' → K (BB X Z' V' P F' L g) 6 [some (rf X 44), some (.int (nI low)), some (.int (nI (2 ^ i))), some (.int (nI i)), none] [] := by
    intro s
    induction s with
    | zero =>
      intro i low Z' V' F' hi h1 h2 z1 z2
      have : i = 10 := by omega
      subst this
      refine q_iload_n hK 3 dX2_firstBelowOne_6 rfl rfl ?_
      refine q_bipush (v := nI 10) hK dX2_firstBelowOne_7 (by decide) ?_
      refine q_icmp_ge hK 32 dX2_firstBelowOne_9 (by decide) (fun c9 => ?_) (fun c9 => ?_)
      rotate_left
      · exact absurd ((nI_leI (by decide) (by decide)).mpr (by decide)) c9
      refine q_iconst (v := nI 0) hK dX2_firstBelowOne_32 (by decide) ?_
      refine q_istore_n hK 3 dX2_firstBelowOne_33 rfl (by decide) ?_
      exact srch 10 0 low (2 ^ 10) none Z' V' F' rfl h1 (by decide) h2 (by omega) (by omega) z1 z2
    | succ s ih =>
      intro i low Z' V' F' hi h1 h2 z1 z2
      have hp : 2 ^ i ≤ 2 ^ 9 := Nat.pow_le_pow_right (by decide) (by omega)
      refine q_iload_n hK 3 dX2_firstBelowOne_6 rfl rfl ?_
      refine q_bipush (v := nI 10) hK dX2_firstBelowOne_7 (by decide) ?_
      refine q_icmp_ge hK 32 dX2_firstBelowOne_9 (by decide) (fun c9 => ?_) (fun c9 => ?_)
      · have := (nI_leI (by decide) (by omega)).mp c9
        omega
      refine q_aload_n hK 0 dX2_firstBelowOne_12 rfl rfl ?_
      refine q_iload_n hK 2 dX2_firstBelowOne_13 rfl rfl ?_
      refine q_cVi1 hK dX2_firstBelowOne_14 lX2_43 (by decide) (by decide) rfl (Nat.le_of_ble_eq_true rfl) (b_stays hP (tx z2) (ty z2) (by omega) (fun Z2 V2 F2 y1 y2 => ?_))
      refine q_if_eq hK 32 dX2_firstBelowOne_17 (by decide) (fun c17 => ?_) (fun c17 => ?_)
      · have hs : ¬ 2 ^ i < qf x y := fun z => by rw [(dn (2 ^ i)).mpr z] at c17; exact absurd c17 (by decide)
        refine q_iconst (v := nI 0) hK dX2_firstBelowOne_32 (by decide) ?_
        refine q_istore_n hK 3 dX2_firstBelowOne_33 rfl (by decide) ?_
        exact srch 10 0 low (2 ^ i) none Z2 V2 F2 rfl h1 (by omega) h2 (by omega) (by omega) (z1.tr y1) (z2.tr y2)
      · have hs := (dn (2 ^ i)).mp ((b2i_ne0 _).mp c17)
        refine q_iload_n hK 2 dX2_firstBelowOne_20 rfl rfl ?_
        refine q_istore_n hK 1 dX2_firstBelowOne_21 rfl (by decide) ?_
        refine q_iload_n hK 2 dX2_firstBelowOne_22 rfl rfl ?_
        refine q_iconst (v := nI 2) hK dX2_firstBelowOne_23 (by decide) ?_
        refine q_imul hK dX2_firstBelowOne_24 ?_
        refine q_istore_n hK 2 dX2_firstBelowOne_25 rfl (by decide) ?_
        refine q_inc1 hK dX2_firstBelowOne_26 rfl (by decide) ?_
        refine q_goto hK 6 dX2_firstBelowOne_29 (by decide) ?_
        rw [show nI (2 ^ i) * nI 2 = nI (2 ^ (i + 1)) by rw [Nat.pow_succ]; exact pk_mul _ _]
        exact ih (i + 1) (2 ^ i) Z2 V2 F2 (by omega) (Nat.pow_lt_pow_right (by decide) (by omega)) hs (z1.tr y1) (z2.tr y2)
  exact dbl 10 0 0 Z V F rfl (by decide) (by omega) eqo.rf eqo.rf
theorem b_tell {a b k0 : Nat} {x y : Vec} {Q : Int32 → Mem → Prop} (hP : isXY P) (ha : bR a = true) (hb : bR b = true) (ha2 : 48 ≤ a) (hb2 : 48 ≤ b) (hx : has6 (F a) x 24) (hy : has6 (F b) y 24) (hx0 : 0 < sgn x) (hy0 : 0 < sgn y) (hk : k0 < 20) (h : ∀ Z' V' P' F', eqo [2, 3] Z Z' → eqo [44] P P' → isXY P' → eqo [26, 28, 45, 46, 47] F F' → Q (match quoS k0 x y with | none => -1 | some v => jI v) (BB X Z' V' P' F' L g)) : CallI X 5 yX2_tell [rf X 44, rf X a, rf X b, .int (nI k0)] (BB X Z V P F L g) Q := by
  have hax : ∀ {P'}, isXY P' → b ≠ P' 44 2 := fun hP z => by
    rcases hP with ⟨q, _⟩ | ⟨q, _⟩ <;> omega
  refine CallM_intro (own := RX2) [some (rf X 44), some (rf X a), some (rf X b), some (.int (nI k0)), none, none, none] wX2_tell (by decide) (by decide) rfl (Nat.le_of_ble_eq_true rfl) rfl (fun K hK hR => ?_)
  refine q_aload_n hK 1 dX2_tell_0 rfl rfl ?_
  refine q_aload_n hK 0 dX2_tell_1 rfl rfl ?_
  refine q_getf hK dX2_tell_2 fX2_19 (by decide) rfl rfl ?_
  refine q_cSv2 hK dX2_tell_5 lX2_25 (by decide) (Nat.le_of_ble_eq_true rfl) (b_copy ha hP.x (fun f1 hf1 => ?_))
  refine q_aload_n hK 2 dX2_tell_8 rfl rfl ?_
  refine q_aload_n hK 0 dX2_tell_9 rfl rfl ?_
  refine q_getf hK dX2_tell_10 fX2_22 (by decide) rfl rfl ?_
  refine q_cSv2 hK dX2_tell_13 lX2_25 (by decide) (Nat.le_of_ble_eq_true rfl) (b_copy hb hP.y (fun f2 hf2 => ?_))
  generalize hres : quoS k0 x y = res at h
  refine q_iconst (v := nI 0) hK dX2_tell_16 (by decide) ?_
  refine q_istore hK dX2_tell_17 (by decide) ?_
  have loop : ∀ m i x y v5 v6 Z' V' P' F', i + m = k0 → quoS m x y = res → isXY P' → has6 (F' (P' 44 2)) x 200 → has6 (F' (P' 44 3)) y 200 → 0 < sgn x → 0 < sgn y → eqo [2, 3] Z Z' → eqo [44] P P' → eqo [26, 28, 45, 46, 47] F F' → K (BB X Z' V' P' F' L g) 19 [some (rf X 44), some (rf X a), some (rf X b), some (.int (nI k0)), some (.int (nI i)), v5, v6] [] := by
    intro m
    induction m with
    | zero =>
      intro i x y v5 v6 Z' V' P' F' hi hr hP hx hy hx0 hy0 z1 z2 z3
      have : i = k0 := by omega
      subst this
      obtain ⟨q1, q2, q3, q4⟩ := qf_facts (fun k hk => (hx k hk).2) hx0 hy0
      rw [← hr] at h
      unfold quoS at h
      refine q_iload hK dX2_tell_19 rfl ?_
      refine q_iload_n hK 3 dX2_tell_21 rfl rfl ?_
      refine q_icmp_gt hK 107 dX2_tell_22 (by decide) (fun c22 => ?_) (fun c22 => ?_)
      · exact absurd c22 (fun z => by have := (nI_ltI (by omega) (by omega)).mp z; omega)
      refine q_aload_n hK 0 dX2_tell_25 rfl rfl ?_
      refine q_cVi0 hK dX2_tell_26 lX2_31 (by decide) (by decide) rfl (Nat.le_of_ble_eq_true rfl) (b_firstBelowOne hP hx hy hx0 hy0 (fun Z2 V2 F2 y1 y2 => ?_))
      have hh := h Z2 V2 P' F2 (z1.tr y1) z2 hP (z3.tr (y2.mono (by decide)))
      refine q_istore hK dX2_tell_29 (by decide) ?_
      refine q_iload hK dX2_tell_31 rfl ?_
      by_cases hf : farV 200 (fun k => x k - (qf x y : Int) * y k) = true
      · rw [if_pos hf] at hh ⊢
        refine q_if_ne hK 38 dX2_tell_33 (by decide) (fun c33 => ?_) (fun c33 => ?_)
        · exact absurd rfl c33
        refine q_iconst (v := jI (-1)) hK dX2_tell_36 (by decide) ?_
        exact q_iret hR dX2_tell_37 rfl ⟨_, rfl, hh⟩
      · rw [if_neg hf] at hh ⊢
        refine q_if_ne hK 38 dX2_tell_33 (by decide) (fun c33 => ?_) (fun c33 => ?_)
        rotate_left
        · exact absurd c33 (nI_ne0 (by omega) (by omega))
        refine q_iload hK dX2_tell_38 rfl ?_
        refine q_iload_n hK 3 dX2_tell_40 rfl rfl ?_
        refine q_icmp_ne hK 49 dX2_tell_41 (by decide) (fun c41 => ?_) (fun c41 => ?_)
        · exact absurd rfl c41
        refine q_iload hK dX2_tell_44 rfl ?_
        refine q_iconst (v := nI 1) hK dX2_tell_46 (by decide) ?_
        refine q_isub hK dX2_tell_47 ?_
        rw [show nI (qf x y) - nI 1 = jI ((qf x y : Int) - 1) by rw [jI_nat, jI_nat, jI_sub]; rfl]
        exact q_iret hR dX2_tell_48 rfl ⟨_, rfl, hh⟩
    | succ m ih =>
      intro i x y v5 v6 Z' V' P' F' hi hr hP hx hy hx0 hy0 z1 z2 z3
      obtain ⟨q1, q2, q3, q4⟩ := qf_facts (fun k hk => (hx k hk).2) hx0 hy0
      unfold quoS at hr
      refine q_iload hK dX2_tell_19 rfl ?_
      refine q_iload_n hK 3 dX2_tell_21 rfl rfl ?_
      refine q_icmp_gt hK 107 dX2_tell_22 (by decide) (fun c22 => ?_) (fun c22 => ?_)
      · exact absurd c22 (fun z => by have := (nI_ltI (by omega) (by omega)).mp z; omega)
      refine q_aload_n hK 0 dX2_tell_25 rfl rfl ?_
      refine q_cVi0 hK dX2_tell_26 lX2_31 (by decide) (by decide) rfl (Nat.le_of_ble_eq_true rfl) (b_firstBelowOne hP hx hy hx0 hy0 (fun Z2 V2 F2 y1 y2 => ?_))
      have e2 : eqo [26, 28, 45, 46, 47] F F2 := z3.tr (y2.mono (by decide))
      refine q_istore hK dX2_tell_29 (by decide) ?_
      refine q_iload hK dX2_tell_31 rfl ?_
      by_cases hf : farV 200 (fun k => x k - (qf x y : Int) * y k) = true
      · rw [if_pos hf] at hr ⊢
        have hh := h Z2 V2 P' F2 (z1.tr y1) z2 hP e2
        rw [← hr] at hh
        refine q_if_ne hK 38 dX2_tell_33 (by decide) (fun c33 => ?_) (fun c33 => ?_)
        · exact absurd rfl c33
        refine q_iconst (v := jI (-1)) hK dX2_tell_36 (by decide) ?_
        exact q_iret hR dX2_tell_37 rfl ⟨_, rfl, hh⟩
      rw [if_neg hf] at hr ⊢
      refine q_if_ne hK 38 dX2_tell_33 (by decide) (fun c33 => ?_) (fun c33 => ?_)
      rotate_left
      · exact absurd c33 (nI_ne0 (by omega) (by omega))
      refine q_iload hK dX2_tell_38 rfl ?_
      refine q_iload_n hK 3 dX2_tell_40 rfl rfl ?_
      refine q_icmp_ne hK 49 dX2_tell_41 (by decide) (fun c41 => ?_) (fun c41 => ?_)
      rotate_left
      · exact absurd ((nI_eq (by omega) (by omega)).mp c41) (by omega)
      refine q_aload_n hK 0 dX2_tell_49 rfl rfl ?_
      refine q_getf hK dX2_tell_50 fX2_19 (by decide) rfl rfl ?_
      refine q_aload_n hK 0 dX2_tell_53 rfl rfl ?_
      refine q_getf hK dX2_tell_54 fX2_22 (by decide) rfl rfl ?_
      refine q_iconst (v := nI 1) hK dX2_tell_57 (by decide) ?_
      refine q_iload hK dX2_tell_58 rfl ?_
      refine q_isub hK dX2_tell_60 ?_
      refine q_aload_n hK 0 dX2_tell_61 rfl rfl ?_
      refine q_getf hK dX2_tell_62 fX2_19 (by decide) rfl rfl ?_
      refine q_cSv4 hK dX2_tell_65 lX2_35 (by decide) (Nat.le_of_ble_eq_true rfl) (b_combine hP.x hP.y hP.x (fun f hf2 => ?_))
      have hst : stB x y (qf x y - 1) = true := stB_iff.mpr (q4 _ (by omega))
      unfold stB at hst
      rw [show ((qf x y - 1 : Nat) : Int) = (qf x y : Int) - 1 by omega] at hst
      simp only [Bool.and_eq_true, Bool.not_eq_true', decide_eq_true_eq] at hst
      have hcl := farV_false.mp hst.1
      have hx' : has6 (va_up F2 (P' 44 2) f (P' 44 2)) (fun k => x k - ((qf x y : Int) - 1) * y k) 200 := fun k hk => by
        rw [up_same, hf2 k hk, y2 _ hP.mx, y2 _ hP.my, (hx k hk).1, (hy k hk).1, jI_nat 1, jI_nat (qf x y), jI_sub, jI_mul, jI_add]
        exact ⟨by congr 1; rw [Int.sub_mul]; show _ = x k - ((qf x y : Int) - 1) * y k; rw [Int.sub_mul]; omega, (hcl k hk).1, (hcl k hk).2⟩
      refine q_aload_n hK 0 dX2_tell_68 rfl rfl ?_
      refine q_getf hK dX2_tell_69 fX2_19 (by decide) rfl rfl ?_
      refine q_cSi1 hK dX2_tell_72 lX2_39 (by decide) (Nat.le_of_ble_eq_true rfl) (b_isOne hP.x ?_)
      rw [farN_V (by decide) (hx'.X (by decide))]
      have e3 : eqo [26, 28, 45, 46, 47] F (va_up F2 (P' 44 2) f) := e2.up hP.sx
      by_cases hz : sgn (fun k => x k - ((qf x y : Int) - 1) * y k) = 0
      · rw [if_pos hz] at hr
        have hh := h Z2 V2 P' _ (z1.tr y1) z2 hP e3
        rw [← hr] at hh
        have hzz : farV 0 (fun k => x k - ((qf x y : Int) - 1) * y k) = false := by
          rw [farV_false]
          intro k hk
          have := sgn_one.mp hz k hk
          omega
        rw [hzz]
        refine q_if_eq hK 81 dX2_tell_75 (by decide) (fun c75 => ?_) (fun c75 => ?_)
        · exact absurd c75 (by decide)
        refine q_bipush (v := jI (-2)) hK dX2_tell_78 (by decide) ?_
        exact q_iret hR dX2_tell_80 rfl ⟨_, rfl, hh⟩
      · rw [if_neg hz] at hr
        have hzz : farV 0 (fun k => x k - ((qf x y : Int) - 1) * y k) = true := by
          cases hq : farV 0 (fun k => x k - ((qf x y : Int) - 1) * y k)
          · rw [farV_false] at hq
            exact absurd (sgn_one.mpr (fun k hk => by have := hq k hk; omega)) hz
          · rfl
        rw [hzz]
        refine q_if_eq hK 81 dX2_tell_75 (by decide) (fun c75 => ?_) (fun c75 => ?_)
        rotate_left
        · exact absurd rfl c75
        refine q_aload_n hK 0 dX2_tell_81 rfl rfl ?_
        refine q_getf hK dX2_tell_82 fX2_19 (by decide) rfl rfl ?_
        refine q_astore hK dX2_tell_85 (by decide) ?_
        refine q_aload_n hK 0 dX2_tell_87 rfl rfl ?_
        refine q_aload_n hK 0 dX2_tell_88 rfl rfl ?_
        refine q_getf hK dX2_tell_89 fX2_22 (by decide) rfl rfl ?_
        refine qb_put44_2 hK dX2_tell_92 pX2_19 ?_
        refine q_aload_n hK 0 dX2_tell_95 rfl rfl ?_
        refine q_aload hK dX2_tell_96 rfl ?_
        refine qb_put44_3 hK dX2_tell_98 pX2_22 ?_
        refine q_inc1 hK dX2_tell_101 rfl (by decide) ?_
        refine q_goto hK 19 dX2_tell_104 (by decide) ?_
        simp only [up_up, up_same]
        refine ih (i + 1) y (fun k => x k - ((qf x y : Int) - 1) * y k) _ _ Z2 V2 _ _ (by omega) hr ?_ ?_ ?_ hy0 (by omega) (z1.tr y1) ?_ e3
        · unfold isXY at hP ⊢
          rw [up_same, up_same, up_ne (by decide : (2 : Nat) ≠ 3), up_same]
          omega
        · rw [up_same, up_ne (by decide : (2 : Nat) ≠ 3), up_same, up_ne hP.ne, y2 _ hP.my]
          exact hy
        · rw [up_same, up_same]
          exact hx'
        · exact z2.up (by decide)
  refine loop k0 0 x y none none Z V P _ (by omega) hres hP ?_ ?_ hx0 hy0 eqo.rf eqo.rf ((eqo.rf.up hP.sx).up hP.sy)
  · intro k hk
    have := hx k hk
    rw [up_ne (fun z => hP.ne z.symm), up_same, hf1 k hk]
    exact ⟨this.1, by omega, by omega⟩
  · intro k hk
    have := hy k hk
    rw [up_same, hf2 k hk, up_ne (hax hP)]
    exact ⟨this.1, by omega, by omega⟩
end BA
