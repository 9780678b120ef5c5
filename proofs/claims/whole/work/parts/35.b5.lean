-- ===== folding, in the class
def nearK (a p : Vec) (k : Int) (i : Nat) : Prop := ∀ j, j < i → -24 ≤ a j + k * p j ∧ a j + k * p j ≤ 24
theorem nearK_far {a p : Vec} {k : Int} : nearK a p k 6 ↔ farV 24 (fun j => a j + k * p j) = false := by
  rw [farV_false]
  exact Iff.rfl
theorem nearK_succ {a p : Vec} {k : Int} {i : Nat} : nearK a p k (i + 1) ↔ nearK a p k i ∧ -24 ≤ a i + k * p i ∧ a i + k * p i ≤ 24 := by
  constructor
  · intro h
    exact ⟨fun j hj => h j (by omega), h i (by omega)⟩
  · rintro ⟨h1, h2⟩ j hj
    by_cases e : j = i
    · rw [e]; exact h2
    · exact h1 j (by omega)
theorem fd_lo {x b k : Int} (hb : 0 < b) : -(x / b) ≤ k ↔ -24 ≤ (x - 24) + k * b := by
  have h1 := Int.le_ediv_iff_mul_le (a := -k) (b := x) hb
  rw [Int.neg_mul] at h1
  constructor
  · intro h
    have := h1.mp (by omega)
    omega
  · intro h
    have := h1.mpr (by omega)
    omega
theorem fd_hi {x b k : Int} (hb : 0 < b) : k ≤ x / b ↔ (24 - x) + k * b ≤ 24 := by
  have h1 := Int.le_ediv_iff_mul_le (a := k) (b := x) hb
  constructor
  · intro h
    have := h1.mp h
    omega
  · intro h
    exact h1.mpr (by omega)
theorem fd_bd {x b : Int} {B : Nat} (hb : 0 < b) (h1 : -(B : Int) ≤ x) (h2 : x ≤ B) : -(B : Int) ≤ x / b ∧ x / b ≤ B := by
  constructor
  · rw [Int.le_ediv_iff_mul_le hb]
    have : (B : Int) * 1 ≤ (B : Int) * b := Int.mul_le_mul_of_nonneg_left (by omega) (by omega)
    rw [Int.neg_mul]
    omega
  · rcases Int.lt_or_le x 0 with q | q
    · have : x / b < 0 := Int.ediv_neg_of_neg_of_pos q hb
      omega
    · exact Int.le_trans (Int.ediv_le_self _ q) h2
/-- a period's powers: no near one beyond 1000 -/
theorem near_bd {a p : Vec} (ha : ∀ k, k < 6 → -900 ≤ a k ∧ a k ≤ 900) (hp : 0 < sgn p) {k : Int} (h : nearK a p k 6) : -1000 ≤ k ∧ k ≤ 1000 := by
  have hx : ∃ j, j < 6 ∧ p j ≠ 0 := by
    by_cases q : ∃ j, j < 6 ∧ p j ≠ 0
    · exact q
    · exfalso
      have : sgn p = 0 := sgn_one.mpr (fun j hj => by
        by_cases z : p j = 0
        · exact z
        · exact absurd ⟨j, hj, z⟩ q)
      omega
  obtain ⟨j, hj, hpj⟩ := hx
  have h1 := h j hj
  have h2 := ha j hj
  have h3 : k.natAbs * 1 ≤ k.natAbs * (p j).natAbs := Nat.mul_le_mul_left _ (by omega)
  rw [← Int.natAbs_mul] at h3
  generalize k * p j = z at *
  omega
section B7
variable {X : Cx} {Z : Nat → Int32} {V : Nat → Int64} {P : Nat → Nat → Nat} {F : Nat → Nat → Int32} {L : Nat → Nat → Int64} {g : Mem}
theorem b_foldBetween {n m t : Nat} {a p : Vec} {lo hi : Int} {Q : Int32 → Mem → Prop} (hn : bR n = true) (hm : bR m = true) (ht : bR t = true) (htn : t ≠ n) (htm : t ≠ m) (t29 : t ≠ 29) (n29 : n ≠ 29) (m29 : m ≠ 29) (ha : ∀ k, k < 6 → F n k = jI (a k)) (hp : ∀ k, k < 6 → F m k = jI (p k) ∧ -24 ≤ p k ∧ p k ≤ 24) (hps : 0 < sgn p) (l1 : -1000 ≤ lo) (l2 : lo ≤ hi) (l3 : hi ≤ 1000) (hnear : ∀ k, lo ≤ k → k ≤ hi → nearK a p k 6) (hgood : ∀ k, good a p k → lo ≤ k ∧ k ≤ hi)
    (h : ∀ Z' V' F', eqo [2, 3] Z Z' → eqo [26, 28, 29, t] F F' → (∀ r, foldv a p = some r → (∀ k, k < 6 → F' t k = jI (r k)) → Q 1 (BB X Z' V' P F' L g)) ∧ (foldv a p = none → Q 0 (BB X Z' V' P F' L g))) : CallI X 3 yX7_foldBetween [rf X 24, rf X n, rf X m, .int (jI lo), .int (jI hi), rf X t] (BB X Z V P F L g) Q := by
  have nS : n ∉ [26, 28, 29, t] := by
    simp
    exact ⟨fun z => by rw [z] at hn; exact absurd hn (by decide), fun z => by rw [z] at hn; exact absurd hn (by decide), n29, fun z => htn z.symm⟩
  have mS : m ∉ [26, 28, 29, t] := by
    simp
    exact ⟨fun z => by rw [z] at hm; exact absurd hm (by decide), fun z => by rw [z] at hm; exact absurd hm (by decide), m29, fun z => htm z.symm⟩
  have t26 : t ≠ 26 := fun z => by rw [z] at ht; exact absurd ht (by decide)
  have t28 : t ≠ 28 := fun z => by rw [z] at ht; exact absurd ht (by decide)
  refine CallM_intro (own := RX7) [some (rf X 24), some (rf X n), some (rf X m), some (.int (jI lo)), some (.int (jI hi)), some (rf X t), none, none, none, none] wX7_foldBetween (by decide) (by decide) rfl (Nat.le_of_ble_eq_true rfl) rfl (fun K hK hR => ?_)
  refine q_iload_n hK 3 dX7_foldBetween_0 rfl rfl ?_
  refine q_istore hK dX7_foldBetween_1 (by decide) ?_
  refine q_iload hK dX7_foldBetween_3 rfl ?_
  refine q_istore hK dX7_foldBetween_5 (by decide) ?_
  refine q_iconst (v := nI 0) hK dX7_foldBetween_7 (by decide) ?_
  refine q_istore hK dX7_foldBetween_8 (by decide) ?_
  have fin : ∀ k v7 v8 v9 Z' V' F', lo ≤ k → k ≤ hi → (∀ j, good a p j → j = k) → eqo [2, 3] Z Z' → eqo [26, 28, 29, t] F F' → K (BB X Z' V' P F' L g) 72 [some (rf X 24), some (rf X n), some (rf X m), some (.int (jI lo)), some (.int (jI hi)), some (rf X t), some (.int (jI k)), v7, v8, v9] [] := by
    intro k v7 v8 v9 Z' V' F' k1 k2 hu z1 z2
    have hnk := hnear k k1 k2
    refine q_aload_n hK 1 dX7_foldBetween_72 rfl rfl ?_
    refine q_aload_n hK 2 dX7_foldBetween_73 rfl rfl ?_
    refine q_iload hK dX7_foldBetween_74 rfl ?_
    refine q_aload hK dX7_foldBetween_76 rfl ?_
    refine q_cSv4 hK dX7_foldBetween_78 lX7_33 (by decide) (Nat.le_of_ble_eq_true rfl) (b_combine (t := t) hn hm ht (fun f1 hf1 => ?_))
    have hto : ∀ j, j < 6 → f1 j = jI (a j + k * p j) := fun j hj => by
      rw [hf1 j hj, z2 n nS, z2 m mS, ha j hj, (hp j hj).1, jI_mul, jI_add]
    refine q_aload hK dX7_foldBetween_81 rfl ?_
    refine q_aload_n hK 2 dX7_foldBetween_83 rfl rfl ?_
    refine q_iconst (v := jI (-1)) hK dX7_foldBetween_84 (by decide) ?_
    refine q_aload_n hK 0 dX7_foldBetween_85 rfl rfl ?_
    refine q_getf hK dX7_foldBetween_86 fX7_21 (by decide) rfl rfl ?_
    refine q_cSv4 hK dX7_foldBetween_89 lX7_33 (by decide) (Nat.le_of_ble_eq_true rfl) (b_combine (t := 29) ht hm rfl (fun f2 hf2 => ?_))
    have hbt : ∀ j, j < 6 → f2 j = jI (a j + (k - 1) * p j) := fun j hj => by
      rw [hf2 j hj, up_same, hto j hj, up_ne (fun z => htm z.symm), z2 m mS, (hp j hj).1, jI_mul, jI_add]
      congr 1
      rw [Int.sub_mul]
      omega
    refine q_aload_n hK 0 dX7_foldBetween_92 rfl rfl ?_
    refine q_aload hK dX7_foldBetween_93 rfl ?_
    have hs1 : has6 (va_up (va_up F' t f1) 29 f2 t) (fun j => a j + k * p j) 200 := fun j hj => by
      have := hnk j hj
      rw [up_ne t29, up_same]
      exact ⟨hto j hj, by show _ ≤ a j + k * p j; omega, by show a j + k * p j ≤ _; omega⟩
    refine q_cVi1 hK dX7_foldBetween_95 lX7_39 (by decide) (by decide) rfl (Nat.le_of_ble_eq_true rfl) (b_sign (n := t) ht hs1 (fun Z2 V2 F2 y1 y2 => ?_))
    have sr := sgn_range (fun j => a j + k * p j)
    have sr2 := sgn_range (fun j => a j + (k - 1) * p j)
    have e2 : eqo [26, 28, 29, t] F F2 := (((z2.up (k := t) (v := f1) (by simp)).up (k := 29) (v := f2) (by simp)) : eqo [26, 28, 29, t] F _).tr (y2.mono (by simp))
    have ft : ∀ j, j < 6 → F2 t j = jI (a j + k * p j) := fun j hj => by
      rw [y2 t (by simp; exact ⟨t26, t28⟩), up_ne t29, up_same, hto j hj]
    refine q_if_lt hK 116 dX7_foldBetween_98 (by decide) (fun c98 => ?_) (fun c98 => ?_)
    · have q := (jI_lt0 (by omega) (by omega)).mp c98
      have hno : foldv a p = none := foldv_none (fun j hj => by
        have e := hu j hj
        subst e
        have := hj.2.1
        omega)
      have hh := (h Z2 V2 F2 (z1.tr y1) e2).2 hno
      refine q_iconst (v := nI 0) hK dX7_foldBetween_116 (by decide) ?_
      exact q_iret hR dX7_foldBetween_117 rfl ⟨_, rfl, hh⟩
    have q := mt (jI_lt0 (b := sgn (fun j => a j + k * p j)) (by omega) (by omega)).mpr c98
    refine q_aload_n hK 0 dX7_foldBetween_101 rfl rfl ?_
    refine q_aload_n hK 0 dX7_foldBetween_102 rfl rfl ?_
    refine q_getf hK dX7_foldBetween_103 fX7_21 (by decide) rfl rfl ?_
    have hs2 : has6 (F2 29) (fun j => a j + (k - 1) * p j) 200 := fun j hj => by
      have := hnk j hj
      have := (hp j hj).2
      rw [y2 29 (by decide), up_same]
      exact ⟨hbt j hj, by show _ ≤ a j + (k - 1) * p j; rw [Int.sub_mul]; omega, by show a j + (k - 1) * p j ≤ _; rw [Int.sub_mul]; omega⟩
    refine q_cVi1 hK dX7_foldBetween_106 lX7_39 (by decide) (by decide) rfl (Nat.le_of_ble_eq_true rfl) (b_sign (n := 29) rfl hs2 (fun Z3 V3 F3 x1 x2 => ?_))
    have e3 : eqo [26, 28, 29, t] F F3 := e2.tr (x2.mono (by simp))
    refine q_if_ge hK 116 dX7_foldBetween_109 (by decide) (fun c109 => ?_) (fun c109 => ?_)
    · have q2 := (jI_0le (by omega) (by omega)).mp c109
      have hno : foldv a p = none := foldv_none (fun j hj => by
        have e := hu j hj
        subst e
        have := hj.2.2
        omega)
      have hh := (h Z3 V3 F3 ((z1.tr y1).tr x1) e3).2 hno
      refine q_iconst (v := nI 0) hK dX7_foldBetween_116 (by decide) ?_
      exact q_iret hR dX7_foldBetween_117 rfl ⟨_, rfl, hh⟩
    · have q2 := mt (jI_0le (b := sgn (fun j => a j + (k - 1) * p j)) (by omega) (by omega)).mpr c109
      have hg : good a p k := ⟨nearK_far.mp hnk, by omega, by omega⟩
      have hh := (h Z3 V3 F3 ((z1.tr y1).tr x1) e3).1 _ (foldv_some hps hg) (fun j hj => by rw [x2 t (by simp; exact ⟨t26, t28⟩)]; exact ft j hj)
      refine q_iconst (v := nI 1) hK dX7_foldBetween_112 (by decide) ?_
      refine q_goto hK 117 dX7_foldBetween_113 (by decide) ?_
      exact q_iret hR dX7_foldBetween_117 rfl ⟨_, rfl, hh⟩
  have loop : ∀ s i low high v9 Z' V' F', i + s = 32 → lo ≤ low → low ≤ high → high ≤ hi → high - low < 2 ^ s → (∀ j, good a p j → low ≤ j ∧ j ≤ high) → eqo [2, 3] Z Z' → eqo [26, 28, 29, t] F F' → K (BB X Z' V' P F' L g) 10 [some (rf X 24), some (rf X n), some (rf X m), some (.int (jI lo)), some (.int (jI hi)), some (rf X t), some (.int (jI low)), some (.int (jI high)), some (.int (nI i)), v9] [] := by
    intro s
    induction s with
    | zero =>
      intro i low high v9 Z' V' F' hi0 k1 k2 k3 k4 hu z1 z2
      have k4' : high - low < 1 := k4
      have : low = high := by omega
      subst this
      refine q_iload hK dX7_foldBetween_10 rfl ?_
      refine q_bipush (v := nI 32) hK dX7_foldBetween_12 (by decide) ?_
      refine q_icmp_ge hK 72 dX7_foldBetween_14 (by decide) (fun c14 => ?_) (fun c14 => ?_)
      · exact fin low _ _ _ Z' V' F' k1 k3 (fun j hj => by have := hu j hj; omega) z1 z2
      · exact absurd ((nI_leI (by decide) (by omega)).mpr (by omega)) c14
    | succ s ih =>
      intro i low high v9 Z' V' F' hi0 k1 k2 k3 k4 hu z1 z2
      refine q_iload hK dX7_foldBetween_10 rfl ?_
      refine q_bipush (v := nI 32) hK dX7_foldBetween_12 (by decide) ?_
      refine q_icmp_ge hK 72 dX7_foldBetween_14 (by decide) (fun c14 => ?_) (fun c14 => ?_)
      · have := (nI_leI (by decide) (by omega)).mp c14
        omega
      refine q_iload hK dX7_foldBetween_17 rfl ?_
      refine q_iload hK dX7_foldBetween_19 rfl ?_
      refine q_icmp_ge hK 72 dX7_foldBetween_21 (by decide) (fun c21 => ?_) (fun c21 => ?_)
      · have q := (jI_le (by omega) (by omega) (by omega) (by omega)).mp c21
        have : low = high := by omega
        subst this
        exact fin low _ _ _ Z' V' F' k1 k3 (fun j hj => by have := hu j hj; omega) z1 z2
      have q := mt (jI_le (a := high) (b := low) (by omega) (by omega) (by omega) (by omega)).mpr c21
      refine q_iload hK dX7_foldBetween_24 rfl ?_
      refine q_iload hK dX7_foldBetween_26 rfl ?_
      refine q_iadd hK dX7_foldBetween_28 ?_
      refine q_iconst (v := nI 2) hK dX7_foldBetween_29 (by decide) ?_
      rw [jI_add]
      rw [show nI 2 = jI 2 from jI_nat 2]
      refine q_cSi2 hK dX7_foldBetween_30 lX7_47 (by decide) (Nat.le_of_ble_eq_true rfl) (j_floorDiv (by omega) (by omega) (by omega) (by omega) ?_)
      have hmid : low ≤ (low + high) / 2 ∧ (low + high) / 2 < high := by omega
      have hp2 : (2 : Int) ^ (s + 1) = 2 ^ s * 2 := Int.pow_succ 2 s
      have hw1 : (low + high) / 2 - low < 2 ^ s := by omega
      have hw2 : high - ((low + high) / 2 + 1) < 2 ^ s := by omega
      generalize (low + high) / 2 = mid at *
      refine q_istore hK dX7_foldBetween_33 (by decide) ?_
      refine q_aload_n hK 1 dX7_foldBetween_35 rfl rfl ?_
      refine q_aload_n hK 2 dX7_foldBetween_36 rfl rfl ?_
      refine q_iload hK dX7_foldBetween_37 rfl ?_
      refine q_aload hK dX7_foldBetween_39 rfl ?_
      refine q_cSv4 hK dX7_foldBetween_41 lX7_33 (by decide) (Nat.le_of_ble_eq_true rfl) (b_combine (t := t) hn hm ht (fun f1 hf1 => ?_))
      have hnk := hnear mid (by omega) (by omega)
      have hs1 : has6 (va_up F' t f1 t) (fun j => a j + mid * p j) 200 := fun j hj => by
        have := hnk j hj
        rw [up_same, hf1 j hj, z2 n nS, z2 m mS, ha j hj, (hp j hj).1, jI_mul, jI_add]
        exact ⟨rfl, by show _ ≤ a j + mid * p j; omega, by show a j + mid * p j ≤ _; omega⟩
      refine q_aload_n hK 0 dX7_foldBetween_44 rfl rfl ?_
      refine q_aload hK dX7_foldBetween_45 rfl ?_
      refine q_cVi1 hK dX7_foldBetween_47 lX7_39 (by decide) (by decide) rfl (Nat.le_of_ble_eq_true rfl) (b_sign (n := t) ht hs1 (fun Z2 V2 F2 y1 y2 => ?_))
      have sr := sgn_range (fun j => a j + mid * p j)
      have e2 : eqo [26, 28, 29, t] F F2 := ((z2.up (k := t) (v := f1) (by simp)) : eqo [26, 28, 29, t] F _).tr (y2.mono (by simp))
      refine q_if_lt hK 60 dX7_foldBetween_50 (by decide) (fun c50 => ?_) (fun c50 => ?_)
      · have qs := (jI_lt0 (by omega) (by omega)).mp c50
        refine q_iload hK dX7_foldBetween_60 rfl ?_
        refine q_iconst (v := nI 1) hK dX7_foldBetween_62 (by decide) ?_
        refine q_iadd hK dX7_foldBetween_63 ?_
        refine q_istore hK dX7_foldBetween_64 (by decide) ?_
        refine q_inc1 hK dX7_foldBetween_66 rfl (by decide) ?_
        refine q_goto hK 10 dX7_foldBetween_69 (by decide) ?_
        rw [jI_nat 1, jI_add]
        refine ih (i + 1) (mid + 1) high _ Z2 V2 F2 (by omega) (by omega) (by omega) (by omega) hw2 (fun j hj => ⟨?_, (hu j hj).2⟩) (z1.tr y1) e2
        rcases Int.lt_or_le mid j with z | z
        · omega
        · exfalso
          have := sgn_mul hj.2.1 hps (mid - j).toNat
          rw [sgn_congr (b := fun k => a k + mid * p k) (fun k _ => by rw [Int.toNat_of_nonneg (by omega), Int.sub_mul]; omega)] at this
          omega
      · have qs := mt (jI_lt0 (b := sgn (fun j => a j + mid * p j)) (by omega) (by omega)).mpr c50
        refine q_iload hK dX7_foldBetween_53 rfl ?_
        refine q_istore hK dX7_foldBetween_55 (by decide) ?_
        refine q_goto hK 66 dX7_foldBetween_57 (by decide) ?_
        refine q_inc1 hK dX7_foldBetween_66 rfl (by decide) ?_
        refine q_goto hK 10 dX7_foldBetween_69 (by decide) ?_
        refine ih (i + 1) low mid _ Z2 V2 F2 (by omega) (by omega) (by omega) (by omega) hw1 (fun j hj => ⟨(hu j hj).1, ?_⟩) (z1.tr y1) e2
        exact good_le hps (by omega) hj.2.2
  exact loop 32 0 lo hi none Z V F rfl (Int.le_refl _) l2 (Int.le_refl _) (by omega) hgood eqo.rf eqo.rf
theorem b_foldInto {n m t : Nat} {a p : Vec} {Q : Int32 → Mem → Prop} (hn : bR n = true) (hm : bR m = true) (ht : bR t = true) (htn : t ≠ n) (htm : t ≠ m) (t29 : t ≠ 29) (n29 : n ≠ 29) (m29 : m ≠ 29) (ha : has6 (F n) a 900) (hp : has6 (F m) p 24) (hps : 0 < sgn p)
    (h : ∀ Z' V' F', eqo [2, 3] Z Z' → eqo [26, 28, 29, t] F F' → (∀ r, foldv a p = some r → (∀ k, k < 6 → F' t k = jI (r k)) → Q 1 (BB X Z' V' P F' L g)) ∧ (foldv a p = none → Q 0 (BB X Z' V' P F' L g))) : CallI X 4 yX7_foldInto [rf X 24, rf X n, rf X m, rf X t] (BB X Z V P F L g) Q := by
  have h0 := h Z V F eqo.rf eqo.rf
  have hb9 : ∀ k, k < 6 → -900 ≤ a k ∧ a k ≤ 900 := fun k hk => ⟨(ha k hk).2.1, (ha k hk).2.2⟩
  refine CallM_intro (own := RX7) [some (rf X 24), some (rf X n), some (rf X m), some (rf X t), none, none, none, none, none] wX7_foldInto (by decide) (by decide) rfl (Nat.le_of_ble_eq_true rfl) rfl (fun K hK hR => ?_)
  refine q_sipush (v := jI (-1000)) hK dX7_foldInto_0 (by decide) ?_
  refine q_istore hK dX7_foldInto_3 (by decide) ?_
  refine q_sipush (v := nI 1000) hK dX7_foldInto_5 (by decide) ?_
  refine q_istore hK dX7_foldInto_8 (by decide) ?_
  refine q_iconst (v := nI 0) hK dX7_foldInto_10 (by decide) ?_
  refine q_istore hK dX7_foldInto_11 (by decide) ?_
  have loop : ∀ s i lo hi v7 v8, i + s = 6 → -1000 ≤ lo → lo ≤ 1000 → -1000 ≤ hi → hi ≤ 1000 → (∀ k, (lo ≤ k ∧ k ≤ hi) ↔ (-1000 ≤ k ∧ k ≤ 1000 ∧ nearK a p k i)) → K (BB X Z V P F L g) 13 [some (rf X 24), some (rf X n), some (rf X m), some (rf X t), some (.int (jI lo)), some (.int (jI hi)), some (.int (nI i)), v7, v8] [] := by
    intro s
    induction s with
    | zero =>
      intro i lo hi v7 v8 hi0 l1 l2 l3 l4 hk
      have : i = 6 := by omega
      subst this
      have hgood : ∀ k, good a p k → lo ≤ k ∧ k ≤ hi := fun k hg => by
        have hn := nearK_far.mpr hg.1
        have := near_bd hb9 hps hn
        exact (hk k).mpr ⟨this.1, this.2, hn⟩
      have no : foldv a p = none → K (BB X Z V P F L g) 167 [some (rf X 24), some (rf X n), some (rf X m), some (rf X t), some (.int (jI lo)), some (.int (jI hi)), some (.int (nI 6)), v7, v8] [] := by
        intro hno
        have hh := h0.2 hno
        refine q_iconst (v := nI 0) hK dX7_foldInto_167 (by decide) ?_
        exact q_iret hR dX7_foldInto_168 rfl ⟨_, rfl, hh⟩
      refine q_iload hK dX7_foldInto_13 rfl ?_
      refine q_bipush (v := nI 6) hK dX7_foldInto_15 (by decide) ?_
      refine q_icmp_ge hK 142 dX7_foldInto_17 (by decide) (fun c17 => ?_) (fun c17 => ?_)
      rotate_left
      · exact absurd ((nI_leI (by decide) (by decide)).mpr (by decide)) c17
      refine q_iload hK dX7_foldInto_142 rfl ?_
      refine q_iload hK dX7_foldInto_144 rfl ?_
      refine q_icmp_gt hK 167 dX7_foldInto_146 (by decide) (fun c146 => ?_) (fun c146 => ?_)
      · have q := (jI_lt (by omega) (by omega) (by omega) (by omega)).mp c146
        exact no (foldv_none (fun k hg => by have := hgood k hg; omega))
      have q := mt (jI_lt (a := hi) (b := lo) (by omega) (by omega) (by omega) (by omega)).mpr c146
      refine q_aload_n hK 0 dX7_foldInto_149 rfl rfl ?_
      refine q_aload_n hK 1 dX7_foldInto_150 rfl rfl ?_
      refine q_aload_n hK 2 dX7_foldInto_151 rfl rfl ?_
      refine q_iload hK dX7_foldInto_152 rfl ?_
      refine q_iload hK dX7_foldInto_154 rfl ?_
      refine q_aload_n hK 3 dX7_foldInto_156 rfl rfl ?_
      refine q_cVi5 hK dX7_foldInto_157 lX7_59 (by decide) (by decide) rfl (Nat.le_of_ble_eq_true rfl) (b_foldBetween hn hm ht htn htm t29 n29 m29 (fun k hk => (ha k hk).1) (fun k hk => hp k hk) hps l1 (by omega) l4 (fun k k1 k2 => ((hk k).mp ⟨k1, k2⟩).2.2) hgood (fun Z' V' F' y1 y2 => ⟨fun r hr hr2 => ?_, fun hr => ?_⟩))
      · have hh := (h Z' V' F' y1 y2).1 r hr hr2
        refine q_if_eq hK 167 dX7_foldInto_160 (by decide) (fun c160 => ?_) (fun c160 => ?_)
        · exact absurd c160 (by decide)
        refine q_iconst (v := nI 1) hK dX7_foldInto_163 (by decide) ?_
        refine q_goto hK 168 dX7_foldInto_164 (by decide) ?_
        exact q_iret hR dX7_foldInto_168 rfl ⟨_, rfl, hh⟩
      · have hh := (h Z' V' F' y1 y2).2 hr
        refine q_if_eq hK 167 dX7_foldInto_160 (by decide) (fun c160 => ?_) (fun c160 => ?_)
        rotate_left
        · exact absurd rfl c160
        refine q_iconst (v := nI 0) hK dX7_foldInto_167 (by decide) ?_
        exact q_iret hR dX7_foldInto_168 rfl ⟨_, rfl, hh⟩
    | succ s ih =>
      intro i lo hi v7 v8 hi0 l1 l2 l3 l4 hk
      obtain ⟨a1, a2, a3⟩ := ha i (by omega)
      obtain ⟨p1, p2, p3⟩ := hp i (by omega)
      have nxt : ∀ lo' hi' w7 w8, -1000 ≤ lo' → lo' ≤ 1000 → -1000 ≤ hi' → hi' ≤ 1000 → (∀ k, (lo' ≤ k ∧ k ≤ hi') ↔ (lo ≤ k ∧ k ≤ hi ∧ -24 ≤ a i + k * p i ∧ a i + k * p i ≤ 24)) → K (BB X Z V P F L g) 136 [some (rf X 24), some (rf X n), some (rf X m), some (rf X t), some (.int (jI lo')), some (.int (jI hi')), some (.int (nI i)), w7, w8] [] := by
        intro lo' hi' w7 w8 b1 b2 b3 b4 hb
        refine q_inc1 hK dX7_foldInto_136 rfl (by decide) ?_
        refine q_goto hK 13 dX7_foldInto_139 (by decide) ?_
        refine ih (i + 1) lo' hi' _ _ (by omega) b1 b2 b3 b4 (fun k => ?_)
        rw [hb k, nearK_succ, ← and_assoc, hk k]
        constructor
        · rintro ⟨⟨x1, x2, x3⟩, x4⟩
          exact ⟨x1, x2, x3, x4⟩
        · rintro ⟨x1, x2, x3, x4⟩
          exact ⟨⟨x1, x2, x3⟩, x4⟩
      refine q_iload hK dX7_foldInto_13 rfl ?_
      refine q_bipush (v := nI 6) hK dX7_foldInto_15 (by decide) ?_
      refine q_icmp_ge hK 142 dX7_foldInto_17 (by decide) (fun c17 => ?_) (fun c17 => ?_)
      · have := (nI_leI (by decide) (by omega)).mp c17
        omega
      refine q_aload_n hK 1 dX7_foldInto_20 rfl rfl ?_
      refine q_iload hK dX7_foldInto_21 rfl ?_
      refine qb_ialdR hK dX7_foldInto_23 hn rfl (by omega) ?_
      rw [a1]
      refine q_istore hK dX7_foldInto_24 (by decide) ?_
      refine q_aload_n hK 2 dX7_foldInto_26 rfl rfl ?_
      refine q_iload hK dX7_foldInto_27 rfl ?_
      refine qb_ialdR hK dX7_foldInto_29 hm rfl (by omega) ?_
      rw [p1]
      refine q_istore hK dX7_foldInto_30 (by decide) ?_
      refine q_iload hK dX7_foldInto_32 rfl ?_
      refine q_if_le hK 75 dX7_foldInto_34 (by decide) (fun c34 => ?_) (fun c34 => ?_)
      · have q := (jI_le0 (by omega) (by omega)).mp c34
        refine q_iload hK dX7_foldInto_75 rfl ?_
        refine q_if_ge hK 120 dX7_foldInto_77 (by decide) (fun c77 => ?_) (fun c77 => ?_)
        · have q2 := (jI_0le (by omega) (by omega)).mp c77
          have hp0 : p i = 0 := by omega
          have bad : ¬ (-24 ≤ a i ∧ a i ≤ 24) → K (BB X Z V P F L g) 134 [some (rf X 24), some (rf X n), some (rf X m), some (rf X t), some (.int (jI lo)), some (.int (jI hi)), some (.int (nI i)), some (.int (jI (a i))), some (.int (jI (p i)))] [] := by
            intro hb
            have hno : foldv a p = none := foldv_none (fun k hg => by
              have := nearK_far.mpr hg.1 i (by omega)
              rw [hp0, Int.mul_zero] at this
              omega)
            have hh := h0.2 hno
            refine q_iconst (v := nI 0) hK dX7_foldInto_134 (by decide) ?_
            exact q_iret hR dX7_foldInto_135 rfl ⟨_, rfl, hh⟩
          refine q_iload hK dX7_foldInto_120 rfl ?_
          refine q_bipush (v := jI (-24)) hK dX7_foldInto_122 (by decide) ?_
          refine q_icmp_lt hK 134 dX7_foldInto_124 (by decide) (fun c124 => ?_) (fun c124 => ?_)
          · have := (jI_lt (by omega) (by omega) (by omega) (by omega)).mp c124
            exact bad (by omega)
          have q3 := mt (jI_lt (a := a i) (b := -24) (by omega) (by omega) (by omega) (by omega)).mpr c124
          refine q_iload hK dX7_foldInto_127 rfl ?_
          refine q_bipush (v := nI 24) hK dX7_foldInto_129 (by decide) ?_
          rw [jI_nat 24]
          refine q_icmp_le hK 136 dX7_foldInto_131 (by decide) (fun c131 => ?_) (fun c131 => ?_)
          rotate_left
          · have := mt (jI_le (a := a i) (b := ((24 : Nat) : Int)) (by omega) (by omega) (by omega) (by omega)).mpr c131
            exact bad (by omega)
          have q4 := (jI_le (by omega) (by omega) (by omega) (by omega)).mp c131
          refine nxt lo hi _ _ l1 l2 l3 l4 (fun k => ?_)
          rw [hp0, Int.mul_zero]
          omega
        · have q2 := mt (jI_0le (b := p i) (by omega) (by omega)).mpr c77
          have f1 := fd_bd (x := 24 - a i) (b := -p i) (B := 1000) (by omega) (by omega) (by omega)
          have f2 := fd_bd (x := a i + 24) (b := -p i) (B := 1000) (by omega) (by omega) (by omega)
          have g1 := fun k => fd_lo (x := 24 - a i) (b := -p i) (k := k) (by omega)
          have g2 := fun k => fd_hi (x := a i + 24) (b := -p i) (k := k) (by omega)
          refine q_iload hK dX7_foldInto_80 rfl ?_
          refine q_bipush (v := nI 24) hK dX7_foldInto_82 (by decide) ?_
          refine q_iload hK dX7_foldInto_84 rfl ?_
          refine q_isub hK dX7_foldInto_86 ?_
          refine q_iload hK dX7_foldInto_87 rfl ?_
          refine q_ineg hK dX7_foldInto_89 ?_
          rw [show nI 24 = jI 24 from rfl, jI_sub, jI_neg]
          refine q_cSi2 hK dX7_foldInto_90 lX7_47 (by decide) (Nat.le_of_ble_eq_true rfl) (j_floorDiv (by omega) (by omega) (by omega) (by omega) ?_)
          refine q_ineg hK dX7_foldInto_93 ?_
          rw [jI_neg]
          refine q_cSi2 hK dX7_foldInto_94 lX7_53 (by decide) (Nat.le_of_ble_eq_true rfl) (j_max (by omega) (by omega) (by omega) (by omega) ?_)
          refine q_istore hK dX7_foldInto_97 (by decide) ?_
          refine q_iload hK dX7_foldInto_99 rfl ?_
          refine q_iload hK dX7_foldInto_101 rfl ?_
          refine q_bipush (v := nI 24) hK dX7_foldInto_103 (by decide) ?_
          refine q_iadd hK dX7_foldInto_105 ?_
          refine q_iload hK dX7_foldInto_106 rfl ?_
          refine q_ineg hK dX7_foldInto_108 ?_
          rw [show nI 24 = jI 24 from rfl, jI_add, jI_neg]
          refine q_cSi2 hK dX7_foldInto_109 lX7_47 (by decide) (Nat.le_of_ble_eq_true rfl) (j_floorDiv (by omega) (by omega) (by omega) (by omega) ?_)
          refine q_cSi2 hK dX7_foldInto_112 lX7_56 (by decide) (Nat.le_of_ble_eq_true rfl) (j_min (by omega) (by omega) (by omega) (by omega) ?_)
          refine q_istore hK dX7_foldInto_115 (by decide) ?_
          refine q_goto hK 136 dX7_foldInto_117 (by decide) ?_
          refine nxt _ _ _ _ (by omega) (by omega) (by omega) (by omega) (fun k => ?_)
          have g1 := g1 k
          have g2 := g2 k
          rw [Int.mul_neg] at g1 g2
          show (max lo (-((24 - a i) / -p i)) ≤ k ∧ k ≤ min hi ((a i + 24) / -p i)) ↔ _
          generalize (24 - a i) / -p i = u1 at *
          generalize (a i + 24) / -p i = u2 at *
          generalize k * p i = u3 at *
          omega
      · have q := mt (jI_le0 (b := p i) (by omega) (by omega)).mpr c34
        have f1 := fd_bd (x := 24 - a i) (b := p i) (B := 1000) (by omega) (by omega) (by omega)
        have f2 := fd_bd (x := a i + 24) (b := p i) (B := 1000) (by omega) (by omega) (by omega)
        have g1 := fun k => fd_hi (x := 24 - a i) (b := p i) (k := k) (by omega)
        have g2 := fun k => fd_lo (x := a i + 24) (b := p i) (k := k) (by omega)
        refine q_iload hK dX7_foldInto_37 rfl ?_
        refine q_iload hK dX7_foldInto_39 rfl ?_
        refine q_bipush (v := nI 24) hK dX7_foldInto_41 (by decide) ?_
        refine q_iadd hK dX7_foldInto_43 ?_
        refine q_iload hK dX7_foldInto_44 rfl ?_
        rw [show nI 24 = jI 24 from rfl, jI_add]
        refine q_cSi2 hK dX7_foldInto_46 lX7_47 (by decide) (Nat.le_of_ble_eq_true rfl) (j_floorDiv (by omega) (by omega) (by omega) (by omega) ?_)
        refine q_ineg hK dX7_foldInto_49 ?_
        rw [jI_neg]
        refine q_cSi2 hK dX7_foldInto_50 lX7_53 (by decide) (Nat.le_of_ble_eq_true rfl) (j_max (by omega) (by omega) (by omega) (by omega) ?_)
        refine q_istore hK dX7_foldInto_53 (by decide) ?_
        refine q_iload hK dX7_foldInto_55 rfl ?_
        refine q_bipush (v := nI 24) hK dX7_foldInto_57 (by decide) ?_
        refine q_iload hK dX7_foldInto_59 rfl ?_
        refine q_isub hK dX7_foldInto_61 ?_
        refine q_iload hK dX7_foldInto_62 rfl ?_
        rw [show nI 24 = jI 24 from rfl, jI_sub]
        refine q_cSi2 hK dX7_foldInto_64 lX7_47 (by decide) (Nat.le_of_ble_eq_true rfl) (j_floorDiv (by omega) (by omega) (by omega) (by omega) ?_)
        refine q_cSi2 hK dX7_foldInto_67 lX7_56 (by decide) (Nat.le_of_ble_eq_true rfl) (j_min (by omega) (by omega) (by omega) (by omega) ?_)
        refine q_istore hK dX7_foldInto_70 (by decide) ?_
        refine q_goto hK 136 dX7_foldInto_72 (by decide) ?_
        refine nxt _ _ _ _ (by omega) (by omega) (by omega) (by omega) (fun k => ?_)
        have g1 := g1 k
        have g2 := g2 k
        show (max lo (-((a i + 24) / p i)) ≤ k ∧ k ≤ min hi ((24 - a i) / p i)) ↔ _
        generalize (24 - a i) / p i = u1 at *
        generalize (a i + 24) / p i = u2 at *
        generalize k * p i = u3 at *
        omega
  exact loop 6 0 (-1000) 1000 none none rfl (by decide) (by decide) (by decide) (by decide) (fun k => ⟨fun ⟨x, y⟩ => ⟨x, y, fun j hj => absurd hj (Nat.not_lt_zero j)⟩, fun ⟨x, y, _⟩ => ⟨x, y⟩⟩)
end B7
