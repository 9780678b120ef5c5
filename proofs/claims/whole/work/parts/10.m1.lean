theorem up_same {α : Type} (f : Nat → α) (k : Nat) (v : α) : va_up f k v k = v := by simp [va_up]
theorem up_ne {α : Type} {f : Nat → α} {k j : Nat} {v : α} (h : j ≠ k) : va_up f k v j = f j := by simp [va_up, h]
theorem up_up {α : Type} (f : Nat → α) (k : Nat) (v w : α) : va_up (va_up f k v) k w = va_up f k w := by
  funext j
  by_cases h : j = k <;> simp [va_up, h]
theorem up_id {α : Type} (f : Nat → α) (k : Nat) : va_up f k (f k) = f := by
  funext j
  by_cases h : j = k <;> simp [va_up, h]
theorem up_comm {α : Type} (f : Nat → α) {k j : Nat} (h : k ≠ j) (v w : α) : va_up (va_up f k v) j w = va_up (va_up f j w) k v := by
  funext i
  by_cases h1 : i = j
  · subst h1
    simp [va_up, Ne.symm h]
  · by_cases h2 : i = k
    · subst h2
      simp [va_up, h1]
    · simp [va_up, h1, h2]
theorem upd_same (f : Nat → Int32) (k : Nat) (v : Int32) : upd f k v k = v := by simp [upd]
theorem upd_ne {f : Nat → Int32} {k j : Nat} {v : Int32} (h : j ≠ k) : upd f k v j = f j := by simp [upd, h]
/-- some of the first n is far from 0 -/
def farN (t : Nat) (f : Nat → Int32) : Nat → Bool
  | 0 => false
  | i + 1 => farN t f i || decide (f i < jI (-(t : Int))) || decide (nI t < f i)
section M1
variable {X : Cx} {Z : Nat → Int32} {F : Nat → Nat → Int32} {L : Nat → Int64} {g : Mem}
set_option maxRecDepth 10000 in
theorem m_refuse {w : Int32} {Q : Int32 → Mem → Prop} (h : Q (b2i (decide (w = 0))) (MM X (va_up Z 0 w) F L g)) : CallI X 0 yX9_refuse [rf X 0, .int w] (MM X Z F L g) Q := by
  refine CallM_intro (own := RX9) [some (rf X 0), some (.int w)] wX9_refuse (by decide) (by decide) rfl (Nat.le_of_ble_eq_true rfl) rfl (fun K hK hR => ?_)
  refine q_aload_n hK 0 dX9_refuse_0 rfl rfl ?_
  refine q_iload_n hK 1 dX9_refuse_1 rfl rfl ?_
  refine qm_put0 hK dX9_refuse_2 pX9_66 ?_
  refine q_iload_n hK 1 dX9_refuse_5 rfl rfl ?_
  refine q_if_ne hK 13 dX9_refuse_6 (by decide) (fun c6 => ?_) (fun c6 => ?_)
  · refine q_iconst (v := nI 0) hK dX9_refuse_13 (by decide) ?_
    rw [show b2i (decide (w = 0)) = nI 0 by simp [b2i, c6, nI_0]] at h
    exact q_iret hR dX9_refuse_14 rfl ⟨_, rfl, h⟩
  · refine q_iconst (v := nI 1) hK dX9_refuse_9 (by decide) ?_
    refine q_goto hK 14 dX9_refuse_10 (by decide) ?_
    rw [show b2i (decide (w = 0)) = nI 1 by simp [b2i, c6]; rfl] at h
    exact q_iret hR dX9_refuse_14 rfl ⟨_, rfl, h⟩
theorem m_none {w : Int32} {Q : Int32 → Mem → Prop} (h : Q (-1) (MM X (va_up Z 0 w) F L g)) : CallI X 0 yX9_none [rf X 0, .int w] (MM X Z F L g) Q := by
  refine CallM_intro (own := RX9) [some (rf X 0), some (.int w)] wX9_none (by decide) (by decide) rfl (Nat.le_of_ble_eq_true rfl) rfl (fun K hK hR => ?_)
  refine q_aload_n hK 0 dX9_none_0 rfl rfl ?_
  refine q_iload_n hK 1 dX9_none_1 rfl rfl ?_
  refine qm_put0 hK dX9_none_2 pX9_66 ?_
  refine q_iconst (v := jI (-1)) hK dX9_none_5 (by decide) ?_
  exact q_iret hR dX9_none_6 rfl ⟨_, rfl, h⟩
def prN (k : Nat) : Nat := match k with
  | 0 => 2
  | 1 => 3
  | 2 => 5
  | 3 => 7
  | 4 => 11
  | _ => 13
theorem m_prime {k : Nat} {g : Mem} {Q : Int32 → Mem → Prop} (hk : k < 6) (h : Q (nI (prN k)) g) : CallI X 0 yX9_prime [.int (nI k)] g Q := by
  refine CallM_intro (own := RX9) [some (.int (nI k))] wX9_prime (by decide) (by decide) rfl (Nat.le_of_ble_eq_true rfl) rfl (fun K hK hR => ?_)
  refine q_iload_n hK 0 dX9_prime_0 rfl rfl ?_
  refine q_if_ne hK 8 dX9_prime_1 (by decide) (fun c1 => ?_) (fun c1 => ?_)
  · refine q_iload_n hK 0 dX9_prime_8 rfl rfl ?_
    refine q_iconst (v := nI 1) hK dX9_prime_9 (by decide) ?_
    refine q_icmp_ne hK 17 dX9_prime_10 (by decide) (fun c10 => ?_) (fun c10 => ?_)
    · refine q_iload_n hK 0 dX9_prime_17 rfl rfl ?_
      refine q_iconst (v := nI 2) hK dX9_prime_18 (by decide) ?_
      refine q_icmp_ne hK 26 dX9_prime_19 (by decide) (fun c19 => ?_) (fun c19 => ?_)
      · refine q_iload_n hK 0 dX9_prime_26 rfl rfl ?_
        refine q_iconst (v := nI 3) hK dX9_prime_27 (by decide) ?_
        refine q_icmp_ne hK 36 dX9_prime_28 (by decide) (fun c28 => ?_) (fun c28 => ?_)
        · refine q_iload_n hK 0 dX9_prime_36 rfl rfl ?_
          refine q_iconst (v := nI 4) hK dX9_prime_37 (by decide) ?_
          refine q_icmp_ne hK 46 dX9_prime_38 (by decide) (fun c38 => ?_) (fun c38 => ?_)
          · have : k = 5 := by
              have a0 : k ≠ 0 := fun q => c1 (by rw [q]; rfl)
              have a1 : k ≠ 1 := fun q => c10 (by rw [q])
              have a2 : k ≠ 2 := fun q => c19 (by rw [q])
              have a3 : k ≠ 3 := fun q => c28 (by rw [q])
              have a4 : k ≠ 4 := fun q => c38 (by rw [q])
              omega
            subst this
            refine q_bipush (v := nI 13) hK dX9_prime_46 (by decide) ?_
            exact q_iret hR dX9_prime_48 rfl ⟨_, rfl, h⟩
          · have : k = 4 := (nI_eq (by omega) (by decide)).mp c38
            subst this
            refine q_bipush (v := nI 11) hK dX9_prime_41 (by decide) ?_
            refine q_goto hK 48 dX9_prime_43 (by decide) ?_
            exact q_iret hR dX9_prime_48 rfl ⟨_, rfl, h⟩
        · have : k = 3 := (nI_eq (by omega) (by decide)).mp c28
          subst this
          refine q_bipush (v := nI 7) hK dX9_prime_31 (by decide) ?_
          refine q_goto hK 48 dX9_prime_33 (by decide) ?_
          exact q_iret hR dX9_prime_48 rfl ⟨_, rfl, h⟩
      · have : k = 2 := (nI_eq (by omega) (by decide)).mp c19
        subst this
        refine q_iconst (v := nI 5) hK dX9_prime_22 (by decide) ?_
        refine q_goto hK 48 dX9_prime_23 (by decide) ?_
        exact q_iret hR dX9_prime_48 rfl ⟨_, rfl, h⟩
    · have : k = 1 := (nI_eq (by omega) (by decide)).mp c10
      subst this
      refine q_iconst (v := nI 3) hK dX9_prime_13 (by decide) ?_
      refine q_goto hK 48 dX9_prime_14 (by decide) ?_
      exact q_iret hR dX9_prime_48 rfl ⟨_, rfl, h⟩
  · have : k = 0 := (nI_eq (b := 0) (by omega) (by decide)).mp (c1.trans nI_0.symm)
    subst this
    refine q_iconst (v := nI 2) hK dX9_prime_4 (by decide) ?_
    refine q_goto hK 48 dX9_prime_5 (by decide) ?_
    exact q_iret hR dX9_prime_48 rfl ⟨_, rfl, h⟩
/-- a number from 0 on, below n -/
def isIn (x : Int32) (n : Nat) : Bool := decide (0 ≤ x.toInt) && decide (x.toInt < n)
theorem isIn_iff {x : Int32} {n : Nat} (hn : n < 2 ^ 31) : isIn x n = true ↔ ∃ k, k < n ∧ x = nI k := by
  constructor
  · intro h
    simp only [isIn, Bool.and_eq_true, decide_eq_true_eq] at h
    exact vp_in_of (vp_in_iff.mpr h) hn
  · rintro ⟨k, h1, rfl⟩
    have := nI_toInt (show k < 2 ^ 31 by omega)
    simp only [isIn, Bool.and_eq_true, decide_eq_true_eq]
    omega
theorem lt0_iff {x : Int32} : x < 0 ↔ x.toInt < 0 := by rw [Int32.lt_iff_toInt_lt]; rfl
theorem nle_iff {x : Int32} {n : Nat} (hn : n < 2 ^ 31) : nI n ≤ x ↔ (n : Int) ≤ x.toInt := by rw [Int32.le_iff_toInt_le, nI_toInt hn]
theorem m_isShelf {x : Int32} {g : Mem} {Q : Int32 → Mem → Prop} (h : Q (b2i (isIn x 16)) g) : CallI X 0 yX9_isShelf [.int x] g Q := by
  refine CallM_intro (own := RX9) [some (.int x)] wX9_isShelf (by decide) (by decide) rfl (Nat.le_of_ble_eq_true rfl) rfl (fun K hK hR => ?_)
  refine q_iload_n hK 0 dX9_isShelf_0 rfl rfl ?_
  refine q_if_lt hK 14 dX9_isShelf_1 (by decide) (fun c1 => ?_) (fun c1 => ?_)
  · refine q_iconst (v := nI 0) hK dX9_isShelf_14 (by decide) ?_
    have e : isIn x 16 = false := by have := lt0_iff.mp c1; simp [isIn]; omega
    rw [e] at h
    exact q_iret hR dX9_isShelf_15 rfl ⟨_, rfl, h⟩
  · refine q_iload_n hK 0 dX9_isShelf_4 rfl rfl ?_
    refine q_bipush (v := nI 16) hK dX9_isShelf_5 (by decide) ?_
    have d1 := mt lt0_iff.mpr c1
    refine q_icmp_ge hK 14 dX9_isShelf_7 (by decide) (fun c7 => ?_) (fun c7 => ?_)
    · refine q_iconst (v := nI 0) hK dX9_isShelf_14 (by decide) ?_
      have e : isIn x 16 = false := by have := (nle_iff (by decide)).mp c7; simp [isIn]; omega
      rw [e] at h
      exact q_iret hR dX9_isShelf_15 rfl ⟨_, rfl, h⟩
    · refine q_iconst (v := nI 1) hK dX9_isShelf_10 (by decide) ?_
      refine q_goto hK 15 dX9_isShelf_11 (by decide) ?_
      have e : isIn x 16 = true := by have := mt (nle_iff (n := 16) (by decide)).mpr c7; simp [isIn]; omega
      rw [e] at h
      exact q_iret hR dX9_isShelf_15 rfl ⟨_, rfl, h⟩
theorem m_hold {n a : Nat} {Q : Mem → Prop} (hn : mI n = true) (h5 : n ≠ 5) (ha : a + 6 ≤ mlen n) (h : ∀ f, (∀ k, k < 6 → f k = F n (a + k)) → Q (MM X Z (va_up F 5 f) L g)) : CallV X 0 yX9_hold [rf X 0, rf X n, .int (nI a)] (MM X Z F L g) Q := by
  refine CallM_intro (own := RX9) [some (rf X 0), some (rf X n), some (.int (nI a)), none] wX9_hold (by decide) (by decide) rfl (Nat.le_of_ble_eq_true rfl) rfl (fun K hK hR => ?_)
  refine q_iconst (v := nI 0) hK dX9_hold_0 (by decide) ?_
  refine q_istore_n hK 3 dX9_hold_1 rfl (by decide) ?_
  have loop : ∀ m i f, i + m = 6 → (∀ k, k < i → f k = F n (a + k)) → K (MM X Z (va_up F 5 f) L g) 2 [some (rf X 0), some (rf X n), some (.int (nI a)), some (.int (nI i))] [] := by
    intro m
    induction m with
    | zero =>
      intro i f hi hf
      refine q_iload_n hK 3 dX9_hold_2 rfl rfl ?_
      refine q_bipush (v := nI 6) hK dX9_hold_3 (by decide) ?_
      refine q_icmp_ge hK 25 dX9_hold_5 (by decide) (fun c5 => ?_) (fun c5 => ?_)
      · exact q_vret hR dX9_hold_25 ⟨rfl, h f (fun k hk => hf k (by omega))⟩
      · exact absurd ((nI_leI (by decide) (by omega)).mpr (by omega)) c5
    | succ m ih =>
      intro i f hi hf
      refine q_iload_n hK 3 dX9_hold_2 rfl rfl ?_
      refine q_bipush (v := nI 6) hK dX9_hold_3 (by decide) ?_
      refine q_icmp_ge hK 25 dX9_hold_5 (by decide) (fun c5 => ?_) (fun c5 => ?_)
      · have := (nI_leI (by decide) (by omega)).mp c5
        omega
      · refine q_aload_n hK 0 dX9_hold_8 rfl rfl ?_
        refine q_getf hK dX9_hold_9 fX9_23 (by decide) rfl rfl ?_
        refine q_iload_n hK 3 dX9_hold_12 rfl rfl ?_
        refine q_aload_n hK 1 dX9_hold_13 rfl rfl ?_
        refine q_iload_n hK 2 dX9_hold_14 rfl rfl ?_
        refine q_iload_n hK 3 dX9_hold_15 rfl rfl ?_
        refine q_iadd hK dX9_hold_16 ?_
        refine qm_iald hK dX9_hold_17 hn (nI_add a i) (by omega) ?_
        refine qm_iast hK dX9_hold_18 (n := 5) (k := i) rfl rfl (by show i < 6; omega) ?_
        refine q_inc1 hK dX9_hold_19 rfl (by decide) ?_
        refine q_goto hK 2 dX9_hold_22 (by decide) ?_
        rw [up_up, up_same, up_ne h5]
        refine ih (i + 1) (upd f i (F n (a + i))) (by omega) (fun k hk => ?_)
        by_cases e : k = i
        · rw [e, upd_same]
        · rw [upd_ne e]
          exact hf k (by omega)
  have := loop 6 0 (F 5) rfl (fun k hk => by omega)
  rw [up_id] at this
  exact this
theorem m_give {n a : Nat} {Q : Mem → Prop} (hn : mI n = true) (h5 : n ≠ 5) (ha : a + 6 ≤ mlen n) (h : ∀ f, (∀ k, k < 6 → f (a + k) = F 5 k) → (∀ k, k < a ∨ a + 6 ≤ k → f k = F n k) → Q (MM X Z (va_up F n f) L g)) : CallV X 0 yX9_give [rf X 0, rf X n, .int (nI a)] (MM X Z F L g) Q := by
  refine CallM_intro (own := RX9) [some (rf X 0), some (rf X n), some (.int (nI a)), none] wX9_give (by decide) (by decide) rfl (Nat.le_of_ble_eq_true rfl) rfl (fun K hK hR => ?_)
  refine q_iconst (v := nI 0) hK dX9_give_0 (by decide) ?_
  refine q_istore_n hK 3 dX9_give_1 rfl (by decide) ?_
  have loop : ∀ m i f, i + m = 6 → (∀ k, k < i → f (a + k) = F 5 k) → (∀ k, k < a ∨ a + i ≤ k → f k = F n k) → K (MM X Z (va_up F n f) L g) 2 [some (rf X 0), some (rf X n), some (.int (nI a)), some (.int (nI i))] [] := by
    intro m
    induction m with
    | zero =>
      intro i f hi hf hg
      refine q_iload_n hK 3 dX9_give_2 rfl rfl ?_
      refine q_bipush (v := nI 6) hK dX9_give_3 (by decide) ?_
      refine q_icmp_ge hK 25 dX9_give_5 (by decide) (fun c5 => ?_) (fun c5 => ?_)
      · exact q_vret hR dX9_give_25 ⟨rfl, h f (fun k hk => hf k (by omega)) (fun k hk => hg k (by omega))⟩
      · exact absurd ((nI_leI (by decide) (by omega)).mpr (by omega)) c5
    | succ m ih =>
      intro i f hi hf hg
      refine q_iload_n hK 3 dX9_give_2 rfl rfl ?_
      refine q_bipush (v := nI 6) hK dX9_give_3 (by decide) ?_
      refine q_icmp_ge hK 25 dX9_give_5 (by decide) (fun c5 => ?_) (fun c5 => ?_)
      · have := (nI_leI (by decide) (by omega)).mp c5
        omega
      · refine q_aload_n hK 1 dX9_give_8 rfl rfl ?_
        refine q_iload_n hK 2 dX9_give_9 rfl rfl ?_
        refine q_iload_n hK 3 dX9_give_10 rfl rfl ?_
        refine q_iadd hK dX9_give_11 ?_
        refine q_aload_n hK 0 dX9_give_12 rfl rfl ?_
        refine q_getf hK dX9_give_13 fX9_23 (by decide) rfl rfl ?_
        refine q_iload_n hK 3 dX9_give_16 rfl rfl ?_
        refine qm_iald hK dX9_give_17 (n := 5) (k := i) rfl rfl (by show i < 6; omega) ?_
        refine qm_iast hK dX9_give_18 hn (nI_add a i) (by omega) ?_
        refine q_inc1 hK dX9_give_19 rfl (by decide) ?_
        refine q_goto hK 2 dX9_give_22 (by decide) ?_
        rw [up_up, up_same, up_ne (Ne.symm h5)]
        refine ih (i + 1) (upd f (a + i) (F 5 i)) (by omega) (fun k hk => ?_) (fun k hk => ?_)
        · by_cases e : k = i
          · rw [e, upd_same]
          · rw [upd_ne (by omega)]
            exact hf k (by omega)
        · rw [upd_ne (by omega)]
          exact hg k (by omega)
  have := loop 6 0 (F n) rfl (fun k hk => by omega) (fun k hk => rfl)
  rw [up_id] at this
  exact this
theorem m_less {n a : Nat} {Q : Mem → Prop} (hn : mI n = true) (h5 : n ≠ 5) (ha : a + 6 ≤ mlen n) (h : ∀ f, (∀ k, k < 6 → f k = F 5 k - F n (a + k)) → Q (MM X Z (va_up F 5 f) L g)) : CallV X 0 yX9_less [rf X 0, rf X n, .int (nI a)] (MM X Z F L g) Q := by
  refine CallM_intro (own := RX9) [some (rf X 0), some (rf X n), some (.int (nI a)), none] wX9_less (by decide) (by decide) rfl (Nat.le_of_ble_eq_true rfl) rfl (fun K hK hR => ?_)
  refine q_iconst (v := nI 0) hK dX9_less_0 (by decide) ?_
  refine q_istore_n hK 3 dX9_less_1 rfl (by decide) ?_
  have loop : ∀ m i f, i + m = 6 → (∀ k, k < i → f k = F 5 k - F n (a + k)) → (∀ k, i ≤ k → f k = F 5 k) → K (MM X Z (va_up F 5 f) L g) 2 [some (rf X 0), some (rf X n), some (.int (nI a)), some (.int (nI i))] [] := by
    intro m
    induction m with
    | zero =>
      intro i f hi hf hg
      refine q_iload_n hK 3 dX9_less_2 rfl rfl ?_
      refine q_bipush (v := nI 6) hK dX9_less_3 (by decide) ?_
      refine q_icmp_ge hK 28 dX9_less_5 (by decide) (fun c5 => ?_) (fun c5 => ?_)
      · exact q_vret hR dX9_less_28 ⟨rfl, h f (fun k hk => hf k (by omega))⟩
      · exact absurd ((nI_leI (by decide) (by omega)).mpr (by omega)) c5
    | succ m ih =>
      intro i f hi hf hg
      refine q_iload_n hK 3 dX9_less_2 rfl rfl ?_
      refine q_bipush (v := nI 6) hK dX9_less_3 (by decide) ?_
      refine q_icmp_ge hK 28 dX9_less_5 (by decide) (fun c5 => ?_) (fun c5 => ?_)
      · have := (nI_leI (by decide) (by omega)).mp c5
        omega
      · refine q_aload_n hK 0 dX9_less_8 rfl rfl ?_
        refine q_getf hK dX9_less_9 fX9_23 (by decide) rfl rfl ?_
        refine q_iload_n hK 3 dX9_less_12 rfl rfl ?_
        refine q_dup2 hK dX9_less_13 rfl rfl ?_
        refine qm_iald hK dX9_less_14 (n := 5) (k := i) rfl rfl (by show i < 6; omega) ?_
        refine q_aload_n hK 1 dX9_less_15 rfl rfl ?_
        refine q_iload_n hK 2 dX9_less_16 rfl rfl ?_
        refine q_iload_n hK 3 dX9_less_17 rfl rfl ?_
        refine q_iadd hK dX9_less_18 ?_
        refine qm_iald hK dX9_less_19 hn (nI_add a i) (by omega) ?_
        refine q_isub hK dX9_less_20 ?_
        refine qm_iast hK dX9_less_21 (n := 5) (k := i) rfl rfl (by show i < 6; omega) ?_
        refine q_inc1 hK dX9_less_22 rfl (by decide) ?_
        refine q_goto hK 2 dX9_less_25 (by decide) ?_
        rw [up_up, up_same, up_ne h5]
        refine ih (i + 1) (upd f i (f i - F n (a + i))) (by omega) (fun k hk => ?_) (fun k hk => ?_)
        · by_cases e : k = i
          · rw [e, upd_same, hg i (Nat.le_refl i)]
          · rw [upd_ne e]
            exact hf k (by omega)
        · rw [upd_ne (by omega)]
          exact hg k (by omega)
  have := loop 6 0 (F 5) rfl (fun k hk => by omega) (fun k hk => rfl)
  rw [up_id] at this
  exact this
theorem m_isFar {Q : Int32 → Mem → Prop} (h : Q (b2i (farN 24 (F 5) 6)) (MM X Z F L g)) : CallI X 0 yX9_isFar [rf X 0] (MM X Z F L g) Q := by
  refine CallM_intro (own := RX9) [some (rf X 0), none, none] wX9_isFar (by decide) (by decide) rfl (Nat.le_of_ble_eq_true rfl) rfl (fun K hK hR => ?_)
  refine q_iconst (v := nI 0) hK dX9_isFar_0 (by decide) ?_
  refine q_istore_n hK 1 dX9_isFar_1 rfl (by decide) ?_
  refine q_iconst (v := nI 0) hK dX9_isFar_2 (by decide) ?_
  refine q_istore_n hK 2 dX9_isFar_3 rfl (by decide) ?_
  have loop : ∀ m i, i + m = 6 → K (MM X Z F L g) 4 [some (rf X 0), some (.int (b2i (farN 24 (F 5) i))), some (.int (nI i))] [] := by
    intro m
    induction m with
    | zero =>
      intro i hi
      have : i = 6 := by omega
      subst this
      refine q_iload_n hK 2 dX9_isFar_4 rfl rfl ?_
      refine q_bipush (v := nI 6) hK dX9_isFar_5 (by decide) ?_
      refine q_icmp_ge hK 48 dX9_isFar_7 (by decide) (fun c7 => ?_) (fun c7 => ?_)
      · refine q_iload_n hK 1 dX9_isFar_48 rfl rfl ?_
        exact q_iret hR dX9_isFar_49 (nar_b _) ⟨_, rfl, h⟩
      · exact absurd ((nI_leI (by decide) (by decide)).mpr (by decide)) c7
    | succ m ih =>
      intro i hi
      refine q_iload_n hK 2 dX9_isFar_4 rfl rfl ?_
      refine q_bipush (v := nI 6) hK dX9_isFar_5 (by decide) ?_
      refine q_icmp_ge hK 48 dX9_isFar_7 (by decide) (fun c7 => ?_) (fun c7 => ?_)
      · have := (nI_leI (by decide) (by omega)).mp c7
        omega
      · have ih := ih (i + 1) (by omega)
        refine q_iload_n hK 1 dX9_isFar_10 rfl rfl ?_
        refine q_if_ne hK 36 dX9_isFar_11 (by decide) (fun c11 => ?_) (fun c11 => ?_)
        · refine q_iconst (v := nI 1) hK dX9_isFar_36 (by decide) ?_
          refine q_goto hK 41 dX9_isFar_37 (by decide) ?_
          refine q_istore_n hK 1 dX9_isFar_41 rfl (by decide) ?_
          refine q_inc1 hK dX9_isFar_42 rfl (by decide) ?_
          refine q_goto hK 4 dX9_isFar_45 (by decide) ?_
          rw [show farN 24 (F 5) (i + 1) = true by simp [farN, (b2i_ne0 _).mp c11]] at ih
          exact ih
        · refine q_aload_n hK 0 dX9_isFar_14 rfl rfl ?_
          refine q_getf hK dX9_isFar_15 fX9_23 (by decide) rfl rfl ?_
          refine q_iload_n hK 2 dX9_isFar_18 rfl rfl ?_
          refine qm_iald hK dX9_isFar_19 (n := 5) (k := i) rfl rfl (by show i < 6; omega) ?_
          refine q_bipush (v := jI (-24)) hK dX9_isFar_20 (by decide) ?_
          refine q_icmp_lt hK 36 dX9_isFar_22 (by decide) (fun c22 => ?_) (fun c22 => ?_)
          · refine q_iconst (v := nI 1) hK dX9_isFar_36 (by decide) ?_
            refine q_goto hK 41 dX9_isFar_37 (by decide) ?_
            refine q_istore_n hK 1 dX9_isFar_41 rfl (by decide) ?_
            refine q_inc1 hK dX9_isFar_42 rfl (by decide) ?_
            refine q_goto hK 4 dX9_isFar_45 (by decide) ?_
            rw [show farN 24 (F 5) (i + 1) = true by simp [farN]; exact Or.inl (Or.inr c22)] at ih
            exact ih
          · refine q_aload_n hK 0 dX9_isFar_25 rfl rfl ?_
            refine q_getf hK dX9_isFar_26 fX9_23 (by decide) rfl rfl ?_
            refine q_iload_n hK 2 dX9_isFar_29 rfl rfl ?_
            refine qm_iald hK dX9_isFar_30 (n := 5) (k := i) rfl rfl (by show i < 6; omega) ?_
            refine q_bipush (v := nI 24) hK dX9_isFar_31 (by decide) ?_
            refine q_icmp_le hK 40 dX9_isFar_33 (by decide) (fun c33 => ?_) (fun c33 => ?_)
            · refine q_iconst (v := nI 0) hK dX9_isFar_40 (by decide) ?_
              refine q_istore_n hK 1 dX9_isFar_41 rfl (by decide) ?_
              refine q_inc1 hK dX9_isFar_42 rfl (by decide) ?_
              refine q_goto hK 4 dX9_isFar_45 (by decide) ?_
              have e : ¬ nI 24 < F 5 i := Int32.not_lt.mpr c33
              rw [show farN 24 (F 5) (i + 1) = false by simp only [farN, (b2i_eq0 _).mp c11, Bool.false_or, Bool.or_eq_false_iff, decide_eq_false_iff_not]; exact ⟨c22, e⟩] at ih
              exact ih
            · refine q_iconst (v := nI 1) hK dX9_isFar_36 (by decide) ?_
              refine q_goto hK 41 dX9_isFar_37 (by decide) ?_
              refine q_istore_n hK 1 dX9_isFar_41 rfl (by decide) ?_
              refine q_inc1 hK dX9_isFar_42 rfl (by decide) ?_
              refine q_goto hK 4 dX9_isFar_45 (by decide) ?_
              have e : nI 24 < F 5 i := Int32.not_le.mp c33
              rw [show farN 24 (F 5) (i + 1) = true by simp [farN]; exact Or.inr e] at ih
              exact ih
  exact loop 6 0 rfl
end M1
