-- ===== sizes
def anyN (p : Nat → Bool) : Nat → Bool
  | 0 => false
  | i + 1 => anyN p i || p i
theorem anyN_false {p : Nat → Bool} : ∀ {n : Nat}, anyN p n = false ↔ ∀ k, k < n → p k = false
  | 0 => by simp [anyN]
  | n + 1 => by
    simp only [anyN, Bool.or_eq_false_iff, anyN_false (n := n)]
    constructor
    · rintro ⟨h1, h2⟩ k hk
      by_cases e : k = n
      · rw [e]; exact h2
      · exact h1 k (by omega)
    · intro h
      exact ⟨fun k hk => h k (by omega), h n (by omega)⟩
theorem anyN_true {p : Nat → Bool} {n : Nat} (h : anyN p n = true) : ∃ k, k < n ∧ p k = true := by
  induction n with
  | zero => simp [anyN] at h
  | succ n ih =>
    simp only [anyN, Bool.or_eq_true] at h
    rcases h with q | q
    · obtain ⟨k, h1, h2⟩ := ih q
      exact ⟨k, by omega, h2⟩
    · exact ⟨n, by omega, q⟩
theorem sgn_rise {e : Vec} (h : ∀ k, k < 6 → 0 ≤ e k) (h2 : ∃ k, k < 6 ∧ 0 < e k) : sgn e = 1 := by
  have h3 : loP e = 1 := by
    unfold loP
    rw [P6_congr (y := fun _ => 0) (fun k hk => by have := h k hk; show (-e k).toNat = 0; omega)]
    decide
  have h4 := upP_pos e
  have h5 : ¬ sgn e < 0 := fun q => by have := sgn_neg.mp q; omega
  have h6 : ¬ sgn e = 0 := fun q => by
    obtain ⟨k, hk, hk2⟩ := h2
    have := sgn_one.mp q k hk
    omega
  rcases sgn_range e with q | q | q <;> omega
theorem sgn_fall {e : Vec} (h : ∀ k, k < 6 → e k ≤ 0) (h2 : ∃ k, k < 6 ∧ e k < 0) : sgn e = -1 := by
  have := sgn_rise (e := fun k => -e k) (fun k hk => by have := h k hk; show 0 ≤ -e k; omega) (by obtain ⟨k, a, b⟩ := h2; exact ⟨k, a, by show 0 < -e k; omega⟩)
  rw [sgn_opp] at this
  omega
theorem fits104 {x : Nat → Nat} (h : ∀ k, k < 6 → x k ≤ 200) : P6 x < bB ^ 104 := by
  have b1 : P6 (fun _ => 200) < bB ^ 104 := by decide +kernel
  exact Nat.lt_of_le_of_lt (P6_mono h) b1
theorem eqo.at {α : Type} {S : List Nat} {f f' : Nat → α} (h : eqo S f f') {j : Nat} (hj : j ∉ S) : f' j = f j := h j hj
section B6
variable {X : Cx} {Z : Nat → Int32} {V : Nat → Int64} {P : Nat → Nat → Nat} {F : Nat → Nat → Int32} {L : Nat → Nat → Int64} {g : Mem}
theorem b_sign {n : Nat} {e : Vec} {Q : Int32 → Mem → Prop} (hn : bR n = true) (he : has6 (F n) e 200) (h : ∀ Z' V' F', eqo [2, 3] Z Z' → eqo [26, 28] F F' → Q (jI (sgn e)) (BB X Z' V' P F' L g)) : CallI X 2 yX7_sign [rf X 24, rf X n] (BB X Z V P F L g) Q := by
  have hn26 : n ≠ 26 := fun z => by rw [z] at hn; exact absurd hn (by decide)
  have hn28 : n ≠ 28 := fun z => by rw [z] at hn; exact absurd hn (by decide)
  have h0 := h Z V F eqo.rf eqo.rf
  refine CallM_intro (own := RX7) [some (rf X 24), some (rf X n), none, none, none] wX7_sign (by decide) (by decide) rfl (Nat.le_of_ble_eq_true rfl) rfl (fun K hK hR => ?_)
  refine q_iconst (v := nI 0) hK dX7_sign_0 (by decide) ?_
  refine q_istore_n hK 2 dX7_sign_1 rfl (by decide) ?_
  refine q_iconst (v := nI 0) hK dX7_sign_2 (by decide) ?_
  refine q_istore_n hK 3 dX7_sign_3 rfl (by decide) ?_
  refine q_iconst (v := nI 0) hK dX7_sign_4 (by decide) ?_
  refine q_istore hK dX7_sign_5 (by decide) ?_
  have fin : ∀ r f v4, r = anyN (fun k => decide (0 < e k)) 6 → f = anyN (fun k => decide (e k < 0)) 6 → K (BB X Z V P F L g) 54 [some (rf X 24), some (rf X n), some (.int (b2i r)), some (.int (b2i f)), v4] [] := by
    intro r f v4 hr hf
    have quick : (r = false ∨ f = false) → K (BB X Z V P F L g) 62 [some (rf X 24), some (rf X n), some (.int (b2i r)), some (.int (b2i f)), v4] [] := by
      intro hq
      cases r with
      | true =>
        have hf0 : f = false := by rcases hq with q | q <;> simp_all
        subst hf0
        have h1 := anyN_false.mp hf.symm
        obtain ⟨k, k1, k2⟩ := anyN_true hr.symm
        have hs : sgn e = 1 := sgn_rise (fun k hk => by have := h1 k hk; simp at this; omega) ⟨k, k1, by simpa using k2⟩
        rw [hs] at h0
        refine q_iload_n hK 2 dX7_sign_62 rfl rfl ?_
        refine q_if_eq hK 70 dX7_sign_63 (by decide) (fun c63 => ?_) (fun c63 => ?_)
        · exact absurd c63 (by decide)
        refine q_iconst (v := nI 1) hK dX7_sign_66 (by decide) ?_
        refine q_goto hK 79 dX7_sign_67 (by decide) ?_
        exact q_iret hR dX7_sign_79 rfl ⟨_, rfl, h0⟩
      | false =>
        have h1 := anyN_false.mp hr.symm
        refine q_iload_n hK 2 dX7_sign_62 rfl rfl ?_
        refine q_if_eq hK 70 dX7_sign_63 (by decide) (fun c63 => ?_) (fun c63 => ?_)
        rotate_left
        · exact absurd rfl c63
        refine q_iload_n hK 3 dX7_sign_70 rfl rfl ?_
        cases f with
        | true =>
          obtain ⟨k, k1, k2⟩ := anyN_true hf.symm
          have hs : sgn e = -1 := sgn_fall (fun k hk => by have := h1 k hk; simp at this; omega) ⟨k, k1, by simpa using k2⟩
          rw [hs] at h0
          refine q_if_eq hK 78 dX7_sign_71 (by decide) (fun c71 => ?_) (fun c71 => ?_)
          · exact absurd c71 (by decide)
          refine q_iconst (v := jI (-1)) hK dX7_sign_74 (by decide) ?_
          refine q_goto hK 79 dX7_sign_75 (by decide) ?_
          exact q_iret hR dX7_sign_79 rfl ⟨_, rfl, h0⟩
        | false =>
          have h2 := anyN_false.mp hf.symm
          have hs : sgn e = 0 := sgn_one.mpr (fun k hk => by have := h1 k hk; have := h2 k hk; simp at *; omega)
          rw [hs] at h0
          refine q_if_eq hK 78 dX7_sign_71 (by decide) (fun c71 => ?_) (fun c71 => ?_)
          rotate_left
          · exact absurd rfl c71
          refine q_iconst (v := nI 0) hK dX7_sign_78 (by decide) ?_
          exact q_iret hR dX7_sign_79 rfl ⟨_, rfl, h0⟩
    refine q_iload_n hK 2 dX7_sign_54 rfl rfl ?_
    refine q_if_eq hK 62 dX7_sign_55 (by decide) (fun c55 => ?_) (fun c55 => ?_)
    · exact quick (Or.inl ((b2i_eq0 _).mp c55))
    refine q_iload_n hK 3 dX7_sign_58 rfl rfl ?_
    refine q_if_ne hK 80 dX7_sign_59 (by decide) (fun c59 => ?_) (fun c59 => ?_)
    rotate_left
    · exact quick (Or.inr ((b2i_eq0 _).mp c59))
    refine q_aload_n hK 0 dX7_sign_80 rfl rfl ?_
    refine q_getf hK dX7_sign_81 fX7_12 (by decide) rfl rfl ?_
    refine q_aload_n hK 1 dX7_sign_84 rfl rfl ?_
    refine q_iconst (v := nI 1) hK dX7_sign_85 (by decide) ?_
    have up1 : ∀ k, k < 6 → nI 1 * F n k = jI (e k) ∧ -1000 ≤ e k ∧ e k ≤ 1000 := fun k hk => by
      have := he k hk
      exact ⟨by rw [this.1, jI_nat 1, jI_mul]; congr 1; omega, by omega, by omega⟩
    refine q_cVv2 hK dX7_sign_86 lX7_25 (by decide) (by decide) rfl (Nat.le_of_ble_eq_true rfl) (b_build (o := 25) (p := e) (Or.inl rfl) hn up1 (fits104 (fun k hk => by have := he k hk; show (e k).toNat ≤ 200; omega)) (fun Z1 V1 F1 y1 y2 y3 => ?_))
    refine q_aload_n hK 0 dX7_sign_89 rfl rfl ?_
    refine q_getf hK dX7_sign_90 fX7_18 (by decide) rfl rfl ?_
    refine q_aload_n hK 1 dX7_sign_93 rfl rfl ?_
    refine q_iconst (v := jI (-1)) hK dX7_sign_94 (by decide) ?_
    have lo1 : ∀ k, k < 6 → jI (-1) * F1 n k = jI (-e k) ∧ -1000 ≤ -e k ∧ -e k ≤ 1000 := fun k hk => by
      have := he k hk
      exact ⟨by rw [y2 n (by simp; exact hn26), this.1, jI_mul]; congr 1; omega, by omega, by omega⟩
    refine q_cVv2 hK dX7_sign_95 lX7_25 (by decide) (by decide) rfl (Nat.le_of_ble_eq_true rfl) (b_build (o := 27) (p := fun k => -e k) (Or.inr rfl) hn lo1 (fits104 (fun k hk => by have := he k hk; show (-e k).toNat ≤ 200; omega)) (fun Z2 V2 F2 z1 z2 z3 => ?_))
    refine q_aload_n hK 0 dX7_sign_98 rfl rfl ?_
    refine q_getf hK dX7_sign_99 fX7_12 (by decide) rfl rfl ?_
    refine q_aload_n hK 0 dX7_sign_102 rfl rfl ?_
    refine q_getf hK dX7_sign_103 fX7_18 (by decide) rfl rfl ?_
    have y3' : ntI 25 (upP e) Z2 F2 := by
      obtain ⟨w, len, a1, a2, a3, a4⟩ := y3
      exact ⟨w, len, by rw [z1 (ntZ 25) (by decide)]; exact a1, a2, fun i hi => by rw [z2 26 (by decide)]; exact a3 i hi, a4⟩
    have z3' : ntI 27 (loP e) Z2 F2 := z3
    have b1 : upP e < bB ^ 104 := fits104 (fun k hk => by have := he k hk; show (e k).toNat ≤ 200; omega)
    have b2 : loP e < bB ^ 104 := fits104 (fun k hk => by have := he k hk; show (-e k).toNat ≤ 200; omega)
    refine q_cVi1 hK dX7_sign_106 lX7_29 (by decide) (by decide) rfl (Nat.le_of_ble_eq_true rfl) (b_against y3' z3' b1 b2 ?_)
    have hh := h Z2 V2 F2 ((y1.mono (by decide)).tr (z1.mono (by decide))) ((y2.mono (by decide)).tr (z2.mono (by decide)))
    exact q_iret hR dX7_sign_109 rfl ⟨_, rfl, hh⟩
  have loop : ∀ m i, i + m = 6 → K (BB X Z V P F L g) 7 [some (rf X 24), some (rf X n), some (.int (b2i (anyN (fun k => decide (0 < e k)) i))), some (.int (b2i (anyN (fun k => decide (e k < 0)) i))), some (.int (nI i))] [] := by
    intro m
    induction m with
    | zero =>
      intro i hi
      have : i = 6 := by omega
      subst this
      refine q_iload hK dX7_sign_7 rfl ?_
      refine q_bipush (v := nI 6) hK dX7_sign_9 (by decide) ?_
      refine q_icmp_ge hK 54 dX7_sign_11 (by decide) (fun c11 => ?_) (fun c11 => ?_)
      · exact fin _ _ _ rfl rfl
      · exact absurd ((nI_leI (by decide) (by decide)).mpr (by decide)) c11
    | succ m ih =>
      intro i hi
      have ih := ih (i + 1) (by omega)
      obtain ⟨e1, e2, e3⟩ := he i (by omega)
      refine q_iload hK dX7_sign_7 rfl ?_
      refine q_bipush (v := nI 6) hK dX7_sign_9 (by decide) ?_
      refine q_icmp_ge hK 54 dX7_sign_11 (by decide) (fun c11 => ?_) (fun c11 => ?_)
      · have := (nI_leI (by decide) (by omega)).mp c11
        omega
      have s2 : K (BB X Z V P F L g) 47 [some (rf X 24), some (rf X n), some (.int (b2i (anyN (fun k => decide (0 < e k)) (i + 1)))), some (.int (b2i (anyN (fun k => decide (e k < 0)) i))), some (.int (nI i))] [.int (b2i (anyN (fun k => decide (e k < 0)) (i + 1)))] := by
        refine q_istore_n hK 3 dX7_sign_47 rfl (by decide) ?_
        refine q_inc1 hK dX7_sign_48 rfl (by decide) ?_
        refine q_goto hK 7 dX7_sign_51 (by decide) ?_
        exact ih
      have s1 : K (BB X Z V P F L g) 30 [some (rf X 24), some (rf X n), some (.int (b2i (anyN (fun k => decide (0 < e k)) i))), some (.int (b2i (anyN (fun k => decide (e k < 0)) i))), some (.int (nI i))] [.int (b2i (anyN (fun k => decide (0 < e k)) (i + 1)))] := by
        refine q_istore_n hK 2 dX7_sign_30 rfl (by decide) ?_
        refine q_iload_n hK 3 dX7_sign_31 rfl rfl ?_
        refine q_if_ne hK 42 dX7_sign_32 (by decide) (fun c32 => ?_) (fun c32 => ?_)
        · rw [show anyN (fun k => decide (e k < 0)) (i + 1) = true by simp [anyN, (b2i_ne0 _).mp c32]] at s2
          refine q_iconst (v := nI 1) hK dX7_sign_42 (by decide) ?_
          refine q_goto hK 47 dX7_sign_43 (by decide) ?_
          exact s2
        refine q_aload_n hK 1 dX7_sign_35 rfl rfl ?_
        refine q_iload hK dX7_sign_36 rfl ?_
        refine qb_ialdR hK dX7_sign_38 hn rfl (by omega) ?_
        rw [e1]
        refine q_if_ge hK 46 dX7_sign_39 (by decide) (fun c39 => ?_) (fun c39 => ?_)
        · have q := (jI_0le (by omega) (by omega)).mp c39
          rw [show anyN (fun k => decide (e k < 0)) (i + 1) = false by simp [anyN, (b2i_eq0 _).mp c32]; omega] at s2
          refine q_iconst (v := nI 0) hK dX7_sign_46 (by decide) ?_
          exact s2
        · have q := mt (jI_0le (b := e i) (by omega) (by omega)).mpr c39
          rw [show anyN (fun k => decide (e k < 0)) (i + 1) = true by simp [anyN]; right; omega] at s2
          refine q_iconst (v := nI 1) hK dX7_sign_42 (by decide) ?_
          refine q_goto hK 47 dX7_sign_43 (by decide) ?_
          exact s2
      refine q_iload_n hK 2 dX7_sign_14 rfl rfl ?_
      refine q_if_ne hK 25 dX7_sign_15 (by decide) (fun c15 => ?_) (fun c15 => ?_)
      · rw [show anyN (fun k => decide (0 < e k)) (i + 1) = true by simp [anyN, (b2i_ne0 _).mp c15]] at s1
        refine q_iconst (v := nI 1) hK dX7_sign_25 (by decide) ?_
        refine q_goto hK 30 dX7_sign_26 (by decide) ?_
        exact s1
      refine q_aload_n hK 1 dX7_sign_18 rfl rfl ?_
      refine q_iload hK dX7_sign_19 rfl ?_
      refine qb_ialdR hK dX7_sign_21 hn rfl (by omega) ?_
      rw [e1]
      refine q_if_le hK 29 dX7_sign_22 (by decide) (fun c22 => ?_) (fun c22 => ?_)
      · have q := (jI_le0 (by omega) (by omega)).mp c22
        rw [show anyN (fun k => decide (0 < e k)) (i + 1) = false by simp [anyN, (b2i_eq0 _).mp c15]; omega] at s1
        refine q_iconst (v := nI 0) hK dX7_sign_29 (by decide) ?_
        exact s1
      · have q := mt (jI_le0 (b := e i) (by omega) (by omega)).mpr c22
        rw [show anyN (fun k => decide (0 < e k)) (i + 1) = true by simp [anyN]; right; omega] at s1
        refine q_iconst (v := nI 1) hK dX7_sign_25 (by decide) ?_
        refine q_goto hK 30 dX7_sign_26 (by decide) ?_
        exact s1
  exact loop 6 0 rfl
theorem b_compare {a b : Nat} {ea eb : Vec} {Q : Int32 → Mem → Prop} (ha : bR a = true) (hb : bR b = true) (hea : ∀ k, k < 6 → F a k = jI (ea k)) (heb : ∀ k, k < 6 → F b k = jI (eb k)) (hd : ∀ k, k < 6 → -200 ≤ ea k - eb k ∧ ea k - eb k ≤ 200) (h : ∀ Z' V' F', eqo [2, 3] Z Z' → eqo [26, 28, 29] F F' → Q (jI (sgn (fun k => ea k - eb k))) (BB X Z' V' P F' L g)) : CallI X 3 yX7_compareSizes [rf X 24, rf X a, rf X b] (BB X Z V P F L g) Q := by
  refine CallM_intro (own := RX7) [some (rf X 24), some (rf X a), some (rf X b)] wX7_compareSizes (by decide) (by decide) rfl (Nat.le_of_ble_eq_true rfl) rfl (fun K hK hR => ?_)
  refine q_aload_n hK 1 dX7_compareSizes_0 rfl rfl ?_
  refine q_aload_n hK 2 dX7_compareSizes_1 rfl rfl ?_
  refine q_iconst (v := jI (-1)) hK dX7_compareSizes_2 (by decide) ?_
  refine q_aload_n hK 0 dX7_compareSizes_3 rfl rfl ?_
  refine q_getf hK dX7_compareSizes_4 fX7_21 (by decide) rfl rfl ?_
  refine q_cSv4 hK dX7_compareSizes_7 lX7_33 (by decide) (Nat.le_of_ble_eq_true rfl) (b_combine (t := 29) ha hb rfl (fun f hf => ?_))
  refine q_aload_n hK 0 dX7_compareSizes_10 rfl rfl ?_
  refine q_aload_n hK 0 dX7_compareSizes_11 rfl rfl ?_
  refine q_getf hK dX7_compareSizes_12 fX7_21 (by decide) rfl rfl ?_
  have hs : has6 (va_up F 29 f 29) (fun k => ea k - eb k) 200 := fun k hk => by
    rw [up_same, hf k hk, hea k hk, heb k hk, jI_mul, jI_add]
    exact ⟨by show _ = jI (ea k - eb k); congr 1; omega, (hd k hk).1, (hd k hk).2⟩
  refine q_cVi1 hK dX7_compareSizes_15 lX7_39 (by decide) (by decide) rfl (Nat.le_of_ble_eq_true rfl) (b_sign (n := 29) rfl hs (fun Z' V' F' y1 y2 => ?_))
  exact q_iret hR dX7_compareSizes_18 rfl ⟨_, rfl, h Z' V' F' y1 ((eqo.rf.up (by decide)).tr (y2.mono (by decide)))⟩
end B6
