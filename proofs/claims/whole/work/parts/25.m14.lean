def mythF (n : Nat) (nt : Nat → Vec) : Nat → Nat → Bool
  | 0, _ => true
  | f + 1, k => if (kS n nt k n).1 = 2 then mythF n nt f (k + 1) else false
def myth (n : Nat) (nt : Nat → Vec) : Bool := decide (2 ≤ n) && mythF n nt (n - 1) 1
/-- the highest step of k against the least of k + 1 -/
def hlS (n : Nat) (nt : Nat → Vec) (k : Nat) : Int := sgn (fun j => (kS n nt k n).2.1 ((kS n nt k n).1 - 1) j - (kS n nt (k + 1) n).2.1 0 j)
def propF (st : Bool) (n : Nat) (nt : Nat → Vec) : Nat → Nat → Bool
  | 0, _ => true
  | f + 1, k => if 0 < hlS n nt k ∨ (st = true ∧ hlS n nt k = 0) then false else propF st n nt f (k + 1)
def prop (st : Bool) (n : Nat) (nt : Nat → Vec) : Bool := propF st n nt (n - 1) 1
def sp_scale (σ : Sg) (w : Int32) : Int32 × Sg :=
  if gN σ = 0 then (-1, sSt σ 7)
  else if isIn w 5 then
    ((if w.toInt.toNat = 0 then nI (gN σ) else if w.toInt.toNat = 1 then b2i (decide ((kS (gN σ) (gNt σ) 1 (gN σ)).1 ≤ 2)) else if w.toInt.toNat = 2 then b2i (myth (gN σ) (gNt σ)) else b2i (prop (decide (w.toInt.toNat = 4)) (gN σ) (gNt σ))), sSt σ 0)
  else (-1, sSt σ 3)
section M14
variable {X : Cx} {Z : Nat → Int32} {F : Nat → Nat → Int32} {L : Nat → Int64} {g : Mem}
theorem m_isMyth {n : Nat} {nt : Nat → Vec} {Q : Int32 → Mem → Prop} (hz : Z 18 = nI n) (hn : 1 ≤ n) (hn2 : n ≤ 24) (hr : ∀ i, i ≤ n → hasA (F 12) (6 * i) (nt i) 24) (h : ∀ Z' F', eqo scZ Z Z' → eqo scF F F' → Q (b2i (myth n nt)) (MM X Z' F' L g)) : CallI X 6 yX9_isMyth [rf X 0] (MM X Z F L g) Q := by
  refine CallM_intro (own := RX9) [some (rf X 0), none, none] wX9_isMyth (by decide) (by decide) rfl (Nat.le_of_ble_eq_true rfl) rfl (fun K hK hR => ?_)
  have loop : ∀ f k (b : Bool) Z' F', k + f = n → 1 ≤ k → myth n nt = (b && mythF n nt f k) → eqo scZ Z Z' → eqo scF F F' → K (MM X Z' F' L g) 16 [some (rf X 0), some (.int (b2i b)), some (.int (nI k))] [] := by
    intro f
    induction f with
    | zero =>
      intro k b Z' F' hk hk1 hm z1 z2
      refine q_iload_n hK 2 dX9_isMyth_16 rfl rfl ?_
      refine q_aload_n hK 0 dX9_isMyth_17 rfl rfl ?_
      refine q_getf hK dX9_isMyth_18 fX9_182 (by decide) rfl rfl ?_
      rw [z1 18 (by decide), hz]
      refine q_icmp_ge hK 53 dX9_isMyth_21 (by decide) (fun c21 => ?_) (fun c21 => ?_)
      rotate_left
      · exact absurd ((nI_leI (by omega) (by omega)).mpr (by omega)) c21
      refine q_iload_n hK 1 dX9_isMyth_53 rfl rfl ?_
      have hh := h Z' F' z1 z2
      rw [hm, show (b && mythF n nt 0 k) = b by simp [mythF]] at hh
      exact q_iret hR dX9_isMyth_54 (nar_b _) ⟨_, rfl, hh⟩
    | succ f ih =>
      intro k b Z' F' hk hk1 hm z1 z2
      refine q_iload_n hK 2 dX9_isMyth_16 rfl rfl ?_
      refine q_aload_n hK 0 dX9_isMyth_17 rfl rfl ?_
      refine q_getf hK dX9_isMyth_18 fX9_182 (by decide) rfl rfl ?_
      rw [z1 18 (by decide), hz]
      refine q_icmp_ge hK 53 dX9_isMyth_21 (by decide) (fun c21 => ?_) (fun c21 => ?_)
      · have := (nI_leI (by omega) (by omega)).mp c21
        omega
      refine q_iload_n hK 1 dX9_isMyth_24 rfl rfl ?_
      refine q_if_eq hK 53 dX9_isMyth_25 (by decide) (fun c25 => ?_) (fun c25 => ?_)
      · have eb := (b2i_eq0 _).mp c25
        refine q_iload_n hK 1 dX9_isMyth_53 rfl rfl ?_
        have hh := h Z' F' z1 z2
        rw [hm, eb, Bool.false_and] at hh
        rw [eb]
        exact q_iret hR dX9_isMyth_54 (nar_b _) ⟨_, rfl, hh⟩
      have eb := (b2i_ne0 _).mp c25
      rw [eb, Bool.true_and] at hm
      refine q_aload_n hK 0 dX9_isMyth_28 rfl rfl ?_
      refine q_iload_n hK 2 dX9_isMyth_29 rfl rfl ?_
      refine q_cVv1 hK dX9_isMyth_30 lX9_199 (by decide) (by decide) rfl (Nat.le_of_ble_eq_true rfl) (m_stepsBy (n := n) (nt := nt) (by rw [z1 18 (by decide)]; exact hz) hn hn2 (by omega) (fun i hi => by rw [z2 12 (by decide)]; exact hr i hi) (fun Z2 F2 y1 y2 y16 y3 => ?_))
      have kle := kS_le n nt k n
      unfold mythF at hm
      refine q_aload_n hK 0 dX9_isMyth_33 rfl rfl ?_
      refine q_getf hK dX9_isMyth_34 fX9_196 (by decide) rfl rfl ?_
      refine q_iconst (v := nI 2) hK dX9_isMyth_37 (by decide) ?_
      rw [y3.1]
      refine q_icmp_ne hK 45 dX9_isMyth_38 (by decide) (fun c38 => ?_) (fun c38 => ?_)
      · have hne : ¬ (kS n nt k n).1 = 2 := fun q => c38 (by rw [q])
        rw [if_neg hne] at hm
        refine q_iconst (v := nI 0) hK dX9_isMyth_45 (by decide) ?_
        refine q_istore_n hK 1 dX9_isMyth_46 rfl (by decide) ?_
        refine q_inc1 hK dX9_isMyth_47 rfl (by decide) ?_
        refine q_goto hK 16 dX9_isMyth_50 (by decide) ?_
        exact ih (k + 1) false Z2 F2 (by omega) (by omega) (by rw [hm]; rfl) (z1.tr y1) (z2.tr y2)
      · have he : (kS n nt k n).1 = 2 := (nI_eq (by omega) (by decide)).mp c38
        rw [if_pos he] at hm
        refine q_iconst (v := nI 1) hK dX9_isMyth_41 (by decide) ?_
        refine q_goto hK 46 dX9_isMyth_42 (by decide) ?_
        refine q_istore_n hK 1 dX9_isMyth_46 rfl (by decide) ?_
        refine q_inc1 hK dX9_isMyth_47 rfl (by decide) ?_
        refine q_goto hK 16 dX9_isMyth_50 (by decide) ?_
        exact ih (k + 1) true Z2 F2 (by omega) (by omega) (by rw [hm]; rfl) (z1.tr y1) (z2.tr y2)
  refine q_aload_n hK 0 dX9_isMyth_0 rfl rfl ?_
  refine q_getf hK dX9_isMyth_1 fX9_182 (by decide) rfl rfl ?_
  refine q_iconst (v := nI 2) hK dX9_isMyth_4 (by decide) ?_
  rw [hz]
  refine q_icmp_lt hK 12 dX9_isMyth_5 (by decide) (fun c5 => ?_) (fun c5 => ?_)
  · have hlt := (nI_ltI (by omega) (by decide)).mp c5
    refine q_iconst (v := nI 0) hK dX9_isMyth_12 (by decide) ?_
    refine q_istore_n hK 1 dX9_isMyth_13 rfl (by decide) ?_
    refine q_iconst (v := nI 1) hK dX9_isMyth_14 (by decide) ?_
    refine q_istore_n hK 2 dX9_isMyth_15 rfl (by decide) ?_
    exact loop (n - 1) 1 false Z F (by omega) (Nat.le_refl 1) (by simp [myth]; omega) eqo.rf eqo.rf
  · have hge := mt (nI_ltI (a := n) (b := 2) (by omega) (by decide)).mpr c5
    refine q_iconst (v := nI 1) hK dX9_isMyth_8 (by decide) ?_
    refine q_goto hK 13 dX9_isMyth_9 (by decide) ?_
    refine q_istore_n hK 1 dX9_isMyth_13 rfl (by decide) ?_
    refine q_iconst (v := nI 1) hK dX9_isMyth_14 (by decide) ?_
    refine q_istore_n hK 2 dX9_isMyth_15 rfl (by decide) ?_
    exact loop (n - 1) 1 true Z F (by omega) (Nat.le_refl 1) (by simp [myth]; omega) eqo.rf eqo.rf
theorem m_isProper {n : Nat} {nt : Nat → Vec} {st : Bool} {Q : Int32 → Mem → Prop} (hz : Z 18 = nI n) (hn : 1 ≤ n) (hn2 : n ≤ 24) (hr : ∀ i, i ≤ n → hasA (F 12) (6 * i) (nt i) 24) (h : ∀ Z' F', eqo scZ Z Z' → eqo scF F F' → Q (b2i (prop st n nt)) (MM X Z' F' L g)) : CallI X 6 yX9_isProper [rf X 0, .int (b2i st)] (MM X Z F L g) Q := by
  refine CallM_intro (own := RX9) [some (rf X 0), some (.int (b2i st)), none, none] wX9_isProper (by decide) (by decide) rfl (Nat.le_of_ble_eq_true rfl) rfl (fun K hK hR => ?_)
  refine q_iconst (v := nI 1) hK dX9_isProper_0 (by decide) ?_
  refine q_istore_n hK 2 dX9_isProper_1 rfl (by decide) ?_
  have loop : ∀ f k v3 Z' F', k + f = n → 1 ≤ k → prop st n nt = propF st n nt f k → eqo scZ Z Z' → eqo scF F F' → K (MM X Z' F' L g) 2 [some (rf X 0), some (.int (b2i st)), some (.int (nI k)), v3] [] := by
    intro f
    induction f with
    | zero =>
      intro k v3 Z' F' hk hk1 hm z1 z2
      refine q_iload_n hK 2 dX9_isProper_2 rfl rfl ?_
      refine q_aload_n hK 0 dX9_isProper_3 rfl rfl ?_
      refine q_getf hK dX9_isProper_4 fX9_182 (by decide) rfl rfl ?_
      rw [z1 18 (by decide), hz]
      refine q_icmp_ge hK 93 dX9_isProper_7 (by decide) (fun c7 => ?_) (fun c7 => ?_)
      rotate_left
      · exact absurd ((nI_leI (by omega) (by omega)).mpr (by omega)) c7
      refine q_iconst (v := nI 1) hK dX9_isProper_93 (by decide) ?_
      have hh := h Z' F' z1 z2
      rw [hm] at hh
      exact q_iret hR dX9_isProper_94 rfl ⟨_, rfl, hh⟩
    | succ f ih =>
      intro k v3 Z' F' hk hk1 hm z1 z2
      refine q_iload_n hK 2 dX9_isProper_2 rfl rfl ?_
      refine q_aload_n hK 0 dX9_isProper_3 rfl rfl ?_
      refine q_getf hK dX9_isProper_4 fX9_182 (by decide) rfl rfl ?_
      rw [z1 18 (by decide), hz]
      refine q_icmp_ge hK 93 dX9_isProper_7 (by decide) (fun c7 => ?_) (fun c7 => ?_)
      · have := (nI_leI (by omega) (by omega)).mp c7
        omega
      refine q_aload_n hK 0 dX9_isProper_10 rfl rfl ?_
      refine q_iload_n hK 2 dX9_isProper_11 rfl rfl ?_
      refine q_cVv1 hK dX9_isProper_12 lX9_199 (by decide) (by decide) rfl (Nat.le_of_ble_eq_true rfl) (m_stepsBy (n := n) (nt := nt) (by rw [z1 18 (by decide)]; exact hz) hn hn2 (by omega) (fun i hi => by rw [z2 12 (by decide)]; exact hr i hi) (fun Z2 F2 y1 y2 y16 y3 => ?_))
      have kle := kS_le n nt k n
      have kps := kS_pos n nt k n hn
      obtain ⟨k1, k2, k3⟩ := y3
      refine q_iconst (v := nI 0) hK dX9_isProper_15 (by decide) ?_
      refine q_istore_n hK 3 dX9_isProper_16 rfl (by decide) ?_
      have cp : ∀ m i f16, i + m = 6 → (∀ j, j < i → f16 j = F2 14 (6 * ((kS n nt k n).1 - 1) + j)) → K (MM X Z2 (va_up F2 16 f16) L g) 17 [some (rf X 0), some (.int (b2i st)), some (.int (nI k)), some (.int (nI i))] [] := by
        intro m
        induction m with
        | zero =>
          intro i f16 hi hf
          refine q_iload_n hK 3 dX9_isProper_17 rfl rfl ?_
          refine q_bipush (v := nI 6) hK dX9_isProper_18 (by decide) ?_
          refine q_icmp_ge hK 51 dX9_isProper_20 (by decide) (fun c20 => ?_) (fun c20 => ?_)
          rotate_left
          · exact absurd ((nI_leI (by decide) (by omega)).mpr (by omega)) c20
          refine q_aload_n hK 0 dX9_isProper_51 rfl rfl ?_
          refine q_iload_n hK 2 dX9_isProper_52 rfl rfl ?_
          refine q_iconst (v := nI 1) hK dX9_isProper_53 (by decide) ?_
          refine q_iadd hK dX9_isProper_54 ?_
          rw [show nI k + nI 1 = nI (k + 1) from nI_add k 1]
          refine q_cVv1 hK dX9_isProper_55 lX9_199 (by decide) (by decide) rfl (Nat.le_of_ble_eq_true rfl) (m_stepsBy (n := n) (nt := nt) (by rw [y1 18 (by decide), z1 18 (by decide)]; exact hz) hn hn2 (by omega) (fun i hi => by rw [up_ne (by decide), y2 12 (by decide), z2 12 (by decide)]; exact hr i hi) (fun Z3 F3 x1 x2 x16 x3 => ?_))
          have kle' := kS_le n nt (k + 1) n
          have kps' := kS_pos n nt (k + 1) n hn
          obtain ⟨l1, l2, l3⟩ := x3
          refine q_aload_n hK 0 dX9_isProper_58 rfl rfl ?_
          refine q_aload_n hK 0 dX9_isProper_59 rfl rfl ?_
          refine q_getf hK dX9_isProper_60 fX9_57 (by decide) rfl rfl ?_
          refine q_iconst (v := nI 0) hK dX9_isProper_63 (by decide) ?_
          refine q_aload_n hK 0 dX9_isProper_64 rfl rfl ?_
          refine q_getf hK dX9_isProper_65 fX9_51 (by decide) rfl rfl ?_
          refine q_iconst (v := nI 0) hK dX9_isProper_68 (by decide) ?_
          refine q_cVi4 hK dX9_isProper_69 lX9_139 (by decide) (by decide) rfl (Nat.le_of_ble_eq_true rfl) (m_compare (n := 16) (a := 0) (n2 := 14) (a2 := 0) (e := (kS n nt k n).2.1 ((kS n nt k n).1 - 1)) (e2 := (kS n nt (k + 1) n).2.1 0) rfl (by decide) (by decide) rfl (by decide) (by decide) (fun j hj => by rw [Nat.zero_add, x16 j, up_same, hf j (by omega)]; exact k2 _ (by omega) j hj) (fun j hj => by have := l2 0 (by omega) j hj; rwa [Nat.mul_zero] at this) (fun Z4 F4 u1 u2 => ?_))
          have sr := sgn_range (fun j => (kS n nt k n).2.1 ((kS n nt k n).1 - 1) j - (kS n nt (k + 1) n).2.1 0 j)
          have w1 : eqo scZ Z Z4 := ((z1.tr y1).tr x1).tr (sc56 u1)
          have w2 : eqo scF F F4 := (((z2.tr y2).up (k := 16) (v := f16) (by decide)).tr x2).tr (sc345 u2)
          unfold propF at hm
          have hlS' : hlS n nt k = sgn (fun j => (kS n nt k n).2.1 ((kS n nt k n).1 - 1) j - (kS n nt (k + 1) n).2.1 0 j) := rfl
          rw [← hlS'] at sr ⊢
          have badr : (0 < hlS n nt k ∨ (st = true ∧ hlS n nt k = 0)) → K (MM X Z4 F4 L g) 85 [some (rf X 0), some (.int (b2i st)), some (.int (nI k)), some (.int (jI (hlS n nt k)))] [] := by
            intro hb
            rw [if_pos hb] at hm
            refine q_iconst (v := nI 0) hK dX9_isProper_85 (by decide) ?_
            have hh := h Z4 F4 w1 w2
            rw [hm] at hh
            exact q_iret hR dX9_isProper_86 rfl ⟨_, rfl, hh⟩
          have goodr : ¬ (0 < hlS n nt k ∨ (st = true ∧ hlS n nt k = 0)) → K (MM X Z4 F4 L g) 87 [some (rf X 0), some (.int (b2i st)), some (.int (nI k)), some (.int (jI (hlS n nt k)))] [] := by
            intro hb
            rw [if_neg hb] at hm
            refine q_inc1 hK dX9_isProper_87 rfl (by decide) ?_
            refine q_goto hK 2 dX9_isProper_90 (by decide) ?_
            exact ih (k + 1) _ Z4 F4 (by omega) (by omega) hm w1 w2
          refine q_istore_n hK 3 dX9_isProper_72 rfl (by decide) ?_
          refine q_iload_n hK 3 dX9_isProper_73 rfl rfl ?_
          refine q_if_gt hK 85 dX9_isProper_74 (by decide) (fun c74 => ?_) (fun c74 => ?_)
          · exact badr (Or.inl ((jI_0lt (by omega) (by omega)).mp c74))
          have ngt := mt (jI_0lt (b := hlS n nt k) (by omega) (by omega)).mpr c74
          refine q_iload_n hK 1 dX9_isProper_77 rfl rfl ?_
          refine q_if_eq hK 87 dX9_isProper_78 (by decide) (fun c78 => ?_) (fun c78 => ?_)
          · have es := (b2i_eq0 _).mp c78
            exact goodr (fun q => by rcases q with q | q; exact ngt q; rw [es] at q; exact absurd q.1 (by decide))
          have es := (b2i_ne0 _).mp c78
          refine q_iload_n hK 3 dX9_isProper_81 rfl rfl ?_
          refine q_if_ne hK 87 dX9_isProper_82 (by decide) (fun c82 => ?_) (fun c82 => ?_)
          · exact goodr (fun q => by rcases q with q | q; exact ngt q; exact c82 ((jI_eq0 (by omega) (by omega)).mpr q.2))
          · exact badr (Or.inr ⟨es, (jI_eq0 (by omega) (by omega)).mp c82⟩)
        | succ m ihm =>
          intro i f16 hi hf
          refine q_iload_n hK 3 dX9_isProper_17 rfl rfl ?_
          refine q_bipush (v := nI 6) hK dX9_isProper_18 (by decide) ?_
          refine q_icmp_ge hK 51 dX9_isProper_20 (by decide) (fun c20 => ?_) (fun c20 => ?_)
          · have := (nI_leI (by decide) (by omega)).mp c20
            omega
          refine q_aload_n hK 0 dX9_isProper_23 rfl rfl ?_
          refine q_getf hK dX9_isProper_24 fX9_57 (by decide) rfl rfl ?_
          refine q_iload_n hK 3 dX9_isProper_27 rfl rfl ?_
          refine q_aload_n hK 0 dX9_isProper_28 rfl rfl ?_
          refine q_getf hK dX9_isProper_29 fX9_51 (by decide) rfl rfl ?_
          refine q_bipush (v := nI 6) hK dX9_isProper_32 (by decide) ?_
          refine q_aload_n hK 0 dX9_isProper_34 rfl rfl ?_
          refine q_getf hK dX9_isProper_35 fX9_196 (by decide) rfl rfl ?_
          refine q_iconst (v := nI 1) hK dX9_isProper_38 (by decide) ?_
          refine q_isub hK dX9_isProper_39 ?_
          refine q_imul hK dX9_isProper_40 ?_
          refine q_iload_n hK 3 dX9_isProper_41 rfl rfl ?_
          refine q_iadd hK dX9_isProper_42 ?_
          rw [k1, show nI (kS n nt k n).1 - nI 1 = nI ((kS n nt k n).1 - 1) from pk_sub (by omega)]
          refine qm_iald hK dX9_isProper_43 (n := 14) (k := 6 * ((kS n nt k n).1 - 1) + i) rfl (by rw [pk_mul, nI_add]) (by show _ < 150; omega) ?_
          refine qm_iast hK dX9_isProper_44 (n := 16) (k := i) rfl rfl (by show i < 150; omega) ?_
          refine q_inc1 hK dX9_isProper_45 rfl (by decide) ?_
          refine q_goto hK 17 dX9_isProper_48 (by decide) ?_
          rw [up_up, up_same, up_ne (by decide : (14 : Nat) ≠ 16)]
          refine ihm (i + 1) _ (by omega) (fun j hj => ?_)
          by_cases e : j = i
          · rw [e, upd_same]
          · rw [upd_ne e]; exact hf j (by omega)
      have := cp 6 0 (F2 16) rfl (fun j hj => by omega)
      rw [up_id] at this
      exact this
  exact loop (n - 1) 1 none Z F (by omega) (Nat.le_refl 1) rfl eqo.rf eqo.rf
theorem M_scale {σ : Sg} {w : Int32} {Q : Int32 → Mem → Prop} (hI : MI Z F σ) (h : ∀ Z' F' L', MI Z' F' (sp_scale σ w).2 → Q (sp_scale σ w).1 (MM X Z' F' L' g)) : CallI X 9 yX9_scale [rf X 0, .int w] (MM X Z F L g) Q := by
  obtain ⟨n1, n2, n3, n4⟩ := hI.2.2.2.2.1
  refine CallM_intro (own := RX9) [some (rf X 0), some (.int w)] wX9_scale (by decide) (by decide) rfl (Nat.le_of_ble_eq_true rfl) rfl (fun K hK hR => ?_)
  refine q_aload_n hK 0 dX9_scale_0 rfl rfl ?_
  refine q_getf hK dX9_scale_1 fX9_182 (by decide) rfl rfl ?_
  rw [n1]
  refine q_if_ne hK 14 dX9_scale_4 (by decide) (fun c4 => ?_) (fun c4 => ?_)
  rotate_left
  · have q : gN σ = 0 := (nI_eq (b := 0) (by omega) (by decide)).mp c4
    simp only [sp_scale, q, if_true] at h
    refine q_aload_n hK 0 dX9_scale_7 rfl rfl ?_
    refine q_bipush (v := nI 7) hK dX9_scale_8 (by decide) ?_
    refine q_cVi1 hK dX9_scale_10 lX9_136 (by decide) (by decide) rfl (Nat.le_of_ble_eq_true rfl) (m_none ?_)
    exact q_iret hR dX9_scale_13 rfl ⟨_, rfl, h _ _ _ (hI.st 7)⟩
  have q : ¬ gN σ = 0 := fun z => c4 (by rw [z]; rfl)
  simp only [sp_scale, q, if_false] at h
  have n3 := n3 (by omega)
  have bad : isIn w 5 = false → K (MM X Z F L g) 23 [some (rf X 0), some (.int w)] [] := by
    intro hb
    simp only [hb] at h
    refine q_aload_n hK 0 dX9_scale_23 rfl rfl ?_
    refine q_iconst (v := nI 3) hK dX9_scale_24 (by decide) ?_
    refine q_cVi1 hK dX9_scale_25 lX9_136 (by decide) (by decide) rfl (Nat.le_of_ble_eq_true rfl) (m_none ?_)
    exact q_iret hR dX9_scale_28 rfl ⟨_, rfl, h _ _ _ (hI.st 3)⟩
  refine q_iload_n hK 1 dX9_scale_14 rfl rfl ?_
  refine q_if_lt hK 23 dX9_scale_15 (by decide) (fun c15 => ?_) (fun c15 => ?_)
  · exact bad (by have := lt0_iff.mp c15; simp [isIn]; omega)
  refine q_iload_n hK 1 dX9_scale_18 rfl rfl ?_
  refine q_iconst (v := nI 4) hK dX9_scale_19 (by decide) ?_
  refine q_icmp_le hK 29 dX9_scale_20 (by decide) (fun c20 => ?_) (fun c20 => ?_)
  rotate_left
  · exact bad (by have := mt (Int32.le_iff_toInt_le (x := w) (y := nI 4)).mpr c20; rw [nI_toInt (by decide)] at this; simp [isIn]; omega)
  have hk : isIn w 5 = true := by
    have h1 := mt lt0_iff.mpr c15
    have h2 := Int32.le_iff_toInt_le.mp c20
    rw [nI_toInt (by decide)] at h2
    simp [isIn]
    omega
  clear bad
  obtain ⟨iw, hw1, rfl, hw2⟩ := isIn_ex hk (by decide)
  simp only [hk, hw2, if_true] at h
  have hI0 := hI.st 0
  have z18 : va_up Z 0 (nI 0) 18 = nI (gN σ) := by rw [up_ne (by decide)]; exact n1
  refine q_aload_n hK 0 dX9_scale_29 rfl rfl ?_
  refine q_iconst (v := nI 0) hK dX9_scale_30 (by decide) ?_
  refine qm_put0 hK dX9_scale_31 pX9_66 ?_
  refine q_iload_n hK 1 dX9_scale_34 rfl rfl ?_
  refine q_if_ne hK 43 dX9_scale_35 (by decide) (fun c35 => ?_) (fun c35 => ?_)
  rotate_left
  · have : iw = 0 := (nI_eq (b := 0) (by omega) (by decide)).mp c35
    subst this
    simp only [if_true] at h
    refine q_aload_n hK 0 dX9_scale_38 rfl rfl ?_
    refine q_getf hK dX9_scale_39 fX9_182 (by decide) rfl rfl ?_
    rw [z18]
    exact q_iret hR dX9_scale_42 rfl ⟨_, rfl, h _ _ _ hI0⟩
  have w0 : ¬ iw = 0 := fun z => c35 (by rw [z]; rfl)
  simp only [w0, if_false] at h
  refine q_iload_n hK 1 dX9_scale_43 rfl rfl ?_
  refine q_iconst (v := nI 2) hK dX9_scale_44 (by decide) ?_
  refine q_icmp_ne hK 61 dX9_scale_45 (by decide) (fun c45 => ?_) (fun c45 => ?_)
  rotate_left
  · have : iw = 2 := (nI_eq (by omega) (by decide)).mp c45
    subst this
    simp only [show ¬ (2 : Nat) = 1 by decide, if_true, if_false] at h
    refine q_aload_n hK 0 dX9_scale_48 rfl rfl ?_
    refine q_cVi0 hK dX9_scale_49 lX9_202 (by decide) (by decide) rfl (Nat.le_of_ble_eq_true rfl) (m_isMyth (n := gN σ) (nt := gNt σ) z18 (by omega) n2 n3 (fun Z' F' z1 z2 => ?_))
    have hM := hI0.scr z1 z2
    refine q_if_eq hK 59 dX9_scale_52 (by decide) (fun c52 => ?_) (fun c52 => ?_)
    · rw [(b2i_eq0 _).mp c52] at h
      refine q_iconst (v := nI 0) hK dX9_scale_59 (by decide) ?_
      exact q_iret hR dX9_scale_60 rfl ⟨_, rfl, h _ _ _ hM⟩
    · rw [(b2i_ne0 _).mp c52] at h
      refine q_iconst (v := nI 1) hK dX9_scale_55 (by decide) ?_
      refine q_goto hK 60 dX9_scale_56 (by decide) ?_
      exact q_iret hR dX9_scale_60 rfl ⟨_, rfl, h _ _ _ hM⟩
  have w2 : ¬ iw = 2 := fun z => c45 (by rw [z])
  simp only [w2, if_false] at h
  refine q_iload_n hK 1 dX9_scale_61 rfl rfl ?_
  refine q_iconst (v := nI 2) hK dX9_scale_62 (by decide) ?_
  refine q_icmp_le hK 89 dX9_scale_63 (by decide) (fun c63 => ?_) (fun c63 => ?_)
  · have hle := (nI_leI (by omega) (by decide)).mp c63
    have w1 : iw = 1 := by omega
    simp only [w1, if_true] at h
    refine q_aload_n hK 0 dX9_scale_89 rfl rfl ?_
    refine q_iconst (v := nI 1) hK dX9_scale_90 (by decide) ?_
    refine q_cVv1 hK dX9_scale_91 lX9_199 (by decide) (by decide) rfl (Nat.le_of_ble_eq_true rfl) (m_stepsBy (n := gN σ) (nt := gNt σ) (k := 1) z18 (by omega) n2 (by omega) n3 (fun Z' F' z1 z2 z16 z3 => ?_))
    have hM := hI0.scr z1 z2
    have kle := kS_le (gN σ) (gNt σ) 1 (gN σ)
    refine q_aload_n hK 0 dX9_scale_94 rfl rfl ?_
    refine q_getf hK dX9_scale_95 fX9_196 (by decide) rfl rfl ?_
    refine q_iconst (v := nI 2) hK dX9_scale_98 (by decide) ?_
    rw [z3.1]
    refine q_icmp_gt hK 106 dX9_scale_99 (by decide) (fun c99 => ?_) (fun c99 => ?_)
    · have := (nI_ltI (by decide) (by omega)).mp c99
      rw [show decide ((kS (gN σ) (gNt σ) 1 (gN σ)).1 ≤ 2) = false by simp; omega] at h
      refine q_iconst (v := nI 0) hK dX9_scale_106 (by decide) ?_
      exact q_iret hR dX9_scale_107 rfl ⟨_, rfl, h _ _ _ hM⟩
    · have := mt (nI_ltI (a := 2) (b := (kS (gN σ) (gNt σ) 1 (gN σ)).1) (by decide) (by omega)).mpr c99
      rw [show decide ((kS (gN σ) (gNt σ) 1 (gN σ)).1 ≤ 2) = true by simp; omega] at h
      refine q_iconst (v := nI 1) hK dX9_scale_102 (by decide) ?_
      refine q_goto hK 107 dX9_scale_103 (by decide) ?_
      exact q_iret hR dX9_scale_107 rfl ⟨_, rfl, h _ _ _ hM⟩
  have hgt := mt (nI_leI (a := iw) (b := 2) (by omega) (by decide)).mpr c63
  simp only [show ¬ iw = 1 by omega, if_false] at h
  have fin : ∀ st : Bool, st = decide (iw = 4) → K (MM X (va_up Z 0 (nI 0)) F L g) 77 [some (rf X 0), some (.int (nI iw))] [.int (b2i st), rf X 0] := by
    intro st hs
    rw [← hs] at h
    refine q_cVi1 hK dX9_scale_77 lX9_205 (by decide) (by decide) rfl (Nat.le_of_ble_eq_true rfl) (m_isProper (n := gN σ) (nt := gNt σ) (st := st) z18 (by omega) n2 n3 (fun Z' F' z1 z2 => ?_))
    have hM := hI0.scr z1 z2
    refine q_if_eq hK 87 dX9_scale_80 (by decide) (fun c80 => ?_) (fun c80 => ?_)
    · rw [(b2i_eq0 _).mp c80] at h
      refine q_iconst (v := nI 0) hK dX9_scale_87 (by decide) ?_
      exact q_iret hR dX9_scale_88 rfl ⟨_, rfl, h _ _ _ hM⟩
    · rw [(b2i_ne0 _).mp c80] at h
      refine q_iconst (v := nI 1) hK dX9_scale_83 (by decide) ?_
      refine q_goto hK 88 dX9_scale_84 (by decide) ?_
      exact q_iret hR dX9_scale_88 rfl ⟨_, rfl, h _ _ _ hM⟩
  refine q_aload_n hK 0 dX9_scale_66 rfl rfl ?_
  refine q_iload_n hK 1 dX9_scale_67 rfl rfl ?_
  refine q_iconst (v := nI 4) hK dX9_scale_68 (by decide) ?_
  refine q_icmp_ne hK 76 dX9_scale_69 (by decide) (fun c69 => ?_) (fun c69 => ?_)
  · refine q_iconst (v := nI 0) hK dX9_scale_76 (by decide) ?_
    exact fin false (by symm; simp; exact fun z => c69 (by rw [z]))
  · refine q_iconst (v := nI 1) hK dX9_scale_72 (by decide) ?_
    refine q_goto hK 77 dX9_scale_73 (by decide) ?_
    exact fin true (by symm; simp; exact (nI_eq (by omega) (by decide)).mp c69)
theorem M_follows {σ : Sg} {d : Int32} {Q : Int32 → Mem → Prop} (hI : MI Z F σ) (h : ∀ Z' F' L', MI Z' F' (sp_follows σ d).2 → Q (sp_follows σ d).1 (MM X Z' F' L' g)) : CallI X 9 yX9_follows [rf X 0, .int d] (MM X Z F L g) Q := by
  obtain ⟨n1, n2, n3, n4⟩ := hI.2.2.2.2.1
  refine CallM_intro (own := RX9) [some (rf X 0), some (.int d), none] wX9_follows (by decide) (by decide) rfl (Nat.le_of_ble_eq_true rfl) rfl (fun K hK hR => ?_)
  refine q_aload_n hK 0 dX9_follows_0 rfl rfl ?_
  refine q_getf hK dX9_follows_1 fX9_182 (by decide) rfl rfl ?_
  rw [n1]
  refine q_if_ne hK 14 dX9_follows_4 (by decide) (fun c4 => ?_) (fun c4 => ?_)
  rotate_left
  · have q : gN σ = 0 := (nI_eq (b := 0) (by omega) (by decide)).mp c4
    simp only [sp_follows, q, if_true] at h
    refine q_aload_n hK 0 dX9_follows_7 rfl rfl ?_
    refine q_bipush (v := nI 7) hK dX9_follows_8 (by decide) ?_
    refine q_cVi1 hK dX9_follows_10 lX9_136 (by decide) (by decide) rfl (Nat.le_of_ble_eq_true rfl) (m_none ?_)
    exact q_iret hR dX9_follows_13 rfl ⟨_, rfl, h _ _ _ (hI.st 7)⟩
  have q : ¬ gN σ = 0 := fun z => c4 (by rw [z]; rfl)
  simp only [sp_follows, q, if_false] at h
  have n3 := n3 (by omega)
  refine q_iload_n hK 1 dX9_follows_14 rfl rfl ?_
  refine q_cSi1 hK dX9_follows_15 lX9_153 (by decide) (Nat.le_of_ble_eq_true rfl) (m_isDivision ?_)
  refine q_if_ne hK 27 dX9_follows_18 (by decide) (fun c18 => ?_) (fun c18 => ?_)
  rotate_left
  · have hd := (b2i_eq0 _).mp c18
    simp only [hd] at h
    refine q_aload_n hK 0 dX9_follows_21 rfl rfl ?_
    refine q_iconst (v := nI 3) hK dX9_follows_22 (by decide) ?_
    refine q_cVi1 hK dX9_follows_23 lX9_136 (by decide) (by decide) rfl (Nat.le_of_ble_eq_true rfl) (m_none ?_)
    exact q_iret hR dX9_follows_26 rfl ⟨_, rfl, h _ _ _ (hI.st 3)⟩
  have hd := (b2i_ne0 _).mp c18
  obtain ⟨n, hn1, hn2, rfl, hn3⟩ := isDiv_ex hd
  simp only [hd, hn3, if_true] at h
  refine q_aload_n hK 0 dX9_follows_27 rfl rfl ?_
  refine q_iconst (v := nI 0) hK dX9_follows_28 (by decide) ?_
  refine qm_put0 hK dX9_follows_29 pX9_66 ?_
  refine q_iconst (v := nI 0) hK dX9_follows_32 (by decide) ?_
  refine q_istore_n hK 2 dX9_follows_33 rfl (by decide) ?_
  generalize hres : folF (gN σ) (gNt σ) n (gN σ + 1) 0 = res at h
  have loop : ∀ f i Z' F', i + f = gN σ + 1 → folF (gN σ) (gNt σ) n f i = res → MI Z' F' (sSt σ 0) → K (MM X Z' F' L g) 34 [some (rf X 0), some (.int (nI n)), some (.int (nI i))] [] := by
    intro f
    induction f with
    | zero =>
      intro i Z' F' hi hr hM
      have e18 : Z' 18 = nI (gN σ) := hM.2.2.2.2.1.1
      refine q_iload_n hK 2 dX9_follows_34 rfl rfl ?_
      refine q_aload_n hK 0 dX9_follows_35 rfl rfl ?_
      refine q_getf hK dX9_follows_36 fX9_182 (by decide) rfl rfl ?_
      rw [e18]
      refine q_icmp_gt hK 67 dX9_follows_39 (by decide) (fun c39 => ?_) (fun c39 => ?_)
      rotate_left
      · exact absurd ((nI_ltI (by omega) (by omega)).mpr (by omega)) c39
      refine q_iconst (v := nI 1) hK dX9_follows_67 (by decide) ?_
      rw [← hr] at h
      exact q_iret hR dX9_follows_68 rfl ⟨_, rfl, h _ _ _ hM⟩
    | succ f ih =>
      intro i Z' F' hi hr hM
      have e18 : Z' 18 = nI (gN σ) := hM.2.2.2.2.1.1
      have e12 : ∀ i, i ≤ gN σ → hasA (F' 12) (6 * i) (gNt σ i) 24 := hM.2.2.2.2.1.2.2.1 (by show 0 < gN σ; omega)
      refine q_iload_n hK 2 dX9_follows_34 rfl rfl ?_
      refine q_aload_n hK 0 dX9_follows_35 rfl rfl ?_
      refine q_getf hK dX9_follows_36 fX9_182 (by decide) rfl rfl ?_
      rw [e18]
      refine q_icmp_gt hK 67 dX9_follows_39 (by decide) (fun c39 => ?_) (fun c39 => ?_)
      · have := (nI_ltI (by omega) (by omega)).mp c39
        omega
      refine q_aload_n hK 0 dX9_follows_42 rfl rfl ?_
      refine q_aload_n hK 0 dX9_follows_43 rfl rfl ?_
      refine q_getf hK dX9_follows_44 fX9_45 (by decide) rfl rfl ?_
      refine q_bipush (v := nI 6) hK dX9_follows_47 (by decide) ?_
      refine q_iload_n hK 2 dX9_follows_49 rfl rfl ?_
      refine q_imul hK dX9_follows_50 ?_
      refine q_iload_n hK 1 dX9_follows_51 rfl rfl ?_
      rw [show nI 6 * nI i = nI (6 * i) from pk_mul 6 i]
      refine q_cVi3 hK dX9_follows_52 lX9_159 (by decide) (by decide) rfl (Nat.le_of_ble_eq_true rfl) (m_stepsOf (nm := 12) (a := 6 * i) (e := gNt σ i) hM.mok rfl (by decide) (by show 6 * i + 6 ≤ 150; omega) (fun k hk => (e12 i (by omega) k hk).1) hn1 hn2 (fun Z2 F2 z1 z2 z3 => ?_))
      have hM2 := hM.scr9 (sc56 z1) (z2.mono (by decide)) z3
      have sb := stN_bd hn1 hn2 (fun k hk => (e12 i (by omega) k hk).2) 6 (Nat.le_refl 6)
      unfold folF at hr
      refine q_iload_n hK 2 dX9_follows_55 rfl rfl ?_
      rw [jI_nat i]
      refine q_icmp_eq hK 61 dX9_follows_56 (by decide) (fun c56 => ?_) (fun c56 => ?_)
      · have he := (jI_eq (by omega) (by omega) (by omega) (by omega)).mp c56
        rw [if_pos he] at hr
        rw [← jI_nat i]
        refine q_inc1 hK dX9_follows_61 rfl (by decide) ?_
        refine q_goto hK 34 dX9_follows_64 (by decide) ?_
        exact ih (i + 1) Z2 F2 (by omega) hr hM2
      · have he : ¬ stN (gNt σ i) n 6 = (i : Int) := fun z => c56 (by rw [z])
        rw [if_neg he] at hr
        rw [← hr] at h
        refine q_iconst (v := nI 0) hK dX9_follows_59 (by decide) ?_
        exact q_iret hR dX9_follows_60 rfl ⟨_, rfl, h _ _ _ hM2⟩
  exact loop (gN σ + 1) 0 _ _ (by omega) hres (hI.st 0)
theorem M_mode {σ : Sg} {i : Int32} {Q : Int32 → Mem → Prop} (hI : MI Z F σ) (h : ∀ Z' F' L', MI Z' F' (sp_mode σ i).2 → Q (sp_mode σ i).1 (MM X Z' F' L' g)) : CallI X 9 yX9_mode [rf X 0, .int i] (MM X Z F L g) Q := by
  obtain ⟨n1, n2, n3, n4⟩ := hI.2.2.2.2.1
  refine CallM_intro (own := RX9) [some (rf X 0), some (.int i), none] wX9_mode (by decide) (by decide) rfl (Nat.le_of_ble_eq_true rfl) rfl (fun K hK hR => ?_)
  refine q_aload_n hK 0 dX9_mode_0 rfl rfl ?_
  refine q_getf hK dX9_mode_1 fX9_182 (by decide) rfl rfl ?_
  rw [n1]
  refine q_if_ne hK 14 dX9_mode_4 (by decide) (fun c4 => ?_) (fun c4 => ?_)
  rotate_left
  · have q : gN σ = 0 := (nI_eq (b := 0) (by omega) (by decide)).mp c4
    simp only [sp_mode, q, if_true] at h
    refine q_aload_n hK 0 dX9_mode_7 rfl rfl ?_
    refine q_bipush (v := nI 7) hK dX9_mode_8 (by decide) ?_
    refine q_cVi1 hK dX9_mode_10 lX9_104 (by decide) (by decide) rfl (Nat.le_of_ble_eq_true rfl) (m_ref (by decide) (by decide) ?_)
    exact q_iret hR dX9_mode_13 rfl ⟨_, rfl, h _ _ _ (hI.st 7)⟩
  have q : ¬ gN σ = 0 := fun z => c4 (by rw [z]; rfl)
  simp only [sp_mode, q, if_false] at h
  have n3 := n3 (by omega)
  have bad : isIn i (gN σ) = false → K (MM X Z F L g) 26 [some (rf X 0), some (.int i), none] [] := by
    intro hb
    simp only [hb] at h
    refine q_aload_n hK 0 dX9_mode_26 rfl rfl ?_
    refine q_iconst (v := nI 3) hK dX9_mode_27 (by decide) ?_
    refine q_cVi1 hK dX9_mode_28 lX9_104 (by decide) (by decide) rfl (Nat.le_of_ble_eq_true rfl) (m_ref (by decide) (by decide) ?_)
    exact q_iret hR dX9_mode_31 rfl ⟨_, rfl, h _ _ _ (hI.st 3)⟩
  refine q_iload_n hK 1 dX9_mode_14 rfl rfl ?_
  refine q_if_lt hK 26 dX9_mode_15 (by decide) (fun c15 => ?_) (fun c15 => ?_)
  · exact bad (by have := lt0_iff.mp c15; simp [isIn]; omega)
  refine q_iload_n hK 1 dX9_mode_18 rfl rfl ?_
  refine q_aload_n hK 0 dX9_mode_19 rfl rfl ?_
  refine q_getf hK dX9_mode_20 fX9_182 (by decide) rfl rfl ?_
  rw [n1]
  refine q_icmp_lt hK 32 dX9_mode_23 (by decide) (fun c23 => ?_) (fun c23 => ?_)
  rotate_left
  · exact bad (by have := mt (Int32.lt_iff_toInt_lt (x := i) (y := nI (gN σ))).mpr c23; rw [nI_toInt (by omega)] at this; simp [isIn]; omega)
  have hk : isIn i (gN σ) = true := by
    have h1 := mt lt0_iff.mpr c15
    have h2 := Int32.lt_iff_toInt_lt.mp c23
    rw [nI_toInt (by omega)] at h2
    simp [isIn]
    omega
  clear bad
  obtain ⟨ii, hi1, rfl, hi2⟩ := isIn_ex hk (by omega)
  simp only [hk, hi2, if_true] at h
  refine q_iconst (v := nI 0) hK dX9_mode_32 (by decide) ?_
  refine q_istore_n hK 2 dX9_mode_33 rfl (by decide) ?_
  have loop : ∀ t m Z' F', m + t = gN σ → farM (gN σ) (gNt σ) ii m = false → eqo scZ Z Z' → eqo scF F F' → (∀ a, a < m → hasA (F' 13) (6 * a) (stV (gN σ) (gNt σ) a ii) 24) → K (MM X Z' F' L g) 34 [some (rf X 0), some (.int (nI ii)), some (.int (nI m))] [] := by
    intro t
    induction t with
    | zero =>
      intro m Z' F' hm hf z1 z2 z3
      have hmn : m = gN σ := by omega
      subst hmn
      have hM := hI.scr z1 z2
      simp only [hf] at h
      refine q_iload_n hK 2 dX9_mode_34 rfl rfl ?_
      refine q_aload_n hK 0 dX9_mode_35 rfl rfl ?_
      refine q_getf hK dX9_mode_36 fX9_182 (by decide) rfl rfl ?_
      rw [z1 18 (by decide), n1]
      refine q_icmp_ge hK 92 dX9_mode_39 (by decide) (fun c39 => ?_) (fun c39 => ?_)
      rotate_left
      · exact absurd ((nI_leI (by omega) (by omega)).mpr (by omega)) c39
      refine q_iconst (v := nI 0) hK dX9_mode_92 (by decide) ?_
      refine q_istore_n hK 2 dX9_mode_93 rfl (by decide) ?_
      have cp : ∀ t j f, j + t = 6 * gN σ → (∀ a, a < j → f a = F' 13 a) → (∀ a, j ≤ a → f a = F' 12 a) → K (MM X Z' (va_up F' 12 f) L g) 94 [some (rf X 0), some (.int (nI ii)), some (.int (nI j))] [] := by
        intro t
        induction t with
        | zero =>
          intro j f hj p1 p2
          refine q_iload_n hK 2 dX9_mode_94 rfl rfl ?_
          refine q_bipush (v := nI 6) hK dX9_mode_95 (by decide) ?_
          refine q_aload_n hK 0 dX9_mode_97 rfl rfl ?_
          refine q_getf hK dX9_mode_98 fX9_182 (by decide) rfl rfl ?_
          refine q_imul hK dX9_mode_101 ?_
          rw [z1 18 (by decide), n1, show nI 6 * nI (gN σ) = nI (6 * gN σ) from pk_mul 6 _]
          refine q_icmp_ge hK 123 dX9_mode_102 (by decide) (fun c102 => ?_) (fun c102 => ?_)
          rotate_left
          · exact absurd ((nI_leI (by omega) (by omega)).mpr (by omega)) c102
          refine q_aload_n hK 0 dX9_mode_123 rfl rfl ?_
          refine q_iconst (v := nI 0) hK dX9_mode_124 (by decide) ?_
          refine q_cVi1 hK dX9_mode_125 lX9_104 (by decide) (by decide) rfl (Nat.le_of_ble_eq_true rfl) (m_acc ?_)
          obtain ⟨a1, a2, a3, a4, a5, a6, a7⟩ := hM
          refine q_iret hR dX9_mode_128 rfl ⟨_, rfl, h _ _ _ ⟨up_same _ _ _, ?_, ?_, ?_, ⟨?_, n2, fun _ a ha k hk => ?_, wf_mode n4 hi1⟩, ?_, ?_⟩⟩
          · rw [up_ne (by decide)]; exact a2
          · rw [up_ne (by decide)]; exact a3
          · rw [up_ne (by decide), up_ne (by decide)]; exact a4
          · rw [up_ne (by decide)]; exact a5.1
          · have ha' : a ≤ gN σ := ha
            rw [up_same]
            show _ = jI ((if a < gN σ then stV (gN σ) (gNt σ) a ii else gNt σ a) k) ∧ -(24 : Int) ≤ (if a < gN σ then stV (gN σ) (gNt σ) a ii else gNt σ a) k ∧ (if a < gN σ then stV (gN σ) (gNt σ) a ii else gNt σ a) k ≤ 24
            by_cases e : a < gN σ
            · rw [if_pos e, p1 _ (by omega)]
              exact z3 a e k hk
            · rw [if_neg e, p2 _ (by omega), z2 12 (by decide)]
              exact n3 a ha' k hk
          · rw [up_ne (by decide), up_ne (by decide)]; exact a6
          · rw [up_ne (by decide)]; exact a7
        | succ t iht =>
          intro j f hj p1 p2
          refine q_iload_n hK 2 dX9_mode_94 rfl rfl ?_
          refine q_bipush (v := nI 6) hK dX9_mode_95 (by decide) ?_
          refine q_aload_n hK 0 dX9_mode_97 rfl rfl ?_
          refine q_getf hK dX9_mode_98 fX9_182 (by decide) rfl rfl ?_
          refine q_imul hK dX9_mode_101 ?_
          rw [z1 18 (by decide), n1, show nI 6 * nI (gN σ) = nI (6 * gN σ) from pk_mul 6 _]
          refine q_icmp_ge hK 123 dX9_mode_102 (by decide) (fun c102 => ?_) (fun c102 => ?_)
          · have := (nI_leI (by omega) (by omega)).mp c102
            omega
          refine q_aload_n hK 0 dX9_mode_105 rfl rfl ?_
          refine q_getf hK dX9_mode_106 fX9_45 (by decide) rfl rfl ?_
          refine q_iload_n hK 2 dX9_mode_109 rfl rfl ?_
          refine q_aload_n hK 0 dX9_mode_110 rfl rfl ?_
          refine q_getf hK dX9_mode_111 fX9_48 (by decide) rfl rfl ?_
          refine q_iload_n hK 2 dX9_mode_114 rfl rfl ?_
          refine qm_iald hK dX9_mode_115 (n := 13) (k := j) rfl rfl (by show j < 150; omega) ?_
          refine qm_iast hK dX9_mode_116 (n := 12) (k := j) rfl rfl (by show j < 150; omega) ?_
          refine q_inc1 hK dX9_mode_117 rfl (by decide) ?_
          refine q_goto hK 94 dX9_mode_120 (by decide) ?_
          rw [up_up, up_same, up_ne (by decide : (13 : Nat) ≠ 12)]
          refine iht (j + 1) _ (by omega) (fun a ha => ?_) (fun a ha => ?_)
          · by_cases e : a = j
            · rw [e, upd_same]
            · rw [upd_ne e]; exact p1 a (by omega)
          · rw [upd_ne (by omega)]; exact p2 a (by omega)
      have := cp (6 * gN σ) 0 (F' 12) (by omega) (fun a ha => by omega) (fun a _ => rfl)
      rw [up_id] at this
      exact this
    | succ t ih =>
      intro m Z' F' hm hf z1 z2 z3
      refine q_iload_n hK 2 dX9_mode_34 rfl rfl ?_
      refine q_aload_n hK 0 dX9_mode_35 rfl rfl ?_
      refine q_getf hK dX9_mode_36 fX9_182 (by decide) rfl rfl ?_
      rw [z1 18 (by decide), n1]
      refine q_icmp_ge hK 92 dX9_mode_39 (by decide) (fun c39 => ?_) (fun c39 => ?_)
      · have := (nI_leI (by omega) (by omega)).mp c39
        omega
      refine q_aload_n hK 0 dX9_mode_42 rfl rfl ?_
      refine q_iload_n hK 1 dX9_mode_43 rfl rfl ?_
      refine q_iload_n hK 2 dX9_mode_44 rfl rfl ?_
      refine q_iadd hK dX9_mode_45 ?_
      rw [nI_add]
      have hr' : ∀ i, i ≤ gN σ → hasA (F' 12) (6 * i) (gNt σ i) 24 := fun i hi => by rw [z2 12 (by decide)]; exact n3 i hi
      refine q_cVv1 hK dX9_mode_46 lX9_193 (by decide) (by decide) rfl (Nat.le_of_ble_eq_true rfl) (m_noteAt (n := gN σ) (nt := gNt σ) (by rw [z1 18 (by decide)]; exact n1) (by omega) n2 (by omega) hr' (fun f hf5 => ?_))
      refine q_aload_n hK 0 dX9_mode_49 rfl rfl ?_
      refine q_aload_n hK 0 dX9_mode_50 rfl rfl ?_
      refine q_getf hK dX9_mode_51 fX9_45 (by decide) rfl rfl ?_
      refine q_bipush (v := nI 6) hK dX9_mode_54 (by decide) ?_
      refine q_iload_n hK 1 dX9_mode_56 rfl rfl ?_
      refine q_imul hK dX9_mode_57 ?_
      rw [show nI 6 * nI ii = nI (6 * ii) from pk_mul 6 ii]
      refine q_cVv2 hK dX9_mode_58 lX9_93 (by decide) (by decide) rfl (Nat.le_of_ble_eq_true rfl) (m_less (n := 12) (a := 6 * ii) rfl (by decide) (by show 6 * ii + 6 ≤ 150; omega) (fun f2 hf2 => ?_))
      rw [up_up]
      have hbd := ntA_bd (f := F' 12) (i := ii + m) (n := gN σ) (nt := gNt σ) (by omega) (by omega) hr'
      have he : hasX (va_up F' 5 f2 5) (stV (gN σ) (gNt σ) m ii) := fun j hj => by
        have b1 := hbd j hj
        have b2 := hr' ii (by omega) j hj
        rw [up_same, hf2 j hj, up_same, hf5 j hj, up_ne (by decide), b2.1, jI_sub]
        exact ⟨rfl, by unfold stV; omega, by unfold stV; omega⟩
      refine q_aload_n hK 0 dX9_mode_61 rfl rfl ?_
      refine q_cVi0 hK dX9_mode_62 lX9_100 (by decide) (by decide) rfl (Nat.le_of_ble_eq_true rfl) (m_isFar ?_)
      rw [farN_V (by decide) he]
      refine q_if_eq hK 74 dX9_mode_65 (by decide) (fun c65 => ?_) (fun c65 => ?_)
      rotate_left
      · have hff := (b2i_ne0 _).mp c65
        simp only [farM_true hff (m := gN σ) (by omega), if_true] at h
        refine q_aload_n hK 0 dX9_mode_68 rfl rfl ?_
        refine q_iconst (v := nI 4) hK dX9_mode_69 (by decide) ?_
        refine q_cVi1 hK dX9_mode_70 lX9_104 (by decide) (by decide) rfl (Nat.le_of_ble_eq_true rfl) (m_ref (by decide) (by decide) ?_)
        exact q_iret hR dX9_mode_73 rfl ⟨_, rfl, h _ _ _ ((hI.scr z1 (z2.up (k := 5) (v := f2) (by decide))).st 4)⟩
      have hff := (b2i_eq0 _).mp c65
      have hnr := farV_false.mp hff
      refine q_aload_n hK 0 dX9_mode_74 rfl rfl ?_
      refine q_aload_n hK 0 dX9_mode_75 rfl rfl ?_
      refine q_getf hK dX9_mode_76 fX9_48 (by decide) rfl rfl ?_
      refine q_bipush (v := nI 6) hK dX9_mode_79 (by decide) ?_
      refine q_iload_n hK 2 dX9_mode_81 rfl rfl ?_
      refine q_imul hK dX9_mode_82 ?_
      rw [show nI 6 * nI m = nI (6 * m) from pk_mul 6 m]
      refine q_cVv2 hK dX9_mode_83 lX9_108 (by decide) (by decide) rfl (Nat.le_of_ble_eq_true rfl) (m_give (n := 13) (a := 6 * m) rfl (by decide) (by show 6 * m + 6 ≤ 150; omega) (fun f13 g1 g2 => ?_))
      refine q_inc1 hK dX9_mode_86 rfl (by decide) ?_
      refine q_goto hK 34 dX9_mode_89 (by decide) ?_
      refine ih (m + 1) Z' _ (by omega) (by simp [farM, hf, hff]) z1 ((z2.up (by decide)).up (by decide)) (fun a ha k hk => ?_)
      rw [up_same]
      by_cases e : a = m
      · rw [e, g1 k hk]
        exact ⟨(he k hk).1, (hnr k hk).1, (hnr k hk).2⟩
      · rw [g2 _ (by omega), up_ne (by decide)]
        exact z3 a (by omega) k hk
  exact loop (gN σ) 0 Z F (by omega) rfl eqo.rf eqo.rf (fun a ha => by omega)
end M14
