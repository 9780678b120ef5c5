-- ===== twist, supports, in the class
theorem sel_top {a n : Nat} (h : ∀ i, n ≤ i → ¬ a / 2 ^ i % 2 = 1) : ∀ t, sel a (n + t) = sel a n
  | 0 => rfl
  | t + 1 => by
    rw [show n + (t + 1) = (n + t) + 1 by omega, sel_succ0 (h (n + t) (by omega)), sel_top h t]
theorem sel_pre {a i : Nat} : ∀ t, ∀ j, j < (sel a i).length → (sel a (i + t)).getD j 0 = (sel a i).getD j 0 ∧ j < (sel a (i + t)).length
  | 0, j, hj => ⟨rfl, hj⟩
  | t + 1, j, hj => by
    have := sel_pre t j hj
    by_cases q : a / 2 ^ (i + t) % 2 = 1
    · rw [show i + (t + 1) = (i + t) + 1 by omega, sel_succ1 q, getD_app1 this.2, List.length_append]
      exact ⟨this.1, by omega⟩
    · rw [show i + (t + 1) = (i + t) + 1 by omega, sel_succ0 q]
      exact this
theorem sel_mono {a i t : Nat} : (sel a i).length ≤ (sel a (i + t)).length := by
  rcases Nat.eq_zero_or_pos (sel a i).length with z | z
  · omega
  · have := (sel_pre (a := a) (i := i) t ((sel a i).length - 1) (by omega)).2
    omega
theorem twB_one {R : Nat → Vec} {n a : Nat} : ∀ {f b : Nat}, twB R n a f b 1 = 1
  | 0, b => rfl
  | f + 1, b => by
    unfold twB
    rw [Nat.gcd_one_left, ite_self]
    exact twB_one
section BD
variable {X : Cx} {Z : Nat → Int32} {V : Nat → Int64} {P : Nat → Nat → Nat} {F : Nat → Nat → Int32} {L : Nat → Nat → Int64} {g : Mem}
theorem b_determinant {c a b n : Nat} {R : Nat → Vec} {Q : Int64 → Mem → Prop} (hP : tPo P) (hC : cmI Z F c R) (ha : a < 2 ^ c) (hb : b < 64) (hpa : plen a = n) (hpb : plen b = n) (hn : 1 ≤ n) (h : ∀ V' P' L', tPo P' → eqo [32] P P' → Q (mnr R a b n) (BB X Z V' P' F L' g)) : CallL X 2 yX0_determinant [rf X 30, .int (nI a), .int (nI b), .int (nI n)] (BB X Z V P F L g) Q := by
  obtain ⟨hz, hc5, hrow⟩ := hC
  have ha32 : a < 32 := Nat.lt_of_lt_of_le ha (Nat.pow_le_pow_right (n := 2) (by decide) hc5)
  have hbit : ∀ i, a / 2 ^ i % 2 = 1 → i < c := by
    intro i hi
    rcases Nat.lt_or_ge i c with q | q
    · exact q
    · have : a < 2 ^ i := Nat.lt_of_lt_of_le ha (Nat.pow_le_pow_right (by decide) q)
      rw [Nat.div_eq_of_lt this] at hi
      omega
  have hs5 : sel a 5 = sel a c := by
    have := sel_top (a := a) (n := c) (fun i hi q => by have := hbit i q; omega) (5 - c)
    rw [show c + (5 - c) = 5 by omega] at this
    exact this
  have hla : (sel a c).length = n := by rw [← hpa, ← hs5]; unfold plen; rw [sel56 ha32]
  have hlb : (sel b 6).length = n := hpb
  have hn5 : n ≤ 5 := by rw [← hla, ← hs5]; exact sel_len a 5
  refine CallM_intro (own := RX0) [some (rf X 30), some (.int (nI a)), some (.int (nI b)), some (.int (nI n)), none, none, none, none] wX0_determinant (by decide) (by decide) rfl (Nat.le_of_ble_eq_true rfl) rfl (fun K hK hR => ?_)
  refine q_iconst (v := nI 0) hK dX0_determinant_0 (by decide) ?_
  refine q_istore hK dX0_determinant_1 (by decide) ?_
  refine q_iconst (v := nI 0) hK dX0_determinant_3 (by decide) ?_
  refine q_istore hK dX0_determinant_4 (by decide) ?_
  have loop : ∀ e i L v6 v7, i + e = c → (∀ r, r < (sel a i).length → ∀ k, k < n → L (P 32 r) k = tbM R (sel a 5) (sel b 6) r k) → K (BB X Z V P F L g) 6 [some (rf X 30), some (.int (nI a)), some (.int (nI b)), some (.int (nI n)), some (.int (nI (sel a i).length)), some (.int (nI i)), v6, v7] [] := by
    intro e
    induction e with
    | zero =>
      intro i L v6 v7 hi hL
      have : i = c := by omega
      subst this
      rw [hla] at hL ⊢
      refine q_iload hK dX0_determinant_6 rfl ?_
      refine q_aload_n hK 0 dX0_determinant_8 rfl rfl ?_
      refine q_getf hK dX0_determinant_9 fX0_21 (by decide) rfl rfl ?_
      rw [hz]
      refine q_icmp_ge hK 85 dX0_determinant_12 (by decide) (fun c12 => ?_) (fun c12 => ?_)
      rotate_left
      · exact absurd ((nI_leI (by omega) (by omega)).mpr (by omega)) c12
      refine q_aload_n hK 0 dX0_determinant_85 rfl rfl ?_
      refine q_iload_n hK 3 dX0_determinant_86 rfl rfl ?_
      refine q_iload_n hK 3 dX0_determinant_87 rfl rfl ?_
      refine q_cVi2 hK dX0_determinant_88 lX0_38 (by decide) (by decide) rfl (Nat.le_of_ble_eq_true rfl) (b_eliminate (n := n) (by omega) (by omega) hP hL (fun V2 P2 L2 y1 y2 y3 => ?_))
      have hh := h V2 P2 L2 y1 y2
      have hle := (el_le n n 0 0 1 (tbM R (sel a 5) (sel b 6)) (Nat.zero_le n)).2.1
      refine q_iload_n hK 3 dX0_determinant_91 rfl rfl ?_
      refine q_icmp_ne hK 105 dX0_determinant_92 (by decide) (fun c92 => ?_) (fun c92 => ?_)
      · have hne : ¬ (el n n 0 0 1 (tbM R (sel a 5) (sel b 6))).1 = n := fun z => c92 (by rw [z])
        rw [show mnr R a b n = 0 from if_neg hne] at hh
        refine q_lconst (v := 0) hK dX0_determinant_105 (by decide) ?_
        exact q_lret hR dX0_determinant_106 ⟨_, rfl, hh⟩
      · have heq : (el n n 0 0 1 (tbM R (sel a 5) (sel b 6))).1 = n := (nI_eq (by omega) (by omega)).mp c92
        rw [show mnr R a b n = lab (el n n 0 0 1 (tbM R (sel a 5) (sel b 6))).2.1 from if_pos heq, ← y3] at hh
        refine q_aload_n hK 0 dX0_determinant_95 rfl rfl ?_
        refine q_getf hK dX0_determinant_96 fX0_25 (by decide) rfl rfl ?_
        refine q_cSl1 hK dX0_determinant_99 lX0_70 (by decide) (Nat.le_of_ble_eq_true rfl) (j_abs ?_)
        refine q_goto hK 106 dX0_determinant_102 (by decide) ?_
        exact q_lret hR dX0_determinant_106 ⟨_, rfl, hh⟩
    | succ e ih =>
      intro i L v6 v7 hi hL
      refine q_iload hK dX0_determinant_6 rfl ?_
      refine q_aload_n hK 0 dX0_determinant_8 rfl rfl ?_
      refine q_getf hK dX0_determinant_9 fX0_21 (by decide) rfl rfl ?_
      rw [hz]
      refine q_icmp_ge hK 85 dX0_determinant_12 (by decide) (fun c12 => ?_) (fun c12 => ?_)
      · have := (nI_leI (by omega) (by omega)).mp c12
        omega
      refine q_iload_n hK 1 dX0_determinant_15 rfl rfl ?_
      refine q_iload hK dX0_determinant_16 rfl ?_
      refine q_ishr hK dX0_determinant_18 ?_
      refine q_iconst (v := nI 1) hK dX0_determinant_19 (by decide) ?_
      refine q_iand hK dX0_determinant_20 ?_
      rw [bit_and a (by omega) i (by omega)]
      have hb2 : a / 2 ^ i % 2 < 2 := Nat.mod_lt _ (by decide)
      refine q_if_eq hK 79 dX0_determinant_21 (by decide) (fun c21 => ?_) (fun c21 => ?_)
      · have hb0 : a / 2 ^ i % 2 = 0 := (nI_eq (b := 0) (by omega) (by decide)).mp c21
        have hs := sel_succ0 (v := a) (n := i) (by omega)
        refine q_inc1 hK dX0_determinant_79 rfl (by decide) ?_
        refine q_goto hK 6 dX0_determinant_82 (by decide) ?_
        rw [← hs] at hL ⊢
        exact ih (i + 1) L _ _ (by omega) hL
      have hb1 : a / 2 ^ i % 2 = 1 := by
        have : a / 2 ^ i % 2 ≠ 0 := fun z => c21 (by rw [z]; rfl)
        omega
      have hs := sel_succ1 hb1
      have hlen1 : (sel a (i + 1)).length = (sel a i).length + 1 := by rw [hs, List.length_append]; rfl
      have hget : (sel a 5).getD (sel a i).length 0 = i := by
        have := (sel_pre (a := a) (i := i + 1) (5 - (i + 1)) (sel a i).length (by omega)).1
        rw [show i + 1 + (5 - (i + 1)) = 5 by omega] at this
        rw [this, hs, getD_app2]
      have hlt5 : (sel a i).length < (sel a 5).length := by
        have := sel_mono (a := a) (i := i + 1) (t := 5 - (i + 1))
        rw [show i + 1 + (5 - (i + 1)) = 5 by omega] at this
        omega
      have hl5 := sel_len a 5
      generalize hr : (sel a i).length = r at *
      have hir := hP.1 r (by omega)
      refine q_iconst (v := nI 0) hK dX0_determinant_24 (by decide) ?_
      refine q_istore hK dX0_determinant_25 (by decide) ?_
      refine q_iconst (v := nI 0) hK dX0_determinant_27 (by decide) ?_
      refine q_istore hK dX0_determinant_28 (by decide) ?_
      have cols : ∀ e2 k L, k + e2 = 6 → (∀ q, q < r → ∀ j, j < n → L (P 32 q) j = tbM R (sel a 5) (sel b 6) q j) → (∀ j, j < (sel b k).length → L (P 32 r) j = tbM R (sel a 5) (sel b 6) r j) → K (BB X Z V P F L g) 30 [some (rf X 30), some (.int (nI a)), some (.int (nI b)), some (.int (nI n)), some (.int (nI r)), some (.int (nI i)), some (.int (nI (sel b k).length)), some (.int (nI k))] [] := by
        intro e2
        induction e2 with
        | zero =>
          intro k L hk hL hLr
          have : k = 6 := by omega
          subst this
          rw [hlb] at hLr ⊢
          refine q_iload hK dX0_determinant_30 rfl ?_
          refine q_bipush (v := nI 6) hK dX0_determinant_32 (by decide) ?_
          refine q_icmp_ge hK 76 dX0_determinant_34 (by decide) (fun c34 => ?_) (fun c34 => ?_)
          rotate_left
          · exact absurd ((nI_leI (by decide) (by decide)).mpr (by decide)) c34
          refine q_inc1 hK dX0_determinant_76 rfl (by decide) ?_
          refine q_inc1 hK dX0_determinant_79 rfl (by decide) ?_
          refine q_goto hK 6 dX0_determinant_82 (by decide) ?_
          have := ih (i + 1) L (some (.int (nI n))) (some (.int (nI 6))) (by omega)
          rw [hlen1] at this
          refine this (fun q hq j hj => ?_)
          by_cases z : q = r
          · rw [z]; exact hLr j hj
          · exact hL q (by omega) j hj
        | succ e2 ih2 =>
          intro k L hk hL hLr
          refine q_iload hK dX0_determinant_30 rfl ?_
          refine q_bipush (v := nI 6) hK dX0_determinant_32 (by decide) ?_
          refine q_icmp_ge hK 76 dX0_determinant_34 (by decide) (fun c34 => ?_) (fun c34 => ?_)
          · have := (nI_leI (by decide) (by omega)).mp c34
            omega
          refine q_iload_n hK 2 dX0_determinant_37 rfl rfl ?_
          refine q_iload hK dX0_determinant_38 rfl ?_
          refine q_ishr hK dX0_determinant_40 ?_
          refine q_iconst (v := nI 1) hK dX0_determinant_41 (by decide) ?_
          refine q_iand hK dX0_determinant_42 ?_
          rw [bit_and b hb k (by omega)]
          have hk2 : b / 2 ^ k % 2 < 2 := Nat.mod_lt _ (by decide)
          have hl6 := sel_len b k
          refine q_if_eq hK 70 dX0_determinant_43 (by decide) (fun c43 => ?_) (fun c43 => ?_)
          · have hb0 : b / 2 ^ k % 2 = 0 := (nI_eq (b := 0) (by omega) (by decide)).mp c43
            have hsb := sel_succ0 (v := b) (n := k) (by omega)
            refine q_inc1 hK dX0_determinant_70 rfl (by decide) ?_
            refine q_goto hK 30 dX0_determinant_73 (by decide) ?_
            rw [← hsb] at hLr ⊢
            exact ih2 (k + 1) L (by omega) hL hLr
          have hb1' : b / 2 ^ k % 2 = 1 := by
            have : b / 2 ^ k % 2 ≠ 0 := fun z => c43 (by rw [z]; rfl)
            omega
          have hsb := sel_succ1 hb1'
          have hlenb : (sel b (k + 1)).length = (sel b k).length + 1 := by rw [hsb, List.length_append]; rfl
          have hgetb : (sel b 6).getD (sel b k).length 0 = k := by
            have := (sel_pre (a := b) (i := k + 1) (6 - (k + 1)) (sel b k).length (by omega)).1
            rw [show k + 1 + (6 - (k + 1)) = 6 by omega] at this
            rw [this, hsb, getD_app2]
          have hltb : (sel b k).length < (sel b 6).length := by
            have := sel_mono (a := b) (i := k + 1) (t := 6 - (k + 1))
            rw [show k + 1 + (6 - (k + 1)) = 6 by omega] at this
            omega
          generalize hq : (sel b k).length = q at *
          have hig := hbit i hb1
          refine q_aload_n hK 0 dX0_determinant_46 rfl rfl ?_
          refine q_getf hK dX0_determinant_47 fX0_18 (by decide) rfl rfl ?_
          refine q_iload hK dX0_determinant_50 rfl ?_
          refine qb_aald32 hK dX0_determinant_52 (k := r) rfl (by omega) ?_
          refine q_iload hK dX0_determinant_53 rfl ?_
          refine q_aload_n hK 0 dX0_determinant_55 rfl rfl ?_
          refine q_getf hK dX0_determinant_56 fX0_13 (by decide) rfl rfl ?_
          refine q_iload hK dX0_determinant_59 rfl ?_
          refine qb_aald31 hK dX0_determinant_61 (k := i) rfl (by omega) ?_
          refine q_iload hK dX0_determinant_62 rfl ?_
          refine qb_ialdR hK dX0_determinant_64 (bR_cm (by omega)) rfl (by omega) ?_
          rw [(hrow i hig k (by omega)).1]
          refine q_i2l hK dX0_determinant_65 ?_
          refine qb_last hK dX0_determinant_66 (k := q) hir.1 hir.2 rfl (by omega) ?_
          refine q_inc1 hK dX0_determinant_67 rfl (by decide) ?_
          refine q_inc1 hK dX0_determinant_70 rfl (by decide) ?_
          refine q_goto hK 30 dX0_determinant_73 (by decide) ?_
          have := ih2 (k + 1) (va_up L (P 32 r) (vp_updL (L (P 32 r)) q (jI (R i k)).toInt64)) (by omega)
          rw [hlenb] at this
          refine this (fun t ht j hj => ?_) (fun j hj => ?_)
          · rw [up_ne (fun z => by have := hP.2 t r (by omega) (by omega) z; omega)]
            exact hL t ht j hj
          · rw [up_same]
            unfold vp_updL
            by_cases z : j = q
            · rw [if_pos z, z]
              unfold tbM
              rw [if_pos ⟨by omega, by omega⟩, hget, hgetb]
            · rw [if_neg z]
              exact hLr j (by omega)
      exact cols 6 0 L rfl hL (fun j hj => absurd hj (Nat.not_lt_zero j))
  exact loop c 0 L none none (by omega) (fun r hr => absurd hr (Nat.not_lt_zero r))
theorem b_findTwist {c : Nat} {R : Nat → Vec} {Q : Int64 → Mem → Prop} (hP : tPo P) (hC : cmI Z F c R) (h : ∀ V' P' L', tPo P' → eqo [32] P P' → Q (lN (twv c R)) (BB X Z V' P' F L' g)) : CallL X 3 yX0_findTwist [rf X 30] (BB X Z V P F L g) Q := by
  have hc5 := hC.2.1
  have hc32 : 2 ^ c ≤ 32 := Nat.pow_le_pow_right (n := 2) (by decide) hc5
  have hrk := rkv_le c R
  refine CallM_intro (own := RX0) [some (rf X 30), none, none, none, none, none] wX0_findTwist (by decide) (by decide) rfl (Nat.le_of_ble_eq_true rfl) rfl (fun K hK hR => ?_)
  refine q_aload_n hK 0 dX0_findTwist_0 rfl rfl ?_
  refine q_cVi0 hK dX0_findTwist_1 lX0_42 (by decide) (by decide) rfl (Nat.le_of_ble_eq_true rfl) (b_findRank hP hC (fun V1 P1 L1 x1 x2 => ?_))
  unfold twv at h
  generalize hr : rkv c R = n at *
  refine q_istore_n hK 1 dX0_findTwist_4 rfl (by decide) ?_
  refine q_iload_n hK 1 dX0_findTwist_5 rfl rfl ?_
  refine q_if_ne hK 11 dX0_findTwist_6 (by decide) (fun c6 => ?_) (fun c6 => ?_)
  rotate_left
  · have hn : n = 0 := (nI_eq (b := 0) (by omega) (by decide)).mp c6
    have h := h V1 P1 L1 x1 x2
    rw [if_pos hn] at h
    refine q_lconst (v := 1) hK dX0_findTwist_9 (by decide) ?_
    exact q_lret hR dX0_findTwist_10 ⟨_, rfl, h⟩
  have hn : n ≠ 0 := fun z => c6 (by rw [z]; rfl)
  rw [if_neg hn] at h
  have hmn : ∀ a, a < 2 ^ c → ∀ b, mnr R a b n = lN (mnN R a b n) ∧ mnN R a b n < 2 ^ 62 := by
    intro a ha b
    refine mnr_nat (by omega) (fun i _ hi k hk => ?_)
    have hig : i < c := by
      rcases Nat.lt_or_ge i c with q | q
      · exact q
      · have : a < 2 ^ i := Nat.lt_of_lt_of_le ha (Nat.pow_le_pow_right (by decide) q)
        rw [Nat.div_eq_of_lt this] at hi
        omega
    exact (hC.2.2 i hig k hk).2
  generalize hres : twA R n (2 ^ c) 0 0 = res at h
  refine q_lconst (v := 0) hK dX0_findTwist_11 (by decide) ?_
  refine q_lstore_n hK 2 dX0_findTwist_12 rfl (by decide) ?_
  refine q_iconst (v := nI 0) hK dX0_findTwist_13 (by decide) ?_
  refine q_istore hK dX0_findTwist_14 (by decide) ?_
  have loop : ∀ f a gg V' P' L' v5, a + f = 2 ^ c → gg < 2 ^ 62 → twA R n f a gg = res → tPo P' → eqo [32] P P' → K (BB X Z V' P' F L' g) 16 [some (rf X 30), some (.int (nI n)), some (.long (lN gg)), none, some (.int (nI a)), v5] [] := by
    intro f
    induction f with
    | zero =>
      intro a gg V' P' L' v5 ha hg he y1 y2
      refine q_iload hK dX0_findTwist_16 rfl ?_
      refine q_iconst (v := nI 1) hK dX0_findTwist_18 (by decide) ?_
      refine q_aload_n hK 0 dX0_findTwist_19 rfl rfl ?_
      refine q_getf hK dX0_findTwist_20 fX0_21 (by decide) rfl rfl ?_
      refine q_ishl hK dX0_findTwist_23 ?_
      rw [hC.1, shl_1 c (by omega)]
      refine q_icmp_ge hK 87 dX0_findTwist_24 (by decide) (fun c24 => ?_) (fun c24 => ?_)
      rotate_left
      · exact absurd ((nI_leI (by omega) (by omega)).mpr (by omega)) c24
      rw [← he] at h
      refine q_lload_n hK 2 dX0_findTwist_87 rfl rfl ?_
      exact q_lret hR dX0_findTwist_88 ⟨_, rfl, h V' P' L' y1 y2⟩
    | succ f ih =>
      intro a gg V' P' L' v5 ha hg he y1 y2
      unfold twA at he
      have hp6 := sel_len a 6
      refine q_iload hK dX0_findTwist_16 rfl ?_
      refine q_iconst (v := nI 1) hK dX0_findTwist_18 (by decide) ?_
      refine q_aload_n hK 0 dX0_findTwist_19 rfl rfl ?_
      refine q_getf hK dX0_findTwist_20 fX0_21 (by decide) rfl rfl ?_
      refine q_ishl hK dX0_findTwist_23 ?_
      rw [hC.1, shl_1 c (by omega)]
      refine q_icmp_ge hK 87 dX0_findTwist_24 (by decide) (fun c24 => ?_) (fun c24 => ?_)
      · have := (nI_leI (by omega) (by omega)).mp c24
        omega
      refine q_iconst (v := nI 0) hK dX0_findTwist_27 (by decide) ?_
      refine q_istore hK dX0_findTwist_28 (by decide) ?_
      have cols : ∀ f2 b gg V' P' L', b + f2 = 64 → gg < 2 ^ 62 → twA R n f (a + 1) (if plen a = n then twB R n a f2 b gg else gg) = res → tPo P' → eqo [32] P P' → K (BB X Z V' P' F L' g) 30 [some (rf X 30), some (.int (nI n)), some (.long (lN gg)), none, some (.int (nI a)), some (.int (nI b))] [] := by
        intro f2
        induction f2 with
        | zero =>
          intro b gg V' P' L' hb hg he y1 y2
          have he : twA R n f (a + 1) gg = res := by
            rw [show (if plen a = n then twB R n a 0 b gg else gg) = gg from ite_self gg] at he
            exact he
          refine q_iload hK dX0_findTwist_30 rfl ?_
          refine q_bipush (v := nI 64) hK dX0_findTwist_32 (by decide) ?_
          refine q_icmp_ge hK 81 dX0_findTwist_34 (by decide) (fun c34 => ?_) (fun c34 => ?_)
          rotate_left
          · exact absurd ((nI_leI (by decide) (by omega)).mpr (by omega)) c34
          refine q_inc1 hK dX0_findTwist_81 rfl (by decide) ?_
          refine q_goto hK 16 dX0_findTwist_84 (by decide) ?_
          exact ih (a + 1) gg V' P' L' _ (by omega) hg he y1 y2
        | succ f2 ih2 =>
          intro b gg V' P' L' hb hg he y1 y2
          have hp6b := sel_len b 6
          refine q_iload hK dX0_findTwist_30 rfl ?_
          refine q_bipush (v := nI 64) hK dX0_findTwist_32 (by decide) ?_
          refine q_icmp_ge hK 81 dX0_findTwist_34 (by decide) (fun c34 => ?_) (fun c34 => ?_)
          · have := (nI_leI (by decide) (by omega)).mp c34
            omega
          refine q_lload_n hK 2 dX0_findTwist_37 rfl rfl ?_
          refine q_lconst (v := 1) hK dX0_findTwist_38 (by decide) ?_
          refine q_lcmp hK dX0_findTwist_39 ?_
          refine q_if_eq hK 81 dX0_findTwist_40 (by decide) (fun c40 => ?_) (fun c40 => ?_)
          · have h1 : gg = 1 := (pk_lEQ (b := 1) (by omega) (by decide)).mp ((lg_cmp_eq _ _).mp c40)
            subst h1
            rw [twB_one, ite_self] at he
            refine q_inc1 hK dX0_findTwist_81 rfl (by decide) ?_
            refine q_goto hK 16 dX0_findTwist_84 (by decide) ?_
            exact ih (a + 1) 1 V' P' L' _ (by omega) hg he y1 y2
          unfold twB at he
          refine q_iload hK dX0_findTwist_43 rfl ?_
          refine q_cSi1 hK dX0_findTwist_45 lX0_46 (by decide) (Nat.le_of_ble_eq_true rfl) (j_bitCount (by omega) ?_)
          refine q_iload_n hK 1 dX0_findTwist_48 rfl rfl ?_
          refine q_icmp_ne hK 75 dX0_findTwist_49 (by decide) (fun c49 => ?_) (fun c49 => ?_)
          · have hne : ¬ plen a = n := fun z => c49 (by rw [z])
            rw [if_neg hne] at he
            refine q_inc1 hK dX0_findTwist_75 rfl (by decide) ?_
            refine q_goto hK 30 dX0_findTwist_78 (by decide) ?_
            exact ih2 (b + 1) gg V' P' L' (by omega) hg (by rw [if_neg hne]; exact he) y1 y2
          have hpa : plen a = n := (nI_eq (by unfold plen; omega) (by omega)).mp c49
          rw [if_pos hpa] at he
          refine q_iload hK dX0_findTwist_52 rfl ?_
          refine q_cSi1 hK dX0_findTwist_54 lX0_46 (by decide) (Nat.le_of_ble_eq_true rfl) (j_bitCount (by omega) ?_)
          refine q_iload_n hK 1 dX0_findTwist_57 rfl rfl ?_
          refine q_icmp_ne hK 75 dX0_findTwist_58 (by decide) (fun c58 => ?_) (fun c58 => ?_)
          · have hne : ¬ plen b = n := fun z => c58 (by rw [z])
            rw [if_neg hne] at he
            refine q_inc1 hK dX0_findTwist_75 rfl (by decide) ?_
            refine q_goto hK 30 dX0_findTwist_78 (by decide) ?_
            exact ih2 (b + 1) gg V' P' L' (by omega) hg (by rw [if_pos hpa]; exact he) y1 y2
          have hpb : plen b = n := (nI_eq (by unfold plen; omega) (by omega)).mp c58
          rw [if_pos hpb] at he
          refine q_lload_n hK 2 dX0_findTwist_61 rfl rfl ?_
          refine q_aload_n hK 0 dX0_findTwist_62 rfl rfl ?_
          refine q_iload hK dX0_findTwist_63 rfl ?_
          refine q_iload hK dX0_findTwist_65 rfl ?_
          refine q_iload_n hK 1 dX0_findTwist_67 rfl rfl ?_
          refine q_cVl3 hK dX0_findTwist_68 lX0_52 (by decide) (by decide) rfl (Nat.le_of_ble_eq_true rfl) (b_determinant y1 hC (by omega) (by omega) hpa hpb (by omega) (fun V2 P2 L2 w1 w2 => ?_))
          obtain ⟨m1, m2⟩ := hmn a (by omega) b
          rw [m1]
          refine q_cSl2 hK dX0_findTwist_71 lX0_56 (by decide) (Nat.le_of_ble_eq_true rfl) (b_commonDivisor (by omega) (by omega) ?_)
          refine q_lstore_n hK 2 dX0_findTwist_74 rfl (by decide) ?_
          refine q_inc1 hK dX0_findTwist_75 rfl (by decide) ?_
          refine q_goto hK 30 dX0_findTwist_78 (by decide) ?_
          refine ih2 (b + 1) _ V2 P2 L2 (by omega) ?_ (by rw [if_pos hpa]; exact he) w1 (y2.tr w2)
          rcases Nat.eq_zero_or_pos gg with z | z
          · rw [z, Nat.gcd_zero_left]; exact m2
          · exact Nat.lt_of_le_of_lt (Nat.gcd_le_left _ z) hg
      exact cols 64 0 gg V' P' L' rfl hg he y1 y2
  exact loop (2 ^ c) 0 0 V1 P1 L1 none (by omega) (by decide) hres x1 x2
theorem b_add {c n : Nat} {R : Nat → Vec} {Q : Int32 → Mem → Prop} (hC : cmI Z F c R) (hn : bR n = true) (h0 : c = 5 → Q 0 (BB X Z V P F L g)) (h1 : ∀ f, c < 5 → (∀ k, k < 6 → f k = F n k) → Q 1 (BB X (va_up Z 4 (nI (c + 1))) V P (va_up F (64 + c) f) L g)) : CallI X 2 yX0_add [rf X 30, rf X n] (BB X Z V P F L g) Q := by
  have hc5 := hC.2.1
  refine CallM_intro (own := RX0) [some (rf X 30), some (rf X n)] wX0_add (by decide) (by decide) rfl (Nat.le_of_ble_eq_true rfl) rfl (fun K hK hR => ?_)
  refine q_aload_n hK 0 dX0_add_0 rfl rfl ?_
  refine q_getf hK dX0_add_1 fX0_21 (by decide) rfl rfl ?_
  rw [hC.1]
  refine q_if_lt hK 15 dX0_add_4 (by decide) (fun c4 => ?_) (fun c4 => ?_)
  · exact absurd c4 (nI_pos (by omega))
  refine q_aload_n hK 0 dX0_add_7 rfl rfl ?_
  refine q_getf hK dX0_add_8 fX0_21 (by decide) rfl rfl ?_
  refine q_iconst (v := nI 5) hK dX0_add_11 (by decide) ?_
  rw [hC.1]
  refine q_icmp_lt hK 17 dX0_add_12 (by decide) (fun c12 => ?_) (fun c12 => ?_)
  rotate_left
  · have := mt (nI_ltI (a := c) (b := 5) (by omega) (by decide)).mpr c12
    refine q_iconst (v := nI 0) hK dX0_add_15 (by decide) ?_
    exact q_iret hR dX0_add_16 rfl ⟨_, rfl, h0 (by omega)⟩
  have hlt := (nI_ltI (by omega) (by decide)).mp c12
  refine q_aload_n hK 1 dX0_add_17 rfl rfl ?_
  refine q_aload_n hK 0 dX0_add_18 rfl rfl ?_
  refine q_getf hK dX0_add_19 fX0_13 (by decide) rfl rfl ?_
  refine q_aload_n hK 0 dX0_add_22 rfl rfl ?_
  refine q_getf hK dX0_add_23 fX0_21 (by decide) rfl rfl ?_
  rw [hC.1]
  refine qb_aald31 hK dX0_add_26 (k := c) rfl hlt ?_
  refine q_cSv2 hK dX0_add_27 lX0_29 (by decide) (Nat.le_of_ble_eq_true rfl) (b_copy hn (bR_cm hlt) (fun f hf => ?_))
  refine q_aload_n hK 0 dX0_add_30 rfl rfl ?_
  refine q_dup hK dX0_add_31 rfl ?_
  refine q_getf hK dX0_add_32 fX0_21 (by decide) rfl rfl ?_
  refine q_iconst (v := nI 1) hK dX0_add_35 (by decide) ?_
  refine q_iadd hK dX0_add_36 ?_
  refine qb_put30_2 hK dX0_add_37 pX0_21 ?_
  refine q_iconst (v := nI 1) hK dX0_add_40 (by decide) ?_
  rw [hC.1, show nI c + nI 1 = nI (c + 1) from nI_add c 1]
  exact q_iret hR dX0_add_41 rfl ⟨_, rfl, h1 f hlt hf⟩
theorem b_isSupportedBy {c n : Nat} {R : Nat → Vec} {Q : Int32 → Mem → Prop} (hC : cmI Z F c R) (hn1 : 1 ≤ n) (hn : n ≤ 99) (h : Q (b2i (allZ R n c)) (BB X Z V P F L g)) : CallI X 3 yX0_isSupportedBy [rf X 30, .int (nI n)] (BB X Z V P F L g) Q := by
  obtain ⟨hz, hc5, hrow⟩ := hC
  refine CallM_intro (own := RX0) [some (rf X 30), some (.int (nI n)), none] wX0_isSupportedBy (by decide) (by decide) rfl (Nat.le_of_ble_eq_true rfl) rfl (fun K hK hR => ?_)
  refine q_iconst (v := nI 0) hK dX0_isSupportedBy_0 (by decide) ?_
  refine q_istore_n hK 2 dX0_isSupportedBy_1 rfl (by decide) ?_
  have loop : ∀ m i, i + m = c → allZ R n i = true → K (BB X Z V P F L g) 2 [some (rf X 30), some (.int (nI n)), some (.int (nI i))] [] := by
    intro m
    induction m with
    | zero =>
      intro i hi ha
      have : i = c := by omega
      subst this
      rw [ha] at h
      refine q_iload_n hK 2 dX0_isSupportedBy_2 rfl rfl ?_
      refine q_aload_n hK 0 dX0_isSupportedBy_3 rfl rfl ?_
      refine q_getf hK dX0_isSupportedBy_4 fX0_21 (by decide) rfl rfl ?_
      rw [hz]
      refine q_icmp_ge hK 31 dX0_isSupportedBy_7 (by decide) (fun c7 => ?_) (fun c7 => ?_)
      rotate_left
      · exact absurd ((nI_leI (by omega) (by omega)).mpr (Nat.le_refl _)) c7
      refine q_iconst (v := nI 1) hK dX0_isSupportedBy_31 (by decide) ?_
      exact q_iret hR dX0_isSupportedBy_32 rfl ⟨_, rfl, h⟩
    | succ m ih =>
      intro i hi ha
      have hb6 := stN_bd hn1 hn (fun k hk => (hrow i (by omega) k hk).2) 6 (Nat.le_refl 6)
      refine q_iload_n hK 2 dX0_isSupportedBy_2 rfl rfl ?_
      refine q_aload_n hK 0 dX0_isSupportedBy_3 rfl rfl ?_
      refine q_getf hK dX0_isSupportedBy_4 fX0_21 (by decide) rfl rfl ?_
      rw [hz]
      refine q_icmp_ge hK 31 dX0_isSupportedBy_7 (by decide) (fun c7 => ?_) (fun c7 => ?_)
      · have := (nI_leI (by omega) (by omega)).mp c7
        omega
      refine q_aload_n hK 0 dX0_isSupportedBy_10 rfl rfl ?_
      refine q_getf hK dX0_isSupportedBy_11 fX0_13 (by decide) rfl rfl ?_
      refine q_iload_n hK 2 dX0_isSupportedBy_14 rfl rfl ?_
      refine qb_aald31 hK dX0_isSupportedBy_15 (k := i) rfl (by omega) ?_
      refine q_iload_n hK 1 dX0_isSupportedBy_16 rfl rfl ?_
      refine q_cSi2 hK dX0_isSupportedBy_17 lX0_66 (by decide) (Nat.le_of_ble_eq_true rfl) (b_stepsOf (e := R i) (bR_cm (by omega)) (fun k hk => ⟨(hrow i (by omega) k hk).1, by have := (hrow i (by omega) k hk).2; omega, by have := (hrow i (by omega) k hk).2; omega⟩) hn ?_)
      refine q_if_eq hK 25 dX0_isSupportedBy_20 (by decide) (fun c20 => ?_) (fun c20 => ?_)
      · have q := (jI_eq0 (by omega) (by omega)).mp c20
        refine q_inc1 hK dX0_isSupportedBy_25 rfl (by decide) ?_
        refine q_goto hK 2 dX0_isSupportedBy_28 (by decide) ?_
        exact ih (i + 1) (by omega) (by simp [allZ, ha, q])
      · have q : ¬ stN (R i) n 6 = 0 := fun z => c20 ((jI_eq0 (by omega) (by omega)).mpr z)
        have hall : ∀ t, allZ R n (i + 1 + t) = false := by
          intro t
          induction t with
          | zero => simp [allZ, q]
          | succ t iht =>
            show (allZ R n (i + 1 + t) && _) = false
            rw [iht]
            rfl
        have := hall (c - (i + 1))
        rw [show i + 1 + (c - (i + 1)) = c by omega] at this
        rw [this] at h
        refine q_iconst (v := nI 0) hK dX0_isSupportedBy_23 (by decide) ?_
        exact q_iret hR dX0_isSupportedBy_24 rfl ⟨_, rfl, h⟩
  exact loop c 0 (by omega) rfl
theorem b_firstSupport {c n0 : Nat} {R : Nat → Vec} {Q : Int32 → Mem → Prop} (hC : cmI Z F c R) (hn1 : 1 ≤ n0) (hn : n0 ≤ 99) (h : Q (nI (supF c R (100 - n0) n0)) (BB X Z V P F L g)) : CallI X 4 yX0_firstSupport [rf X 30, .int (nI n0)] (BB X Z V P F L g) Q := by
  refine CallM_intro (own := RX0) [some (rf X 30), some (.int (nI n0)), none] wX0_firstSupport (by decide) (by decide) rfl (Nat.le_of_ble_eq_true rfl) rfl (fun K hK hR => ?_)
  refine q_iload_n hK 1 dX0_firstSupport_0 rfl rfl ?_
  refine q_istore_n hK 2 dX0_firstSupport_1 rfl (by decide) ?_
  generalize hs : supF c R (100 - n0) n0 = res at h
  have loop : ∀ f n, n + f = 100 → 1 ≤ n → supF c R f n = res → K (BB X Z V P F L g) 2 [some (rf X 30), some (.int (nI n0)), some (.int (nI n))] [] := by
    intro f
    induction f with
    | zero =>
      intro n hn hn1 hr
      refine q_iload_n hK 2 dX0_firstSupport_2 rfl rfl ?_
      refine q_bipush (v := nI 99) hK dX0_firstSupport_3 (by decide) ?_
      refine q_icmp_gt hK 24 dX0_firstSupport_5 (by decide) (fun c5 => ?_) (fun c5 => ?_)
      · rw [← hr] at h
        refine q_iconst (v := nI 0) hK dX0_firstSupport_24 (by decide) ?_
        exact q_iret hR dX0_firstSupport_25 rfl ⟨_, rfl, h⟩
      · exact absurd ((nI_ltI (by decide) (by omega)).mpr (by omega)) c5
    | succ f ih =>
      intro n hn hn1 hr
      unfold supF at hr
      refine q_iload_n hK 2 dX0_firstSupport_2 rfl rfl ?_
      refine q_bipush (v := nI 99) hK dX0_firstSupport_3 (by decide) ?_
      refine q_icmp_gt hK 24 dX0_firstSupport_5 (by decide) (fun c5 => ?_) (fun c5 => ?_)
      · have := (nI_ltI (by decide) (by omega)).mp c5
        omega
      refine q_aload_n hK 0 dX0_firstSupport_8 rfl rfl ?_
      refine q_iload_n hK 2 dX0_firstSupport_9 rfl rfl ?_
      refine q_cVi1 hK dX0_firstSupport_10 lX0_62 (by decide) (by decide) rfl (Nat.le_of_ble_eq_true rfl) (b_isSupportedBy hC hn1 (by omega) ?_)
      refine q_if_eq hK 18 dX0_firstSupport_13 (by decide) (fun c13 => ?_) (fun c13 => ?_)
      · rw [(b2i_eq0 _).mp c13] at hr
        refine q_inc1 hK dX0_firstSupport_18 rfl (by decide) ?_
        refine q_goto hK 2 dX0_firstSupport_21 (by decide) ?_
        exact ih (n + 1) (by omega) (by omega) hr
      · rw [(b2i_ne0 _).mp c13] at hr
        rw [← hr] at h
        refine q_iload_n hK 2 dX0_firstSupport_16 rfl rfl ?_
        exact q_iret hR dX0_firstSupport_17 rfl ⟨_, rfl, h⟩
  exact loop (100 - n0) n0 (by omega) hn1 hs
end BD
