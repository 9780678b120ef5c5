-- ===== greatest common divisor, factors
theorem prI_N : ∀ k, k < 6 → prI k = nI (prN k) := by decide
section B3
variable {X : Cx} {own : String} {cc : ByteArray} {nL d : Nat} {K : KT} {Z : Nat → Int32} {V : Nat → Int64} {P : Nat → Nat → Nat} {F : Nat → Nat → Int32} {L : Nat → Nat → Int64} {g : Mem} {pc : Nat} {vs : Lv} {st : List Value}
theorem q_pr (hK : Cl X own cc nL d K) {k : Nat} (hd : decode cc pc = .ok (.iaload, 1)) (hk : k < 6) (h : K g (pc + 1) vs (.int (nI (prN k)) :: st)) : K g pc vs (.int (nI k) :: .ref X.2.2.2.2.1 :: st) := by
  refine q_ialdP hK hd (vp_in_nI hk (by decide)) ?_
  rw [nI_clamp (by omega), prI_N k hk]
  exact h
theorem gcd_half {x y t : Nat} (hy : 0 < y) (hx : y < x) (h : x * y < 2 ^ (t + 1)) : y * (x % y) < 2 ^ t := by
  have h1 := Nat.div_add_mod x y
  have h2 : x % y < y := Nat.mod_lt _ hy
  have h3 : 1 ≤ x / y := Nat.div_pos (by omega) hy
  have h4 : y * 1 ≤ y * (x / y) := Nat.mul_le_mul_left _ h3
  have h5 : y * (x % y + x % y + 1) ≤ y * x := Nat.mul_le_mul_left _ (by omega)
  rw [Nat.mul_add, Nat.mul_add, Nat.mul_comm y x] at h5
  rw [Nat.pow_succ] at h
  generalize y * (x % y) = z at *
  generalize x * y = zz at *
  omega
theorem b_commonDivisor {x y : Nat} {Q : Int64 → Mem → Prop} (hx : x < 2 ^ 63) (hy : y < 2 ^ 63) (h : Q (lN (Nat.gcd x y)) g) : CallL X 1 yX5_commonDivisor [.long (lN x), .long (lN y)] g Q := by
  have labn : ∀ z, z < 2 ^ 63 → lab (lN z) = lN z := by
    intro z hz
    refine if_neg (Int64.not_lt.mpr ?_)
    exact (pk_lLE (a := 0) (by decide) hz).mpr (Nat.zero_le _)
  refine CallM_intro (own := RX5) [some (.long (lN x)), none, some (.long (lN y)), none, none, none, none, none, none, none, none] wX5_commonDivisor (by decide) (by decide) rfl (Nat.le_of_ble_eq_true rfl) rfl (fun K hK hR => ?_)
  refine q_lload_n hK 0 dX5_commonDivisor_0 rfl rfl ?_
  refine q_cSl1 hK dX5_commonDivisor_1 lX5_29 (by decide) (Nat.le_of_ble_eq_true rfl) (j_abs ?_)
  rw [labn x hx]
  refine q_lstore hK dX5_commonDivisor_4 (by decide) ?_
  refine q_lload_n hK 2 dX5_commonDivisor_6 rfl rfl ?_
  refine q_cSl1 hK dX5_commonDivisor_7 lX5_29 (by decide) (Nat.le_of_ble_eq_true rfl) (j_abs ?_)
  rw [labn y hy]
  refine q_lstore hK dX5_commonDivisor_10 (by decide) ?_
  refine q_iconst (v := nI 0) hK dX5_commonDivisor_12 (by decide) ?_
  refine q_istore hK dX5_commonDivisor_13 (by decide) ?_
  have loop : ∀ m i a b v9 v10, i + m = 128 → b < a → a < 2 ^ 63 → a * b < 2 ^ m → Nat.gcd a b = Nat.gcd x y → K g 15 [some (.long (lN x)), none, some (.long (lN y)), none, some (.long (lN a)), none, some (.long (lN b)), none, some (.int (nI i)), v9, v10] [] := by
    intro m
    induction m with
    | zero =>
      intro i a b v9 v10 hi hba ha hm hg
      have hb : b = 0 := by
        rcases Nat.eq_zero_or_pos b with z | z
        · exact z
        · have := Nat.mul_pos (by omega : 0 < a) z
          omega
      subst hb
      rw [Nat.gcd_zero_right] at hg
      rw [← hg] at h
      refine q_iload hK dX5_commonDivisor_15 rfl ?_
      refine q_sipush (v := nI 128) hK dX5_commonDivisor_17 (by decide) ?_
      refine q_icmp_ge hK 51 dX5_commonDivisor_20 (by decide) (fun c20 => ?_) (fun c20 => ?_)
      · refine q_lload hK dX5_commonDivisor_51 rfl ?_
        exact q_lret hR dX5_commonDivisor_53 ⟨_, rfl, h⟩
      · exact absurd ((nI_leI (by decide) (by omega)).mpr (by omega)) c20
    | succ m ih =>
      intro i a b v9 v10 hi hba ha hm hg
      refine q_iload hK dX5_commonDivisor_15 rfl ?_
      refine q_sipush (v := nI 128) hK dX5_commonDivisor_17 (by decide) ?_
      refine q_icmp_ge hK 51 dX5_commonDivisor_20 (by decide) (fun c20 => ?_) (fun c20 => ?_)
      · have := (nI_leI (by decide) (by omega)).mp c20
        omega
      refine q_lload hK dX5_commonDivisor_23 rfl ?_
      refine q_lconst (v := 0) hK dX5_commonDivisor_25 (by decide) ?_
      refine q_lcmp hK dX5_commonDivisor_26 ?_
      refine q_if_eq hK 51 dX5_commonDivisor_27 (by decide) (fun c27 => ?_) (fun c27 => ?_)
      · have hb : b = 0 := (pk_lEQ (b := 0) (by omega) (by decide)).mp ((lg_cmp_eq _ _).mp c27)
        subst hb
        rw [Nat.gcd_zero_right] at hg
        rw [← hg] at h
        refine q_lload hK dX5_commonDivisor_51 rfl ?_
        exact q_lret hR dX5_commonDivisor_53 ⟨_, rfl, h⟩
      · have hb : b ≠ 0 := fun z => c27 ((lg_cmp_eq _ _).mpr (by rw [z]; rfl))
        have hmod : a % b < b := Nat.mod_lt _ (by omega)
        refine q_lload hK dX5_commonDivisor_30 rfl ?_
        refine q_lload hK dX5_commonDivisor_32 rfl ?_
        refine q_lrem hK dX5_commonDivisor_34 (fun z => hb ((pk_lEQ (b := 0) (by omega) (by decide)).mp z)) ?_
        rw [pk_lRem (by omega) (by omega) (by omega)]
        refine q_lstore hK dX5_commonDivisor_35 (by decide) ?_
        refine q_lload hK dX5_commonDivisor_37 rfl ?_
        refine q_lstore hK dX5_commonDivisor_39 (by decide) ?_
        refine q_lload hK dX5_commonDivisor_41 rfl ?_
        refine q_lstore hK dX5_commonDivisor_43 (by decide) ?_
        refine q_inc1 hK dX5_commonDivisor_45 rfl (by decide) ?_
        refine q_goto hK 15 dX5_commonDivisor_48 (by decide) ?_
        refine ih (i + 1) b (a % b) _ _ (by omega) hmod (by omega) (gcd_half (by omega) hba hm) ?_
        rw [← hg, Nat.gcd_comm a b, Nat.gcd_rec b a, Nat.gcd_comm]
  refine q_iload hK dX5_commonDivisor_15 rfl ?_
  refine q_sipush (v := nI 128) hK dX5_commonDivisor_17 (by decide) ?_
  refine q_icmp_ge hK 51 dX5_commonDivisor_20 (by decide) (fun c20 => ?_) (fun c20 => ?_)
  · exact absurd c20 (by decide)
  refine q_lload hK dX5_commonDivisor_23 rfl ?_
  refine q_lconst (v := 0) hK dX5_commonDivisor_25 (by decide) ?_
  refine q_lcmp hK dX5_commonDivisor_26 ?_
  refine q_if_eq hK 51 dX5_commonDivisor_27 (by decide) (fun c27 => ?_) (fun c27 => ?_)
  · have hb : y = 0 := (pk_lEQ (b := 0) (by omega) (by decide)).mp ((lg_cmp_eq _ _).mp c27)
    subst hb
    rw [Nat.gcd_zero_right] at h
    refine q_lload hK dX5_commonDivisor_51 rfl ?_
    exact q_lret hR dX5_commonDivisor_53 ⟨_, rfl, h⟩
  · have hb : y ≠ 0 := fun z => c27 ((lg_cmp_eq _ _).mpr (by rw [z]; rfl))
    have hmod : x % y < y := Nat.mod_lt _ (by omega)
    refine q_lload hK dX5_commonDivisor_30 rfl ?_
    refine q_lload hK dX5_commonDivisor_32 rfl ?_
    refine q_lrem hK dX5_commonDivisor_34 (fun z => hb ((pk_lEQ (b := 0) (by omega) (by decide)).mp z)) ?_
    rw [pk_lRem (by omega) (by omega) (by omega)]
    refine q_lstore hK dX5_commonDivisor_35 (by decide) ?_
    refine q_lload hK dX5_commonDivisor_37 rfl ?_
    refine q_lstore hK dX5_commonDivisor_39 (by decide) ?_
    refine q_lload hK dX5_commonDivisor_41 rfl ?_
    refine q_lstore hK dX5_commonDivisor_43 (by decide) ?_
    refine q_inc1 hK dX5_commonDivisor_45 rfl (by decide) ?_
    refine q_goto hK 15 dX5_commonDivisor_48 (by decide) ?_
    refine loop 127 1 y (x % y) _ _ rfl hmod hy ?_ ?_
    · refine Nat.lt_of_lt_of_le (Nat.mul_lt_mul_of_lt_of_lt hy (Nat.lt_trans hmod hy)) ?_
      rw [← Nat.pow_add]
      exact Nat.pow_le_pow_right (by decide) (by decide)
    · rw [Nat.gcd_comm x y, Nat.gcd_rec y x, Nat.gcd_comm]
theorem b_factor {t vn vd : Nat} {Q : Int32 → Mem → Prop} (ht : bR t = true) (n1 : 1 ≤ vn) (n2 : vn ≤ 1000000000) (m1 : 1 ≤ vd) (m2 : vd ≤ 1000000000) (h : ∀ f, (∀ k, k < 6 → f k = jI (ratE (vn / Nat.gcd vn vd) (vd / Nat.gcd vn vd) k)) → Q (b2i (decide (upR (vn / Nat.gcd vn vd) 6 = 1) && decide (upR (vd / Nat.gcd vn vd) 6 = 1))) (BB X Z V P (va_up F t f) L g)) : CallI X 2 yX5_factor [.int (nI vn), .int (nI vd), rf X t] (BB X Z V P F L g) Q := by
  have hg1 : 1 ≤ Nat.gcd vn vd := Nat.gcd_pos_of_pos_left _ n1
  have hgn : Nat.gcd vn vd ≤ vn := Nat.gcd_le_left _ n1
  have hgd : Nat.gcd vn vd ≤ vd := Nat.gcd_le_right _ m1
  have hu1 : 1 ≤ vn / Nat.gcd vn vd := Nat.div_pos hgn hg1
  have hl1 : 1 ≤ vd / Nat.gcd vn vd := Nat.div_pos hgd hg1
  have hu2 : vn / Nat.gcd vn vd ≤ vn := Nat.div_le_self _ _
  have hl2 : vd / Nat.gcd vn vd ≤ vd := Nat.div_le_self _ _
  refine CallM_intro (own := RX5) [some (.int (nI vn)), some (.int (nI vd)), some (rf X t), none, none, none, none, none, none, none, none, none] wX5_factor (by decide) (by decide) rfl (Nat.le_of_ble_eq_true rfl) rfl (fun K hK hR => ?_)
  refine q_iload_n hK 0 dX5_factor_0 rfl rfl ?_
  refine q_i2l hK dX5_factor_1 ?_
  refine q_iload_n hK 1 dX5_factor_2 rfl rfl ?_
  refine q_i2l hK dX5_factor_3 ?_
  rw [nI_l (by omega), nI_l (by omega)]
  refine q_cSl2 hK dX5_factor_4 lX5_21 (by decide) (Nat.le_of_ble_eq_true rfl) (b_commonDivisor (by omega) (by omega) ?_)
  generalize hG : Nat.gcd vn vd = G at *
  refine q_lstore_n hK 3 dX5_factor_7 rfl (by decide) ?_
  refine q_lload_n hK 3 dX5_factor_8 rfl rfl ?_
  refine q_lconst (v := 1) hK dX5_factor_9 (by decide) ?_
  refine q_lcmp hK dX5_factor_10 ?_
  refine q_if_ge hK 16 dX5_factor_11 (by decide) (fun c11 => ?_) (fun c11 => ?_)
  rotate_left
  · exact absurd ((lg_cmp_ge _ _).mpr ((pk_lLE (a := 1) (by decide) (by omega)).mpr hg1)) c11
  refine q_iload_n hK 0 dX5_factor_16 rfl rfl ?_
  refine q_i2l hK dX5_factor_17 ?_
  refine q_lload_n hK 3 dX5_factor_18 rfl rfl ?_
  refine q_ldiv hK dX5_factor_19 (fun z => by have := (pk_lEQ (b := 0) (by omega) (by decide)).mp z; omega) ?_
  rw [nI_l (by omega), pk_lDiv (by omega) (by omega) (by omega)]
  refine q_lstore hK dX5_factor_20 (by decide) ?_
  refine q_iload_n hK 1 dX5_factor_22 rfl rfl ?_
  refine q_i2l hK dX5_factor_23 ?_
  refine q_lload_n hK 3 dX5_factor_24 rfl rfl ?_
  refine q_ldiv hK dX5_factor_25 (fun z => by have := (pk_lEQ (b := 0) (by omega) (by decide)).mp z; omega) ?_
  rw [nI_l (by omega), pk_lDiv (by omega) (by omega) (by omega)]
  refine q_lstore hK dX5_factor_26 (by decide) ?_
  refine q_iconst (v := nI 0) hK dX5_factor_28 (by decide) ?_
  refine q_istore hK dX5_factor_29 (by decide) ?_
  generalize hU : vn / G = U at *
  generalize hV : vd / G = W at *
  have main : ∀ m k f v10 v11, k + m = 6 → (∀ j, j < k → f j = jI (ratE U W j)) → K (BB X Z V P (va_up F t f) L g) 31 [some (.int (nI vn)), some (.int (nI vd)), some (rf X t), some (.long (lN G)), none, some (.long (lN (upR U k))), none, some (.long (lN (upR W k))), none, some (.int (nI k)), v10, v11] [] := by
    intro m
    induction m with
    | zero =>
      intro k f v10 v11 hk hf
      have : k = 6 := by omega
      subst this
      have ub := upR_bd hu1 6
      have lb := upR_bd hl1 6
      have h := h f hf
      refine q_iload hK dX5_factor_31 rfl ?_
      refine q_bipush (v := nI 6) hK dX5_factor_33 (by decide) ?_
      refine q_icmp_ge hK 145 dX5_factor_35 (by decide) (fun c35 => ?_) (fun c35 => ?_)
      rotate_left
      · exact absurd ((nI_leI (by decide) (by decide)).mpr (by decide)) c35
      refine q_lload hK dX5_factor_145 rfl ?_
      refine q_lconst (v := 1) hK dX5_factor_147 (by decide) ?_
      refine q_lcmp hK dX5_factor_148 ?_
      refine q_if_ne hK 163 dX5_factor_149 (by decide) (fun c149 => ?_) (fun c149 => ?_)
      · have q : ¬ upR U 6 = 1 := fun z => c149 ((lg_cmp_eq _ _).mpr (by rw [z]; rfl))
        rw [show (decide (upR U 6 = 1) && decide (upR W 6 = 1)) = false by simp [q]] at h
        refine q_iconst (v := nI 0) hK dX5_factor_163 (by decide) ?_
        exact q_iret hR dX5_factor_164 rfl ⟨_, rfl, h⟩
      have q : upR U 6 = 1 := (pk_lEQ (b := 1) (by omega) (by decide)).mp ((lg_cmp_eq _ _).mp c149)
      refine q_lload hK dX5_factor_152 rfl ?_
      refine q_lconst (v := 1) hK dX5_factor_154 (by decide) ?_
      refine q_lcmp hK dX5_factor_155 ?_
      refine q_if_ne hK 163 dX5_factor_156 (by decide) (fun c156 => ?_) (fun c156 => ?_)
      · have q2 : ¬ upR W 6 = 1 := fun z => c156 ((lg_cmp_eq _ _).mpr (by rw [z]; rfl))
        rw [show (decide (upR U 6 = 1) && decide (upR W 6 = 1)) = false by simp [q2]] at h
        refine q_iconst (v := nI 0) hK dX5_factor_163 (by decide) ?_
        exact q_iret hR dX5_factor_164 rfl ⟨_, rfl, h⟩
      have q2 : upR W 6 = 1 := (pk_lEQ (b := 1) (by omega) (by decide)).mp ((lg_cmp_eq _ _).mp c156)
      rw [show (decide (upR U 6 = 1) && decide (upR W 6 = 1)) = true by simp [q, q2]] at h
      refine q_iconst (v := nI 1) hK dX5_factor_159 (by decide) ?_
      refine q_goto hK 164 dX5_factor_160 (by decide) ?_
      exact q_iret hR dX5_factor_164 rfl ⟨_, rfl, h⟩
    | succ m ih =>
      intro k f v10 v11 hk hf
      have ub := upR_bd hu1 k
      have lb := upR_bd hl1 k
      have ub2 := upR_bd hu1 (k + 1)
      have hp := prN_ge k
      have hp13 := prN_le k
      refine q_iload hK dX5_factor_31 rfl ?_
      refine q_bipush (v := nI 6) hK dX5_factor_33 (by decide) ?_
      refine q_icmp_ge hK 145 dX5_factor_35 (by decide) (fun c35 => ?_) (fun c35 => ?_)
      · have := (nI_leI (by decide) (by omega)).mp c35
        omega
      refine q_iconst (v := nI 0) hK dX5_factor_38 (by decide) ?_
      refine q_istore hK dX5_factor_39 (by decide) ?_
      refine q_iconst (v := nI 0) hK dX5_factor_41 (by decide) ?_
      refine q_istore hK dX5_factor_42 (by decide) ?_
      -- below
      have low : ∀ m2 i v c, i + m2 = 64 → 1 ≤ v → v ≤ 1000000000 → c + (vpF (prN k) m2 v).1 = cntR W k → (vpF (prN k) m2 v).2 = upR W (k + 1) → K (BB X Z V P (va_up F t f) L g) 90 [some (.int (nI vn)), some (.int (nI vd)), some (rf X t), some (.long (lN G)), none, some (.long (lN (upR U (k + 1)))), none, some (.long (lN v)), none, some (.int (nI k)), some (.int (jI ((cntR U k : Int) - (c : Int)))), some (.int (nI i))] [] := by
        have fin : ∀ v i, v = upR W (k + 1) → K (BB X Z V P (va_up F t f) L g) 133 [some (.int (nI vn)), some (.int (nI vd)), some (rf X t), some (.long (lN G)), none, some (.long (lN (upR U (k + 1)))), none, some (.long (lN v)), none, some (.int (nI k)), some (.int (jI ((cntR U k : Int) - (cntR W k : Int)))), some (.int i)] [] := by
          intro v i hv
          subst hv
          refine q_aload_n hK 2 dX5_factor_133 rfl rfl ?_
          refine q_iload hK dX5_factor_134 rfl ?_
          refine q_iload hK dX5_factor_136 rfl ?_
          refine qb_iastR hK dX5_factor_138 ht rfl (by omega) ?_
          refine q_inc1 hK dX5_factor_139 rfl (by decide) ?_
          refine q_goto hK 31 dX5_factor_142 (by decide) ?_
          rw [up_up, up_same]
          refine ih (k + 1) _ _ _ (by omega) (fun j hj => ?_)
          by_cases e : j = k
          · rw [e, upd_same]; rfl
          · rw [upd_ne e]; exact hf j (by omega)
        intro m2
        induction m2 with
        | zero =>
          intro i v c hi h1 h2 h3 h4
          have h3' : c + 0 = cntR W k := h3
          rw [show c = cntR W k by omega]
          refine q_iload hK dX5_factor_90 rfl ?_
          refine q_bipush (v := nI 64) hK dX5_factor_92 (by decide) ?_
          refine q_icmp_ge hK 133 dX5_factor_94 (by decide) (fun c94 => ?_) (fun c94 => ?_)
          · exact fin v _ h4
          · exact absurd ((nI_leI (by decide) (by omega)).mpr (by omega)) c94
        | succ m2 ih2 =>
          intro i v c hi h1 h2 h3 h4
          unfold vpF at h3 h4
          refine q_iload hK dX5_factor_90 rfl ?_
          refine q_bipush (v := nI 64) hK dX5_factor_92 (by decide) ?_
          refine q_icmp_ge hK 133 dX5_factor_94 (by decide) (fun c94 => ?_) (fun c94 => ?_)
          · have := (nI_leI (by decide) (by omega)).mp c94
            omega
          refine q_lload hK dX5_factor_97 rfl ?_
          refine q_getsP hK dX5_factor_99 (host := "TuneBench") (by decide) ?_
          refine q_iload hK dX5_factor_102 rfl ?_
          refine q_pr hK dX5_factor_104 (by omega) ?_
          refine q_i2l hK dX5_factor_105 ?_
          rw [nI_l (by omega)]
          refine q_lrem hK dX5_factor_106 (fun z => by have := (pk_lEQ (b := 0) (by omega) (by decide)).mp z; omega) ?_
          rw [pk_lRem (by omega) (by omega) (by omega)]
          have hmod : v % prN k < prN k := Nat.mod_lt _ (by omega)
          refine q_lconst (v := 0) hK dX5_factor_107 (by decide) ?_
          refine q_lcmp hK dX5_factor_108 ?_
          refine q_if_ne hK 133 dX5_factor_109 (by decide) (fun c109 => ?_) (fun c109 => ?_)
          · have hm : ¬ v % prN k = 0 := fun z => c109 ((lg_cmp_eq _ _).mpr (by rw [z]; rfl))
            rw [if_neg hm] at h3 h4
            have h3' : c + 0 = cntR W k := h3
            rw [show c = cntR W k by omega]
            exact fin v _ h4
          · have hm : v % prN k = 0 := (pk_lEQ (b := 0) (by omega) (by decide)).mp ((lg_cmp_eq _ _).mp c109)
            rw [if_pos hm] at h3 h4
            have h3' : c + ((vpF (prN k) m2 (v / prN k)).1 + 1) = cntR W k := h3
            have hdm := Nat.div_add_mod v (prN k)
            have hd1 : 1 ≤ v / prN k := by
              rcases Nat.eq_zero_or_pos (v / prN k) with z | z
              · rw [hm, z] at hdm; omega
              · exact z
            have hd2 : v / prN k ≤ v := Nat.div_le_self _ _
            refine q_lload hK dX5_factor_112 rfl ?_
            refine q_getsP hK dX5_factor_114 (host := "TuneBench") (by decide) ?_
            refine q_iload hK dX5_factor_117 rfl ?_
            refine q_pr hK dX5_factor_119 (by omega) ?_
            refine q_i2l hK dX5_factor_120 ?_
            rw [nI_l (by omega)]
            refine q_ldiv hK dX5_factor_121 (fun z => by have := (pk_lEQ (b := 0) (by omega) (by decide)).mp z; omega) ?_
            rw [pk_lDiv (by omega) (by omega) (by omega)]
            refine q_lstore hK dX5_factor_122 (by decide) ?_
            refine q_iinc hK dX5_factor_124 rfl (show _ = jI ((cntR U k : Int) - ((c + 1 : Nat) : Int)) by rw [jI_add]; congr 1; omega) (by decide) ?_
            refine q_inc1 hK dX5_factor_127 rfl (by decide) ?_
            refine q_goto hK 90 dX5_factor_130 (by decide) ?_
            exact ih2 (i + 1) (v / prN k) (c + 1) (by omega) hd1 (by omega) (by omega) h4
      have upl : ∀ m2 i v c, i + m2 = 64 → 1 ≤ v → v ≤ 1000000000 → c + (vpF (prN k) m2 v).1 = cntR U k → (vpF (prN k) m2 v).2 = upR U (k + 1) → K (BB X Z V P (va_up F t f) L g) 44 [some (.int (nI vn)), some (.int (nI vd)), some (rf X t), some (.long (lN G)), none, some (.long (lN v)), none, some (.long (lN (upR W k))), none, some (.int (nI k)), some (.int (nI c)), some (.int (nI i))] [] := by
        have fin : ∀ v i, v = upR U (k + 1) → K (BB X Z V P (va_up F t f) L g) 87 [some (.int (nI vn)), some (.int (nI vd)), some (rf X t), some (.long (lN G)), none, some (.long (lN v)), none, some (.long (lN (upR W k))), none, some (.int (nI k)), some (.int (nI (cntR U k))), some (.int i)] [] := by
          intro v i hv
          subst hv
          refine q_iconst (v := nI 0) hK dX5_factor_87 (by decide) ?_
          refine q_istore hK dX5_factor_88 (by decide) ?_
          have := low 64 0 (upR W k) 0 rfl lb.1 (by omega) (by rw [Nat.zero_add]; rfl) rfl
          rw [show ((cntR U k : Int) - ((0 : Nat) : Int)) = (cntR U k : Int) by omega, ← jI_nat] at this
          exact this
        intro m2
        induction m2 with
        | zero =>
          intro i v c hi h1 h2 h3 h4
          have h3' : c + 0 = cntR U k := h3
          rw [show c = cntR U k by omega]
          refine q_iload hK dX5_factor_44 rfl ?_
          refine q_bipush (v := nI 64) hK dX5_factor_46 (by decide) ?_
          refine q_icmp_ge hK 87 dX5_factor_48 (by decide) (fun c48 => ?_) (fun c48 => ?_)
          · exact fin v _ h4
          · exact absurd ((nI_leI (by decide) (by omega)).mpr (by omega)) c48
        | succ m2 ih2 =>
          intro i v c hi h1 h2 h3 h4
          unfold vpF at h3 h4
          refine q_iload hK dX5_factor_44 rfl ?_
          refine q_bipush (v := nI 64) hK dX5_factor_46 (by decide) ?_
          refine q_icmp_ge hK 87 dX5_factor_48 (by decide) (fun c48 => ?_) (fun c48 => ?_)
          · have := (nI_leI (by decide) (by omega)).mp c48
            omega
          refine q_lload hK dX5_factor_51 rfl ?_
          refine q_getsP hK dX5_factor_53 (host := "TuneBench") (by decide) ?_
          refine q_iload hK dX5_factor_56 rfl ?_
          refine q_pr hK dX5_factor_58 (by omega) ?_
          refine q_i2l hK dX5_factor_59 ?_
          rw [nI_l (by omega)]
          refine q_lrem hK dX5_factor_60 (fun z => by have := (pk_lEQ (b := 0) (by omega) (by decide)).mp z; omega) ?_
          rw [pk_lRem (by omega) (by omega) (by omega)]
          have hmod : v % prN k < prN k := Nat.mod_lt _ (by omega)
          refine q_lconst (v := 0) hK dX5_factor_61 (by decide) ?_
          refine q_lcmp hK dX5_factor_62 ?_
          refine q_if_ne hK 87 dX5_factor_63 (by decide) (fun c63 => ?_) (fun c63 => ?_)
          · have hm : ¬ v % prN k = 0 := fun z => c63 ((lg_cmp_eq _ _).mpr (by rw [z]; rfl))
            rw [if_neg hm] at h3 h4
            have h3' : c + 0 = cntR U k := h3
            rw [show c = cntR U k by omega]
            exact fin v _ h4
          · have hm : v % prN k = 0 := (pk_lEQ (b := 0) (by omega) (by decide)).mp ((lg_cmp_eq _ _).mp c63)
            rw [if_pos hm] at h3 h4
            have h3' : c + ((vpF (prN k) m2 (v / prN k)).1 + 1) = cntR U k := h3
            have hdm := Nat.div_add_mod v (prN k)
            have hd1 : 1 ≤ v / prN k := by
              rcases Nat.eq_zero_or_pos (v / prN k) with z | z
              · rw [hm, z] at hdm; omega
              · exact z
            have hd2 : v / prN k ≤ v := Nat.div_le_self _ _
            refine q_lload hK dX5_factor_66 rfl ?_
            refine q_getsP hK dX5_factor_68 (host := "TuneBench") (by decide) ?_
            refine q_iload hK dX5_factor_71 rfl ?_
            refine q_pr hK dX5_factor_73 (by omega) ?_
            refine q_i2l hK dX5_factor_74 ?_
            rw [nI_l (by omega)]
            refine q_ldiv hK dX5_factor_75 (fun z => by have := (pk_lEQ (b := 0) (by omega) (by decide)).mp z; omega) ?_
            rw [pk_lDiv (by omega) (by omega) (by omega)]
            refine q_lstore hK dX5_factor_76 (by decide) ?_
            refine q_inc1 hK dX5_factor_78 rfl (by decide) ?_
            refine q_inc1 hK dX5_factor_81 rfl (by decide) ?_
            refine q_goto hK 44 dX5_factor_84 (by decide) ?_
            exact ih2 (i + 1) (v / prN k) (c + 1) (by omega) hd1 (by omega) (by omega) h4
      exact upl 64 0 (upR U k) 0 rfl ub.1 (by omega) (by rw [Nat.zero_add]; rfl) rfl
  have := main 6 0 (F t) none none rfl (fun j hj => by omega)
  rw [up_id] at this
  exact this
end B3
