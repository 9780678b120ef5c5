-- ===== the class's whole numbers
def isNt (o : Nat) : Prop := o = 25 ∨ o = 27
def ntZ (o : Nat) : Nat := if o = 25 then 2 else 3
def ntV (o : Nat) : Nat := if o = 25 then 0 else 1
theorem nt_lt {o : Nat} (h : isNt o) : o < 147 := by rcases h with rfl | rfl <;> decide
theorem nt_bI {o : Nat} (h : isNt o) : bI (o + 1) = true := by rcases h with rfl | rfl <;> rfl
theorem nt_len {o : Nat} (h : isNt o) : blen (o + 1) = 104 := by rcases h with rfl | rfl <;> rfl
section B4
variable {X : Cx} {own : String} {cc : ByteArray} {nL d : Nat} {K : KT} {Z : Nat → Int32} {V : Nat → Int64} {P : Nat → Nat → Nat} {F : Nat → Nat → Int32} {L : Nat → Nat → Int64} {g : Mem} {pc : Nat} {vs : Lv} {st : List Value}
theorem BB_nt {o : Nat} (h : isNt o) : BB X Z V P F L g o = .inr (2, [rf X (o + 1), .int (Z (ntZ o)), .long (V (ntV o))]) := by rcases h with rfl | rfl <;> rfl
theorem qb_putNl {o : Nat} (ho : isNt o) (hK : Cl X own cc nL d K) {v : Int32} {idx : Nat} (hd : decode cc pc = .ok (.putfield idx, 3)) (hF : FP own idx 2 1 .int) (h : K (BB X (va_up Z (ntZ o) v) V P F L g) (pc + 3) vs st) : K (BB X Z V P F L g) pc vs (.int v :: rf X o :: st) := by
  rcases ho with rfl | rfl
  · exact qb_put25_1 hK hd hF h
  · exact qb_put27_1 hK hd hF h
theorem qb_putNw {o : Nat} (ho : isNt o) (hK : Cl X own cc nL d K) {v : Int64} {idx : Nat} (hd : decode cc pc = .ok (.putfield idx, 3)) (hF : FP own idx 2 2 .long) (h : K (BB X Z (va_up V (ntV o) v) P F L g) (pc + 3) vs st) : K (BB X Z V P F L g) pc vs (.long v :: rf X o :: st) := by
  rcases ho with rfl | rfl
  · exact qb_put25_2 hK hd hF h
  · exact qb_put27_2 hK hd hF h
end B4
section B5
variable {X : Cx} {Z : Nat → Int32} {V : Nat → Int64} {P : Nat → Nat → Nat} {F : Nat → Nat → Int32} {L : Nat → Nat → Int64} {g : Mem}
theorem b_settle {o len q : Nat} {w : Nat → Nat} {Q : Mem → Prop} (ho : isNt o) (hz : Z (ntZ o) = nI len) (hv : V (ntV o) = lN q) (hq : 1 ≤ q) (hq2 : q ≤ 7800000000) (hw : nrm w len) (hF : ∀ i, i < len → F (o + 1) i = nI (w i)) (hr : q * bv w len < bB ^ 104)
    (h : ∀ f w' len', nrm w' len' → (∀ i, i < len' → f i = nI (w' i)) → bv w' len' = q * bv w len → Q (BB X (va_up Z (ntZ o) (nI len')) (va_up V (ntV o) 1) P (va_up F (o + 1) f) L g)) : CallV X 0 yX3_settle [rf X o] (BB X Z V P F L g) Q := by
  have hB : bB = 1000000000 := rfl
  have hl := nt_len ho
  have hI := nt_bI ho
  have hm : len ≤ 104 := nrm_room hw (Nat.lt_of_le_of_lt (Nat.le_mul_of_pos_left _ hq) hr)
  have hcl : ∀ k, k ≤ len → crr w q k < q := fun k hk => crr_lt hq (fun i hi => hw.2.1 i (by omega))
  have hval := dgt_val w q len
  refine CallM_intro (own := RX3) [some (rf X o), none, none, none, none, none] wX3_settle (by decide) (by decide) rfl (Nat.le_of_ble_eq_true rfl) rfl (fun K hK hR => ?_)
  refine q_lconst (v := 0) hK dX3_settle_0 (by decide) ?_
  refine q_lstore_n hK 1 dX3_settle_1 rfl (by decide) ?_
  refine q_iconst (v := nI 0) hK dX3_settle_2 (by decide) ?_
  refine q_istore_n hK 3 dX3_settle_3 rfl (by decide) ?_
  have fin : ∀ n w' f c t v4 v5, nrm w' n → (∀ i, i < n → f i = nI (w' i)) → bv w' n = q * bv w len → K (BB X (va_up Z (ntZ o) (nI n)) V P (va_up F (o + 1) f) L g) 115 [some (rf X o), some (.long c), none, some (.int t), v4, v5] [] := by
    intro n w' f c t v4 v5 h1 h2 h3
    refine q_aload_n hK 0 dX3_settle_115 rfl rfl ?_
    refine q_lconst (v := 1) hK dX3_settle_116 (by decide) ?_
    refine qb_putNw ho hK dX3_settle_117 pX3_19 ?_
    exact q_vret hR dX3_settle_120 ⟨rfl, h f w' n h1 h2 h3⟩
  have loop : ∀ m k f v4 v5, k + m = len → (∀ i, i < k → f i = nI (dgt w q i)) → (∀ i, k ≤ i → f i = F (o + 1) i) → K (BB X Z V P (va_up F (o + 1) f) L g) 4 [some (rf X o), some (.long (lN (crr w q k))), none, some (.int (nI k)), v4, v5] [] := by
    intro m
    induction m with
    | zero =>
      intro k f v4 v5 hk hf hg
      have : k = len := by omega
      subst this
      have hC := hcl k (Nat.le_refl k)
      generalize hCe : crr w q k = C at *
      refine q_iload_n hK 3 dX3_settle_4 rfl rfl ?_
      refine q_aload_n hK 0 dX3_settle_5 rfl rfl ?_
      refine q_getf hK dX3_settle_6 fX3_15 (nt_lt ho) (BB_nt ho) rfl ?_
      rw [hz]
      refine q_icmp_ge hK 56 dX3_settle_9 (by decide) (fun c9 => ?_) (fun c9 => ?_)
      rotate_left
      · exact absurd ((nI_leI (by omega) (by omega)).mpr (Nat.le_refl _)) c9
      have hzz : BB X Z V P (va_up F (o + 1) f) L g = BB X (va_up Z (ntZ o) (nI k)) V P (va_up F (o + 1) f) L g := by rw [← hz, up_id]
      refine q_iconst (v := nI 0) hK dX3_settle_56 (by decide) ?_
      refine q_istore_n hK 3 dX3_settle_57 rfl (by decide) ?_
      refine q_iload_n hK 3 dX3_settle_58 rfl rfl ?_
      refine q_iconst (v := nI 2) hK dX3_settle_59 (by decide) ?_
      refine q_icmp_ge hK 115 dX3_settle_60 (by decide) (fun c60 => ?_) (fun c60 => ?_)
      · exact absurd c60 (by decide)
      refine q_lload_n hK 1 dX3_settle_63 rfl rfl ?_
      refine q_lconst (v := 0) hK dX3_settle_64 (by decide) ?_
      refine q_lcmp hK dX3_settle_65 ?_
      refine q_if_eq hK 115 dX3_settle_66 (by decide) (fun c66 => ?_) (fun c66 => ?_)
      · have hc0 : C = 0 := (pk_lEQ (b := 0) (by omega) (by decide)).mp ((lg_cmp_eq _ _).mp c66)
        rw [hc0, Nat.zero_mul, Nat.add_zero] at hval
        rw [hzz]
        refine fin k (dgt w q) f _ _ _ _ ⟨hw.1, fun i _ => dgt_lt w q i, ?_⟩ (fun i hi => hf i hi) hval
        intro qq
        obtain ⟨j, rfl⟩ : ∃ j, k = j + 1 := ⟨k - 1, by have := hw.1; omega⟩
        rw [Nat.add_sub_cancel] at qq
        have b1 := nrm_ge hw
        rw [Nat.add_sub_cancel] at b1
        have b2 := bv_lt (w := dgt w q) (n := j) (fun i _ => dgt_lt w q i)
        have b3 : bv (dgt w q) (j + 1) = bv (dgt w q) j := by rw [bv, qq]; omega
        have b4 : bv w (j + 1) ≤ q * bv w (j + 1) := Nat.le_mul_of_pos_left _ hq
        omega
      have hc0 : C ≠ 0 := fun z => c66 ((lg_cmp_eq _ _).mpr (by rw [z]; rfl))
      have h104 : k < 104 := by
        rcases Nat.lt_or_ge k 104 with z | z
        · exact z
        · have a1 : 1 * bB ^ k ≤ C * bB ^ k := Nat.mul_le_mul_right _ (by omega)
          have a2 : bB ^ 104 ≤ bB ^ k := Nat.pow_le_pow_right (by decide) z
          omega
      refine q_aload_n hK 0 dX3_settle_69 rfl rfl ?_
      refine q_getf hK dX3_settle_70 fX3_15 (nt_lt ho) (BB_nt ho) rfl ?_
      refine q_bipush (v := nI 104) hK dX3_settle_73 (by decide) ?_
      rw [hz]
      refine q_icmp_ge hK 115 dX3_settle_75 (by decide) (fun c75 => ?_) (fun c75 => ?_)
      · have := (nI_leI (by decide) (by omega)).mp c75
        omega
      refine q_aload_n hK 0 dX3_settle_78 rfl rfl ?_
      refine q_getf hK dX3_settle_79 fX3_11 (nt_lt ho) (BB_nt ho) rfl ?_
      refine q_aload_n hK 0 dX3_settle_82 rfl rfl ?_
      refine q_getf hK dX3_settle_83 fX3_15 (nt_lt ho) (BB_nt ho) rfl ?_
      refine q_lload_n hK 1 dX3_settle_86 rfl rfl ?_
      refine q_ldc2 hK dX3_settle_87 nX3_31 ?_
      rw [hz]
      refine q_lrem hK dX3_settle_90 (by decide) ?_
      rw [show lN C - lN C / 1000000000 * 1000000000 = lN (C % 1000000000) from pk_lRem (b := 1000000000) (by omega) (by decide) (by decide)]
      refine q_l2i hK dX3_settle_91 ?_
      rw [lN_i]
      refine qb_iast hK dX3_settle_92 (n := o + 1) (k := k) hI rfl (by rw [hl]; exact h104) ?_
      rw [up_up, up_same]
      refine q_aload_n hK 0 dX3_settle_93 rfl rfl ?_
      refine q_dup hK dX3_settle_94 rfl ?_
      refine q_getf hK dX3_settle_95 fX3_15 (nt_lt ho) (BB_nt ho) rfl ?_
      refine q_iconst (v := nI 1) hK dX3_settle_98 (by decide) ?_
      refine q_iadd hK dX3_settle_99 ?_
      refine qb_putNl ho hK dX3_settle_100 pX3_15 ?_
      refine q_lload_n hK 1 dX3_settle_103 rfl rfl ?_
      refine q_ldc2 hK dX3_settle_104 nX3_31 ?_
      rw [hz, show nI k + nI 1 = nI (k + 1) from nI_add k 1]
      refine q_ldiv hK dX3_settle_107 (by decide) ?_
      rw [show lN C / 1000000000 = lN (C / 1000000000) from pk_lDiv (b := 1000000000) (by omega) (by decide) (by decide)]
      refine q_lstore_n hK 1 dX3_settle_108 rfl (by decide) ?_
      refine q_inc1 hK dX3_settle_109 rfl (by decide) ?_
      refine q_goto hK 58 dX3_settle_112 (by decide) ?_
      have hdm := Nat.div_add_mod C 1000000000
      have hw1 : bv (fun i => if i = k then C % 1000000000 else dgt w q i) (k + 1) = bv (dgt w q) k + C % 1000000000 * bB ^ k := by
        show bv _ k + (if k = k then _ else _) * bB ^ k = _
        rw [if_pos rfl, bv_congr (u := dgt w q) (fun i hi => by simp [show i ≠ k by omega])]
      have hm1 : C % 1000000000 < 1000000000 := Nat.mod_lt _ (by decide)
      refine q_iload_n hK 3 dX3_settle_58 rfl rfl ?_
      refine q_iconst (v := nI 2) hK dX3_settle_59 (by decide) ?_
      refine q_icmp_ge hK 115 dX3_settle_60 (by decide) (fun c60 => ?_) (fun c60 => ?_)
      · exact absurd c60 (by decide)
      refine q_lload_n hK 1 dX3_settle_63 rfl rfl ?_
      refine q_lconst (v := 0) hK dX3_settle_64 (by decide) ?_
      refine q_lcmp hK dX3_settle_65 ?_
      refine q_if_eq hK 115 dX3_settle_66 (by decide) (fun c66 => ?_) (fun c66 => ?_)
      · have hd0 : C / 1000000000 = 0 := (pk_lEQ (b := 0) (by omega) (by decide)).mp ((lg_cmp_eq _ _).mp c66)
        refine fin (k + 1) (fun i => if i = k then C % 1000000000 else dgt w q i) _ _ _ _ _ ⟨by omega, fun i hi => ?_, ?_⟩ (fun i hi => ?_) ?_
        · dsimp only
          split
          · omega
          · exact dgt_lt w q i
        · simp
          omega
        · by_cases e : i = k
          · rw [if_pos e, e, upd_same]
          · rw [if_neg e, upd_ne e, hf i (by omega)]
        · rw [hw1, ← hval]
          congr 2
          omega
      have hd0 : C / 1000000000 ≠ 0 := fun z => c66 ((lg_cmp_eq _ _).mpr (by rw [z]; rfl))
      have h104' : k + 1 < 104 := by
        rcases Nat.lt_or_ge (k + 1) 104 with z | z
        · exact z
        · have a1 : bB * bB ^ k ≤ C * bB ^ k := Nat.mul_le_mul_right _ (by omega)
          have a2 : bB ^ 104 ≤ bB ^ (k + 1) := Nat.pow_le_pow_right (by decide) z
          have a3 : bB ^ (k + 1) = bB * bB ^ k := by rw [Nat.pow_succ, Nat.mul_comm]
          omega
      refine q_aload_n hK 0 dX3_settle_69 rfl rfl ?_
      refine q_getf hK dX3_settle_70 fX3_15 (nt_lt ho) (BB_nt ho) rfl ?_
      refine q_bipush (v := nI 104) hK dX3_settle_73 (by decide) ?_
      rw [up_same]
      refine q_icmp_ge hK 115 dX3_settle_75 (by decide) (fun c75 => ?_) (fun c75 => ?_)
      · have := (nI_leI (by decide) (by omega)).mp c75
        omega
      refine q_aload_n hK 0 dX3_settle_78 rfl rfl ?_
      refine q_getf hK dX3_settle_79 fX3_11 (nt_lt ho) (BB_nt ho) rfl ?_
      refine q_aload_n hK 0 dX3_settle_82 rfl rfl ?_
      refine q_getf hK dX3_settle_83 fX3_15 (nt_lt ho) (BB_nt ho) rfl ?_
      refine q_lload_n hK 1 dX3_settle_86 rfl rfl ?_
      refine q_ldc2 hK dX3_settle_87 nX3_31 ?_
      rw [up_same]
      refine q_lrem hK dX3_settle_90 (by decide) ?_
      rw [show lN (C / 1000000000) - lN (C / 1000000000) / 1000000000 * 1000000000 = lN (C / 1000000000 % 1000000000) from pk_lRem (b := 1000000000) (by omega) (by decide) (by decide)]
      refine q_l2i hK dX3_settle_91 ?_
      rw [lN_i]
      refine qb_iast hK dX3_settle_92 (n := o + 1) (k := k + 1) hI rfl (by rw [hl]; exact h104') ?_
      rw [up_up, up_same]
      refine q_aload_n hK 0 dX3_settle_93 rfl rfl ?_
      refine q_dup hK dX3_settle_94 rfl ?_
      refine q_getf hK dX3_settle_95 fX3_15 (nt_lt ho) (BB_nt ho) rfl ?_
      refine q_iconst (v := nI 1) hK dX3_settle_98 (by decide) ?_
      refine q_iadd hK dX3_settle_99 ?_
      refine qb_putNl ho hK dX3_settle_100 pX3_15 ?_
      refine q_lload_n hK 1 dX3_settle_103 rfl rfl ?_
      refine q_ldc2 hK dX3_settle_104 nX3_31 ?_
      rw [up_same, up_up, show nI (k + 1) + nI 1 = nI (k + 2) from nI_add (k + 1) 1]
      refine q_ldiv hK dX3_settle_107 (by decide) ?_
      refine q_lstore_n hK 1 dX3_settle_108 rfl (by decide) ?_
      refine q_inc1 hK dX3_settle_109 rfl (by decide) ?_
      refine q_goto hK 58 dX3_settle_112 (by decide) ?_
      refine q_iload_n hK 3 dX3_settle_58 rfl rfl ?_
      refine q_iconst (v := nI 2) hK dX3_settle_59 (by decide) ?_
      refine q_icmp_ge hK 115 dX3_settle_60 (by decide) (fun c60 => ?_) (fun c60 => ?_)
      rotate_left
      · exact absurd (show nI 2 ≤ nI (0 + 1 + 1) by decide) c60
      refine fin (k + 2) (fun i => if i = k + 1 then C / 1000000000 else if i = k then C % 1000000000 else dgt w q i) _ _ _ _ _ ⟨by omega, fun i hi => ?_, ?_⟩ (fun i hi => ?_) ?_
      · dsimp only
        split
        · omega
        · split
          · omega
          · exact dgt_lt w q i
      · simp
        omega
      · by_cases e : i = k + 1
        · rw [if_pos e, e, upd_same, Nat.mod_eq_of_lt (by omega)]
        · rw [if_neg e, upd_ne e]
          by_cases e2 : i = k
          · rw [if_pos e2, e2, upd_same]
          · rw [if_neg e2, upd_ne e2, hf i (by omega)]
      · show bv _ (k + 1) + (if k + 1 = k + 1 then _ else _) * bB ^ (k + 1) = _
        rw [if_pos rfl, bv_congr (u := fun i => if i = k then C % 1000000000 else dgt w q i) (fun i hi => by simp [show i ≠ k + 1 by omega]), hw1, ← hval, Nat.add_assoc]
        congr 1
        rw [Nat.pow_succ, ← Nat.mul_assoc, Nat.mul_right_comm, ← Nat.add_mul, hB]
        congr 1
        omega
    | succ m ih =>
      intro k f v4 v5 hk hf hg
      have hwk := hw.2.1 k (by omega)
      have hck := hcl k (by omega)
      have hmul : w k * q ≤ 999999999 * 7800000000 := Nat.mul_le_mul (by omega) hq2
      refine q_iload_n hK 3 dX3_settle_4 rfl rfl ?_
      refine q_aload_n hK 0 dX3_settle_5 rfl rfl ?_
      refine q_getf hK dX3_settle_6 fX3_15 (nt_lt ho) (BB_nt ho) rfl ?_
      rw [hz]
      refine q_icmp_ge hK 56 dX3_settle_9 (by decide) (fun c9 => ?_) (fun c9 => ?_)
      · have := (nI_leI (by omega) (by omega)).mp c9
        omega
      refine q_aload_n hK 0 dX3_settle_12 rfl rfl ?_
      refine q_getf hK dX3_settle_13 fX3_11 (nt_lt ho) (BB_nt ho) rfl ?_
      refine q_iload_n hK 3 dX3_settle_16 rfl rfl ?_
      refine qb_iald hK dX3_settle_17 (n := o + 1) (k := k) hI rfl (by rw [hl]; omega) ?_
      rw [up_same, hg k (Nat.le_refl k), hF k (by omega)]
      refine q_i2l hK dX3_settle_18 ?_
      refine q_aload_n hK 0 dX3_settle_19 rfl rfl ?_
      refine q_getf hK dX3_settle_20 fX3_19 (nt_lt ho) (BB_nt ho) rfl ?_
      refine q_lmul hK dX3_settle_23 ?_
      refine q_lload_n hK 1 dX3_settle_24 rfl rfl ?_
      refine q_ladd hK dX3_settle_25 ?_
      refine q_lstore hK dX3_settle_26 (by decide) ?_
      refine q_lload hK dX3_settle_28 rfl ?_
      refine q_ldc2 hK dX3_settle_30 nX3_31 ?_
      have e2 : (nI (w k)).toInt64 * V (ntV o) + lN (crr w q k) = lN (w k * q + crr w q k) := by
        rw [nI_l (by omega), hv, lN_mul, lN_add]
      have e3 : lN (w k * q + crr w q k) - lN (w k * q + crr w q k) / 1000000000 * 1000000000 = lN (dgt w q k) := pk_lRem (b := 1000000000) (by omega) (by decide) (by decide)
      have e4 : lN (w k * q + crr w q k) / 1000000000 = lN (crr w q (k + 1)) := pk_lDiv (b := 1000000000) (by omega) (by decide) (by decide)
      rw [e2]
      refine q_ldiv hK dX3_settle_33 (by decide) ?_
      refine q_lstore_n hK 1 dX3_settle_34 rfl (by decide) ?_
      refine q_aload_n hK 0 dX3_settle_35 rfl rfl ?_
      refine q_getf hK dX3_settle_36 fX3_11 (nt_lt ho) (BB_nt ho) rfl ?_
      refine q_iload_n hK 3 dX3_settle_39 rfl rfl ?_
      refine q_lload hK dX3_settle_40 rfl ?_
      refine q_lload_n hK 1 dX3_settle_42 rfl rfl ?_
      refine q_ldc2 hK dX3_settle_43 nX3_31 ?_
      refine q_lmul hK dX3_settle_46 ?_
      refine q_lsub hK dX3_settle_47 ?_
      refine q_l2i hK dX3_settle_48 ?_
      rw [e3, lN_i]
      refine qb_iast hK dX3_settle_49 (n := o + 1) (k := k) hI rfl (by rw [hl]; omega) ?_
      refine q_inc1 hK dX3_settle_50 rfl (by decide) ?_
      refine q_goto hK 4 dX3_settle_53 (by decide) ?_
      rw [up_up, up_same, e4]
      refine ih (k + 1) (upd f k (nI (dgt w q k))) _ _ (by omega) (fun i hi => ?_) (fun i hi => ?_)
      · by_cases e : i = k
        · rw [e, upd_same]
        · rw [upd_ne e]
          exact hf i (by omega)
      · rw [upd_ne (by omega)]
        exact hg i (by omega)
  have := loop len 0 (F (o + 1)) none none (by omega) (fun i hi => by omega) (fun i hi => rfl)
  rw [up_id] at this
  exact this
/-- a number of the class holds a value -/
def ntI (o v : Nat) (Z : Nat → Int32) (F : Nat → Nat → Int32) : Prop := ∃ w len, Z (ntZ o) = nI len ∧ nrm w len ∧ (∀ i, i < len → F (o + 1) i = nI (w i)) ∧ bv w len = v
theorem b_build {o n : Nat} {p : Nat → Int} {dir : Int32} {Q : Mem → Prop} (ho : isNt o) (hn : bR n = true) (hp : ∀ k, k < 6 → dir * F n k = jI (p k) ∧ -1000 ≤ p k ∧ p k ≤ 1000) (hr : P6 (fun k => (p k).toNat) < bB ^ 104)
    (h : ∀ Z' V' F', eqo [ntZ o] Z Z' → eqo [o + 1] F F' → ntI o (P6 (fun k => (p k).toNat)) Z' F' → Q (BB X Z' V' P F' L g)) : CallV X 1 yX3_build [rf X o, rf X n, .int dir] (BB X Z V P F L g) Q := by
  have hl := nt_len ho
  have hI := nt_bI ho
  have hno : n ≠ o + 1 := fun z => by
    rcases ho with rfl | rfl <;> rw [z] at hn <;> exact absurd hn (by decide)
  generalize hx : (fun k => (p k).toNat) = x at *
  have hxk : ∀ k, x k = (p k).toNat := fun k => by rw [← hx]
  refine CallM_intro (own := RX3) [some (rf X o), some (rf X n), some (.int dir), none, none, none] wX3_build (by decide) (by decide) rfl (Nat.le_of_ble_eq_true rfl) rfl (fun K hK hR => ?_)
  refine q_aload_n hK 0 dX3_build_0 rfl rfl ?_
  refine q_getf hK dX3_build_1 fX3_11 (nt_lt ho) (BB_nt ho) rfl ?_
  refine q_iconst (v := nI 0) hK dX3_build_4 (by decide) ?_
  refine q_iconst (v := nI 1) hK dX3_build_5 (by decide) ?_
  refine qb_iast hK dX3_build_6 (n := o + 1) (k := 0) hI rfl (by rw [hl]; decide) ?_
  refine q_aload_n hK 0 dX3_build_7 rfl rfl ?_
  refine q_iconst (v := nI 1) hK dX3_build_8 (by decide) ?_
  refine qb_putNl ho hK dX3_build_9 pX3_15 ?_
  refine q_aload_n hK 0 dX3_build_12 rfl rfl ?_
  refine q_lconst (v := 1) hK dX3_build_13 (by decide) ?_
  refine qb_putNw ho hK dX3_build_14 pX3_19 ?_
  refine q_iconst (v := nI 0) hK dX3_build_17 (by decide) ?_
  refine q_istore_n hK 3 dX3_build_18 rfl (by decide) ?_
  have inner : ∀ m k i Z' V' F' q w len, k < 6 → i + m = x k → eqo [ntZ o] Z Z' → eqo [o + 1] F F' → Z' (ntZ o) = nI len → V' (ntV o) = lN q → 1 ≤ q → q ≤ 7800000000 → nrm w len → (∀ j, j < len → F' (o + 1) j = nI (w j)) → q * bv w len = PP x k * prN k ^ i → (∀ Z' V' F' q w len, eqo [ntZ o] Z Z' → eqo [o + 1] F F' → Z' (ntZ o) = nI len → V' (ntV o) = lN q → 1 ≤ q → q ≤ 7800000000 → nrm w len → (∀ j, j < len → F' (o + 1) j = nI (w j)) → q * bv w len = PP x (k + 1) → K (BB X Z' V' P F' L g) 78 [some (rf X o), some (rf X n), some (.int dir), some (.int (nI k)), some (.int (jI (p k))), some (.int (nI (x k)))] []) → K (BB X Z' V' P F' L g) 35 [some (rf X o), some (rf X n), some (.int dir), some (.int (nI k)), some (.int (jI (p k))), some (.int (nI i))] [] := by
    intro m
    induction m with
    | zero =>
      intro k i Z' V' F' q w len hk hi z1 z2 z3 z4 z5 z6 z7 z8 z9 hX
      have hxx := hxk k
      have hpp := (hp k hk).2
      refine q_iload hK dX3_build_35 rfl ?_
      refine q_iload hK dX3_build_37 rfl ?_
      refine q_icmp_ge hK 78 dX3_build_39 (by decide) (fun c39 => ?_) (fun c39 => ?_)
      · have : i = x k := by omega
        subst this
        exact hX Z' V' F' q w len z1 z2 z3 z4 z5 z6 z7 z8 z9
      · rw [jI_nat] at c39
        exact absurd ((jI_le (by omega) (by omega) (by omega) (by omega)).mpr (by omega)) c39
    | succ m ih =>
      intro k i Z' V' F' q w len hk hi z1 z2 z3 z4 z5 z6 z7 z8 z9 hX
      have hxx := hxk k
      have hpp := (hp k hk).2
      have hp13 := prN_le k
      have hp2 := prN_ge k
      refine q_iload hK dX3_build_35 rfl ?_
      refine q_iload hK dX3_build_37 rfl ?_
      refine q_icmp_ge hK 78 dX3_build_39 (by decide) (fun c39 => ?_) (fun c39 => ?_)
      · rw [jI_nat] at c39
        have := (jI_le (by omega) (by omega) (by omega) (by omega)).mp c39
        omega
      have mul : ∀ Z' V' F' q w len, eqo [ntZ o] Z Z' → eqo [o + 1] F F' → Z' (ntZ o) = nI len → V' (ntV o) = lN q → 1 ≤ q → q ≤ 600000000 → nrm w len → (∀ j, j < len → F' (o + 1) j = nI (w j)) → q * bv w len = PP x k * prN k ^ i → K (BB X Z' V' P F' L g) 57 [some (rf X o), some (rf X n), some (.int dir), some (.int (nI k)), some (.int (jI (p k))), some (.int (nI i))] [] := by
        intro Z' V' F' q w len z1 z2 z3 z4 z5 z6 z7 z8 z9
        refine q_aload_n hK 0 dX3_build_57 rfl rfl ?_
        refine q_dup hK dX3_build_58 rfl ?_
        refine q_getf hK dX3_build_59 fX3_19 (nt_lt ho) (BB_nt ho) rfl ?_
        refine q_getsP hK dX3_build_62 (host := "TuneBench") (by decide) ?_
        refine q_iload_n hK 3 dX3_build_65 rfl rfl ?_
        refine q_pr hK dX3_build_66 hk ?_
        refine q_i2l hK dX3_build_67 ?_
        refine q_lmul hK dX3_build_68 ?_
        refine qb_putNw ho hK dX3_build_69 pX3_19 ?_
        refine q_inc1 hK dX3_build_72 rfl (by decide) ?_
        refine q_goto hK 35 dX3_build_75 (by decide) ?_
        rw [z4, nI_l (by omega), lN_mul]
        have hq1 : 1 ≤ q * prN k := Nat.mul_pos z5 (by omega)
        have hq2 : q * prN k ≤ 600000000 * 13 := Nat.mul_le_mul z6 hp13
        refine ih k (i + 1) Z' _ F' (q * prN k) w len hk (by omega) z1 z2 z3 (up_same _ _ _) hq1 (by omega) z7 z8 ?_ hX
        rw [Nat.mul_right_comm, z9, Nat.mul_assoc, ← Nat.pow_succ]
      refine q_aload_n hK 0 dX3_build_42 rfl rfl ?_
      refine q_getf hK dX3_build_43 fX3_19 (nt_lt ho) (BB_nt ho) rfl ?_
      refine q_ldc2 hK dX3_build_46 nX3_23 ?_
      refine q_lcmp hK dX3_build_49 ?_
      rw [z4]
      refine q_if_le hK 57 dX3_build_50 (by decide) (fun c50 => ?_) (fun c50 => ?_)
      · have hq : q ≤ 600000000 := (pk_lLE (by omega) (by decide)).mp ((lg_cmp_le _ _).mp c50)
        exact mul Z' V' F' q w len z1 z2 z3 z4 z5 hq z7 z8 z9
      · have hrr : q * bv w len < bB ^ 104 := by
          rw [z9]
          exact Nat.lt_of_le_of_lt (PP_part x hk (by omega)) hr
        refine q_aload_n hK 0 dX3_build_53 rfl rfl ?_
        refine q_cVv0 hK dX3_build_54 lX3_25 (by decide) (nt_lt ho) (BB_nt ho) (Nat.le_of_ble_eq_true rfl) (b_settle ho z3 z4 z5 z6 z7 z8 hrr (fun f w' len' y1 y2 y3 => ?_))
        refine mul _ _ _ 1 w' len' (z1.up (by simp)) (z2.up (by simp)) (up_same _ _ _) (up_same _ _ _) (Nat.le_refl 1) (by decide) y1 (fun j hj => by rw [up_same]; exact y2 j hj) ?_
        rw [Nat.one_mul, y3, z9]
  have loop : ∀ m k v4 v5 Z' V' F' q w len, k + m = 6 → eqo [ntZ o] Z Z' → eqo [o + 1] F F' → Z' (ntZ o) = nI len → V' (ntV o) = lN q → 1 ≤ q → q ≤ 7800000000 → nrm w len → (∀ j, j < len → F' (o + 1) j = nI (w j)) → q * bv w len = PP x k → K (BB X Z' V' P F' L g) 19 [some (rf X o), some (rf X n), some (.int dir), some (.int (nI k)), v4, v5] [] := by
    intro m
    induction m with
    | zero =>
      intro k v4 v5 Z' V' F' q w len hk z1 z2 z3 z4 z5 z6 z7 z8 z9
      have : k = 6 := by omega
      subst this
      rw [PP_6] at z9
      refine q_iload_n hK 3 dX3_build_19 rfl rfl ?_
      refine q_bipush (v := nI 6) hK dX3_build_20 (by decide) ?_
      refine q_icmp_ge hK 84 dX3_build_22 (by decide) (fun c22 => ?_) (fun c22 => ?_)
      rotate_left
      · exact absurd ((nI_leI (by decide) (by decide)).mpr (by decide)) c22
      refine q_aload_n hK 0 dX3_build_84 rfl rfl ?_
      refine q_cVv0 hK dX3_build_85 lX3_25 (by decide) (nt_lt ho) (BB_nt ho) (Nat.le_of_ble_eq_true rfl) (b_settle ho z3 z4 z5 z6 z7 z8 (by rw [z9]; exact hr) (fun f w' len' y1 y2 y3 => ?_))
      exact q_vret hR dX3_build_88 ⟨rfl, h _ _ _ (z1.up (by simp)) (z2.up (by simp)) ⟨w', len', up_same _ _ _, y1, fun j hj => by rw [up_same]; exact y2 j hj, by rw [y3, z9]⟩⟩
    | succ m ih =>
      intro k v4 v5 Z' V' F' q w len hk z1 z2 z3 z4 z5 z6 z7 z8 z9
      refine q_iload_n hK 3 dX3_build_19 rfl rfl ?_
      refine q_bipush (v := nI 6) hK dX3_build_20 (by decide) ?_
      refine q_icmp_ge hK 84 dX3_build_22 (by decide) (fun c22 => ?_) (fun c22 => ?_)
      · have := (nI_leI (by decide) (by omega)).mp c22
        omega
      refine q_iload_n hK 2 dX3_build_25 rfl rfl ?_
      refine q_aload_n hK 1 dX3_build_26 rfl rfl ?_
      refine q_iload_n hK 3 dX3_build_27 rfl rfl ?_
      refine qb_ialdR hK dX3_build_28 hn rfl (by omega) ?_
      rw [z2 n (by simp; exact hno)]
      refine q_imul hK dX3_build_29 ?_
      rw [(hp k (by omega)).1]
      refine q_istore hK dX3_build_30 (by decide) ?_
      refine q_iconst (v := nI 0) hK dX3_build_32 (by decide) ?_
      refine q_istore hK dX3_build_33 (by decide) ?_
      refine inner (x k) k 0 Z' V' F' q w len (by omega) (by omega) z1 z2 z3 z4 z5 z6 z7 z8 (by rw [Nat.pow_zero, Nat.mul_one]; exact z9) (fun Z' V' F' q w len z1 z2 z3 z4 z5 z6 z7 z8 z9 => ?_)
      refine q_inc1 hK dX3_build_78 rfl (by decide) ?_
      refine q_goto hK 19 dX3_build_81 (by decide) ?_
      exact ih (k + 1) _ _ Z' V' F' q w len (by omega) z1 z2 z3 z4 z5 z6 z7 z8 z9
  refine loop 6 0 none none _ _ _ 1 (fun _ => 1) 1 rfl (eqo.rf.up (by simp)) (eqo.rf.up (by simp)) (up_same _ _ _) (up_same _ _ _) (Nat.le_refl 1) (by decide) ⟨Nat.le_refl 1, fun _ _ => (show 1 < bB by decide), Nat.one_ne_zero⟩ (fun j hj => ?_) (by simp [bv, PP])
  rw [up_same, show j = 0 by omega, upd_same]
/-- 1, 0 or -1 -/
def cmpN (a b : Nat) : Int := if b < a then 1 else if a < b then -1 else 0
theorem b_against {a b : Nat} {Q : Int32 → Mem → Prop} (ha : ntI 25 a Z F) (hb : ntI 27 b Z F) (hr : a < bB ^ 104) (hr2 : b < bB ^ 104) (h : Q (jI (cmpN a b)) (BB X Z V P F L g)) : CallI X 0 yX3_against [rf X 25, rf X 27] (BB X Z V P F L g) Q := by
  obtain ⟨wa, am, a1, h5, a3, rfl⟩ := ha
  obtain ⟨wb, bm, b1, h6, b3, rfl⟩ := hb
  have a1 : Z 2 = nI am := a1
  have b1 : Z 3 = nI bm := b1
  have a3 : ∀ i, i < am → F 26 i = nI (wa i) := a3
  have b3 : ∀ i, i < bm → F 28 i = nI (wb i) := b3
  have ham : am ≤ 104 := nrm_room h5 hr
  have hbm : bm ≤ 104 := nrm_room h6 hr2
  have hB : bB = 1000000000 := rfl
  refine CallM_intro (own := RX3) [some (rf X 25), some (rf X 27), none] wX3_against (by decide) (by decide) rfl (Nat.le_of_ble_eq_true rfl) rfl (fun K hK hR => ?_)
  refine q_aload_n hK 0 dX3_against_0 rfl rfl ?_
  refine q_getf hK dX3_against_1 fX3_15 (by decide) rfl rfl ?_
  refine q_aload_n hK 1 dX3_against_4 rfl rfl ?_
  refine q_getf hK dX3_against_5 fX3_15 (by decide) rfl rfl ?_
  rw [a1, b1]
  refine q_icmp_eq hK 28 dX3_against_8 (by decide) (fun c8 => ?_) (fun c8 => ?_)
  rotate_left
  · have hab : am ≠ bm := fun q => c8 (by rw [q])
    refine q_aload_n hK 0 dX3_against_11 rfl rfl ?_
    refine q_getf hK dX3_against_12 fX3_15 (by decide) rfl rfl ?_
    refine q_aload_n hK 1 dX3_against_15 rfl rfl ?_
    refine q_getf hK dX3_against_16 fX3_15 (by decide) rfl rfl ?_
    rw [a1, b1]
    refine q_icmp_le hK 26 dX3_against_19 (by decide) (fun c19 => ?_) (fun c19 => ?_)
    · have hle := (nI_leI (by omega) (by omega)).mp c19
      have hv := nrm_len h5 h6 (by omega)
      rw [show cmpN (bv wa am) (bv wb bm) = -1 by unfold cmpN; rw [if_neg (by omega), if_pos hv]] at h
      refine q_iconst (v := jI (-1)) hK dX3_against_26 (by decide) ?_
      exact q_iret hR dX3_against_27 rfl ⟨_, rfl, h⟩
    · have hle := mt (nI_leI (a := am) (b := bm) (by omega) (by omega)).mpr c19
      have hv := nrm_len h6 h5 (by omega)
      rw [show cmpN (bv wa am) (bv wb bm) = 1 by unfold cmpN; rw [if_pos hv]] at h
      refine q_iconst (v := nI 1) hK dX3_against_22 (by decide) ?_
      refine q_goto hK 27 dX3_against_23 (by decide) ?_
      exact q_iret hR dX3_against_27 rfl ⟨_, rfl, h⟩
  have hab : am = bm := (nI_eq (by omega) (by omega)).mp c8
  subst hab
  refine q_aload_n hK 0 dX3_against_28 rfl rfl ?_
  refine q_getf hK dX3_against_29 fX3_15 (by decide) rfl rfl ?_
  rw [a1]
  refine q_iconst (v := nI 1) hK dX3_against_32 (by decide) ?_
  refine q_isub hK dX3_against_33 ?_
  refine q_istore_n hK 2 dX3_against_34 rfl (by decide) ?_
  have lp : ∀ m, m ≤ am → (∀ t, m ≤ t → t < am → wa t = wb t) → K (BB X Z V P F L g) 35 [some (rf X 25), some (rf X 27), some (.int (jI ((m : Int) - 1)))] [] := by
    intro m
    induction m with
    | zero =>
      intro hm hq
      refine q_iload_n hK 2 dX3_against_35 rfl rfl ?_
      refine q_if_lt hK 81 dX3_against_36 (by decide) (fun c36 => ?_) (fun c36 => ?_)
      · have hv : bv wa am = bv wb am := bv_congr (fun i hi => hq i (by omega) hi)
        rw [show cmpN (bv wa am) (bv wb am) = 0 by unfold cmpN; rw [hv, if_neg (Nat.lt_irrefl _), if_neg (Nat.lt_irrefl _)]] at h
        refine q_iconst (v := nI 0) hK dX3_against_81 (by decide) ?_
        exact q_iret hR dX3_against_82 rfl ⟨_, rfl, h⟩
      · exact absurd (show jI (((0 : Nat) : Int) - 1) < 0 by decide) c36
    | succ m ih =>
      intro hm hq
      rw [show (((m + 1 : Nat) : Int) - 1) = (m : Int) by omega, ← jI_nat]
      have q1 := h5.2.1 m (by omega)
      have q2 := h6.2.1 m (by omega)
      refine q_iload_n hK 2 dX3_against_35 rfl rfl ?_
      refine q_if_lt hK 81 dX3_against_36 (by decide) (fun c36 => ?_) (fun c36 => ?_)
      · exact absurd c36 (nI_pos (by omega))
      refine q_aload_n hK 0 dX3_against_39 rfl rfl ?_
      refine q_getf hK dX3_against_40 fX3_11 (by decide) rfl rfl ?_
      refine q_iload_n hK 2 dX3_against_43 rfl rfl ?_
      refine qb_iald hK dX3_against_44 (n := 26) (k := m) rfl rfl (by show m < 104; omega) ?_
      refine q_aload_n hK 1 dX3_against_45 rfl rfl ?_
      refine q_getf hK dX3_against_46 fX3_11 (by decide) rfl rfl ?_
      refine q_iload_n hK 2 dX3_against_49 rfl rfl ?_
      refine qb_iald hK dX3_against_50 (n := 28) (k := m) rfl rfl (by show m < 104; omega) ?_
      rw [a3 m (by omega), b3 m (by omega)]
      refine q_icmp_eq hK 75 dX3_against_51 (by decide) (fun c51 => ?_) (fun c51 => ?_)
      · have hw : wa m = wb m := (nI_eq (by omega) (by omega)).mp c51
        refine q_iinc hK dX3_against_75 rfl (show _ = jI ((m : Int) - 1) by rw [jI_nat, jI_add]; rfl) (by decide) ?_
        refine q_goto hK 35 dX3_against_78 (by decide) ?_
        refine ih (by omega) (fun t h1 h2 => ?_)
        by_cases et : t = m
        · rw [et]; exact hw
        · exact hq t (by omega) h2
      · have hw : wa m ≠ wb m := fun q => c51 (by rw [q])
        refine q_aload_n hK 0 dX3_against_54 rfl rfl ?_
        refine q_getf hK dX3_against_55 fX3_11 (by decide) rfl rfl ?_
        refine q_iload_n hK 2 dX3_against_58 rfl rfl ?_
        refine qb_iald hK dX3_against_59 (n := 26) (k := m) rfl rfl (by show m < 104; omega) ?_
        refine q_aload_n hK 1 dX3_against_60 rfl rfl ?_
        refine q_getf hK dX3_against_61 fX3_11 (by decide) rfl rfl ?_
        refine q_iload_n hK 2 dX3_against_64 rfl rfl ?_
        refine qb_iald hK dX3_against_65 (n := 28) (k := m) rfl rfl (by show m < 104; omega) ?_
        rw [a3 m (by omega), b3 m (by omega)]
        refine q_icmp_le hK 73 dX3_against_66 (by decide) (fun c66 => ?_) (fun c66 => ?_)
        · have hle := (nI_leI (by omega) (by omega)).mp c66
          have hv : bv wa am < bv wb am := bv_top (k := m) (by omega) h5.2.1 (fun i a b => hq i (by omega) b) (by omega)
          rw [show cmpN (bv wa am) (bv wb am) = -1 by unfold cmpN; rw [if_neg (by omega), if_pos hv]] at h
          refine q_iconst (v := jI (-1)) hK dX3_against_73 (by decide) ?_
          exact q_iret hR dX3_against_74 rfl ⟨_, rfl, h⟩
        · have hle := mt (nI_leI (a := wa m) (b := wb m) (by omega) (by omega)).mpr c66
          have hv : bv wb am < bv wa am := bv_top (k := m) (by omega) h6.2.1 (fun i a b => (hq i (by omega) b).symm) (by omega)
          rw [show cmpN (bv wa am) (bv wb am) = 1 by unfold cmpN; rw [if_pos hv]] at h
          refine q_iconst (v := nI 1) hK dX3_against_69 (by decide) ?_
          refine q_goto hK 74 dX3_against_70 (by decide) ?_
          exact q_iret hR dX3_against_74 rfl ⟨_, rfl, h⟩
  have hlp := lp am (Nat.le_refl am) (fun t a b => by omega)
  rw [show nI am - nI 1 = jI ((am : Int) - 1) by rw [jI_nat, jI_nat, jI_sub]; rfl]
  exact hlp
end B5
