-- ===== digits, in the class
theorem lenD_iff {v n : Nat} (h : 1 ≤ v) : n < lenD v ↔ 10 ^ n ≤ v := by
  constructor
  · intro q
    exact Nat.le_trans (Nat.pow_le_pow_right (by decide) (by omega : n ≤ lenD v - 1)) (lenD_ge v h)
  · intro q
    exact (Nat.pow_lt_pow_iff_right (by decide : 1 < 10)).mp (Nat.lt_of_le_of_lt q (lenD_lt v))
theorem lenD_step {v n : Nat} (h : 1 ≤ v) : (n < lenD v) ↔ (n + 1 < lenD v ∨ v / 10 ^ n % 10 ≠ 0) := by
  have h1 : 10 ^ n ≤ v ↔ 1 ≤ v / 10 ^ n := (Nat.one_le_div_iff (Nat.pow_pos (by decide))).symm
  have h2 : 10 ^ (n + 1) ≤ v ↔ 1 ≤ v / 10 ^ (n + 1) := (Nat.one_le_div_iff (Nat.pow_pos (by decide))).symm
  have h3 : v / 10 ^ (n + 1) = v / 10 ^ n / 10 := by rw [Nat.pow_succ, Nat.div_div_eq_div_mul]
  rw [lenD_iff h, lenD_iff h, h1, h2, h3]
  clear h1 h2 h3
  generalize v / 10 ^ n = a
  omega
theorem byte_ok : ∀ v, v < 10 → vp_nar .byte ((nI 48 + nI v).toInt8.toInt32) = nI (48 + v) := by decide
section B8
variable {X : Cx} {Z : Nat → Int32} {V : Nat → Int64} {P : Nat → Nat → Nat} {F : Nat → Nat → Int32} {L : Nat → Nat → Int64} {g : Mem}
theorem b_write {o v fr : Nat} {Q : Int32 → Mem → Prop} (ho : isNt o) (hv : ntI o v Z F) (hv1 : 1 ≤ v) (hr : v < bB ^ 104) (hfr : fr + lenD v ≤ 256) (h : ∀ f, outAt f fr v → (∀ k, k < fr → f k = F 23 k) → Q (nI (fr + lenD v)) (BB X Z V P (va_up F 23 f) L g)) : CallI X 0 yX3_write [rf X o, rf X 23, .int (nI fr)] (BB X Z V P F L g) Q := by
  have hl := nt_len ho
  have hI := nt_bI ho
  have o23 : o + 1 ≠ 23 := by rcases ho with rfl | rfl <;> decide
  obtain ⟨w, len, z1, hw, hF, rfl⟩ := hv
  have hm : len ≤ 104 := nrm_room hw hr
  have hB : bB = 1000000000 := rfl
  have hlt : lenD (bv w len) ≤ 9 * len := lenD_le hv1 (by rw [← bB_pow]; exact nrm_lt hw)
  refine CallM_intro (own := RX3) [some (rf X o), some (rf X 23), some (.int (nI fr)), none, none, none, none, none, none] wX3_write (by decide) (by decide) rfl (Nat.le_of_ble_eq_true rfl) rfl (fun K hK hR => ?_)
  refine q_iload_n hK 2 dX3_write_0 rfl rfl ?_
  refine q_istore_n hK 3 dX3_write_1 rfl (by decide) ?_
  refine q_iconst (v := nI 0) hK dX3_write_2 (by decide) ?_
  refine q_istore hK dX3_write_3 (by decide) ?_
  refine q_aload_n hK 0 dX3_write_5 rfl rfl ?_
  refine q_getf hK dX3_write_6 fX3_15 (nt_lt ho) (BB_nt ho) rfl ?_
  rw [z1]
  refine q_iconst (v := nI 1) hK dX3_write_9 (by decide) ?_
  refine q_isub hK dX3_write_10 ?_
  refine q_istore hK dX3_write_11 (by decide) ?_
  rw [show nI len - nI 1 = jI ((len : Int) - 1) by rw [jI_nat, jI_nat, jI_sub]; rfl]
  -- so many digits are still to come
  have outer : ∀ j f v6 v7 v8, j ≤ len → (∀ i, i < lenD (bv w len) - 9 * j → f (fr + i) = nI (digB (bv w len) i)) → (∀ k, k < fr → f k = F 23 k) → K (BB X Z V P (va_up F 23 f) L g) 13 [some (rf X o), some (rf X 23), some (.int (nI fr)), some (.int (nI (fr + (lenD (bv w len) - 9 * j)))), some (.int (b2i (decide (9 * j < lenD (bv w len))))), some (.int (jI ((j : Int) - 1))), v6, v7, v8] [] := by
    intro j
    induction j with
    | zero =>
      intro f v6 v7 v8 hj hf hg
      refine q_iload hK dX3_write_13 rfl ?_
      refine q_if_lt hK 115 dX3_write_15 (by decide) (fun c15 => ?_) (fun c15 => ?_)
      · refine q_iload_n hK 3 dX3_write_115 rfl rfl ?_
        rw [Nat.mul_zero, Nat.sub_zero] at hf ⊢
        exact q_iret hR dX3_write_116 rfl ⟨_, rfl, h f hf hg⟩
      · exact absurd (show jI (((0 : Nat) : Int) - 1) < 0 by decide) c15
    | succ j ih =>
      intro f v6 v7 v8 hj hf hg
      rw [show (((j + 1 : Nat) : Int) - 1) = (j : Int) by omega, ← jI_nat]
      refine q_iload hK dX3_write_13 rfl ?_
      refine q_if_lt hK 115 dX3_write_15 (by decide) (fun c15 => ?_) (fun c15 => ?_)
      · exact absurd c15 (nI_pos (by omega))
      refine q_ldc hK dX3_write_18 nX3_33 ?_
      refine q_istore hK dX3_write_20 (by decide) ?_
      refine q_iconst (v := nI 0) hK dX3_write_22 (by decide) ?_
      refine q_istore hK dX3_write_23 (by decide) ?_
      rw [show (100000000 : Int32) = nI (10 ^ 9 / 10) from rfl]
      have inner : ∀ e i f v8, i + e = 9 → (∀ t, t < lenD (bv w len) - (9 * j + e) → f (fr + t) = nI (digB (bv w len) t)) → (∀ k, k < fr → f k = F 23 k) → K (BB X Z V P (va_up F 23 f) L g) 25 [some (rf X o), some (rf X 23), some (.int (nI fr)), some (.int (nI (fr + (lenD (bv w len) - (9 * j + e))))), some (.int (b2i (decide (9 * j + e < lenD (bv w len))))), some (.int (nI j)), some (.int (nI (10 ^ e / 10))), some (.int (nI i)), v8] [] := by
        intro e
        induction e with
        | zero =>
          intro i f v8 hi hf hg
          refine q_iload hK dX3_write_25 rfl ?_
          refine q_bipush (v := nI 9) hK dX3_write_27 (by decide) ?_
          refine q_icmp_ge hK 109 dX3_write_29 (by decide) (fun c29 => ?_) (fun c29 => ?_)
          rotate_left
          · exact absurd ((nI_leI (by decide) (by omega)).mpr (by omega)) c29
          refine q_iinc hK dX3_write_109 rfl (show _ = jI ((j : Int) - 1) by rw [jI_nat, jI_add]; rfl) (by decide) ?_
          refine q_goto hK 13 dX3_write_112 (by decide) ?_
          exact ih f _ _ _ (by omega) hf hg
        | succ e ihe =>
          intro i f v8 hi hf hg
          have hu : 10 ^ (e + 1) / 10 = 10 ^ e := by rw [Nat.pow_succ, Nat.mul_div_cancel _ (by decide)]
          have hu1 : 1 ≤ 10 ^ e := Nat.pow_pos (by decide)
          have hu2 : 10 ^ e ≤ 10 ^ 8 := Nat.pow_le_pow_right (by decide) (by omega)
          rw [hu]
          have hwj := hw.2.1 j (by omega)
          have hdig := bv_digit (t := e) (by omega : j < len) (by omega) hw.2.1
          have hst := lenD_step (n := 9 * j + e) hv1
          have hd10 : w j / 10 ^ e % 10 < 10 := Nat.mod_lt _ (by decide)
          rw [hdig] at hst
          refine q_iload hK dX3_write_25 rfl ?_
          refine q_bipush (v := nI 9) hK dX3_write_27 (by decide) ?_
          refine q_icmp_ge hK 109 dX3_write_29 (by decide) (fun c29 => ?_) (fun c29 => ?_)
          · have := (nI_leI (by decide) (by omega)).mp c29
            omega
          refine q_iload hK dX3_write_32 rfl ?_
          refine q_if_le hK 109 dX3_write_34 (by decide) (fun c34 => ?_) (fun c34 => ?_)
          · have := (nI_leI (b := 0) (by omega) (by decide)).mp c34
            omega
          refine q_aload_n hK 0 dX3_write_37 rfl rfl ?_
          refine q_getf hK dX3_write_38 fX3_11 (nt_lt ho) (BB_nt ho) rfl ?_
          refine q_iload hK dX3_write_41 rfl ?_
          refine qb_iald hK dX3_write_43 (n := o + 1) (k := j) hI rfl (by rw [hl]; omega) ?_
          rw [up_ne o23, hF j (by omega)]
          refine q_iload hK dX3_write_44 rfl ?_
          refine q_idiv hK dX3_write_46 (nI_ne0 (by omega) (by omega)) ?_
          rw [pk_div (by omega) (by omega) (by omega)]
          refine q_bipush (v := nI 10) hK dX3_write_47 (by decide) ?_
          refine q_irem hK dX3_write_49 (by decide) ?_
          have hdl : w j / 10 ^ e ≤ w j := Nat.div_le_self _ _
          rw [show nI (w j / 10 ^ e) - nI (w j / 10 ^ e) / nI 10 * nI 10 = nI (w j / 10 ^ e % 10) from pk_rem (by omega) (by decide) (by decide)]
          generalize hdv : w j / 10 ^ e % 10 = dv at *
          -- behind the digit
          have s3 : ∀ f, (∀ t, t < lenD (bv w len) - (9 * j + e) → f (fr + t) = nI (digB (bv w len) t)) → (∀ k, k < fr → f k = F 23 k) → K (BB X Z V P (va_up F 23 f) L g) 96 [some (rf X o), some (rf X 23), some (.int (nI fr)), some (.int (nI (fr + (lenD (bv w len) - (9 * j + e))))), some (.int (b2i (decide (9 * j + e < lenD (bv w len))))), some (.int (nI j)), some (.int (nI (10 ^ e))), some (.int (nI i)), some (.int (nI dv))] [] := by
            intro f hf hg
            refine q_iload hK dX3_write_96 rfl ?_
            refine q_bipush (v := nI 10) hK dX3_write_98 (by decide) ?_
            refine q_idiv hK dX3_write_100 (by decide) ?_
            rw [show nI (10 ^ e) / nI 10 = nI (10 ^ e / 10) from pk_div (by omega) (by decide) (by decide)]
            refine q_istore hK dX3_write_101 (by decide) ?_
            refine q_inc1 hK dX3_write_103 rfl (by decide) ?_
            refine q_goto hK 25 dX3_write_106 (by decide) ?_
            exact ihe (i + 1) f _ (by omega) hf hg
          have s2 : K (BB X Z V P (va_up F 23 f) L g) 67 [some (rf X o), some (rf X 23), some (.int (nI fr)), some (.int (nI (fr + (lenD (bv w len) - (9 * j + (e + 1)))))), some (.int (b2i (decide (9 * j + (e + 1) < lenD (bv w len))))), some (.int (nI j)), some (.int (nI (10 ^ e))), some (.int (nI i)), some (.int (nI dv))] [.int (b2i (decide (9 * j + e < lenD (bv w len))))] := by
            refine q_istore hK dX3_write_67 (by decide) ?_
            refine q_iload hK dX3_write_69 rfl ?_
            refine q_if_eq hK 96 dX3_write_71 (by decide) (fun c71 => ?_) (fun c71 => ?_)
            · have hb : ¬ 9 * j + e < lenD (bv w len) := by simpa using (b2i_eq0 _).mp c71
              have := s3 f (fun t ht => by omega) hg
              rw [show lenD (bv w len) - (9 * j + e) = 0 by omega] at this
              rw [show lenD (bv w len) - (9 * j + (e + 1)) = 0 by omega]
              exact this
            have hb : 9 * j + e < lenD (bv w len) := by simpa using (b2i_ne0 _).mp c71
            generalize hq : lenD (bv w len) - (9 * j + (e + 1)) = q at *
            refine q_iload_n hK 3 dX3_write_74 rfl rfl ?_
            refine q_if_lt hK 96 dX3_write_75 (by decide) (fun c75 => ?_) (fun c75 => ?_)
            · exact absurd c75 (nI_pos (by omega))
            refine q_iload_n hK 3 dX3_write_78 rfl rfl ?_
            refine q_aload_n hK 1 dX3_write_79 rfl rfl ?_
            refine q_alen hK dX3_write_80 (t0 := 2) (v := nI 256) (by decide) rfl rfl rfl ?_
            refine q_icmp_ge hK 96 dX3_write_81 (by decide) (fun c81 => ?_) (fun c81 => ?_)
            · have := (nI_leI (by decide) (by omega)).mp c81
              omega
            refine q_aload_n hK 1 dX3_write_84 rfl rfl ?_
            refine q_iload_n hK 3 dX3_write_85 rfl rfl ?_
            refine q_bipush (v := nI 48) hK dX3_write_86 (by decide) ?_
            refine q_iload hK dX3_write_88 rfl ?_
            refine q_iadd hK dX3_write_90 ?_
            refine q_i2b hK dX3_write_91 ?_
            refine qb_bast hK dX3_write_92 (k := fr + q) rfl (by omega) ?_
            rw [byte_ok dv hd10]
            refine q_inc1 hK dX3_write_93 rfl (by decide) ?_
            rw [up_up, up_same]
            have := s3 (upd f (fr + q) (nI (48 + dv))) (fun t ht => ?_) (fun k hk => by rw [upd_ne (by omega)]; exact hg k hk)
            · rw [show fr + (lenD (bv w len) - (9 * j + e)) = fr + q + 1 by omega] at this
              exact this
            · by_cases et : t = q
              · rw [et, upd_same]
                unfold digB
                rw [show lenD (bv w len) - 1 - q = 9 * j + e by omega, hdig]
              · rw [upd_ne (by omega)]
                exact hf t (by omega)
          refine q_istore hK dX3_write_50 (by decide) ?_
          refine q_iload hK dX3_write_52 rfl ?_
          refine q_if_ne hK 62 dX3_write_54 (by decide) (fun c54 => ?_) (fun c54 => ?_)
          · have hb : 9 * j + (e + 1) < lenD (bv w len) := by simpa using (b2i_ne0 _).mp c54
            rw [show decide (9 * j + e < lenD (bv w len)) = true by simp; omega] at s2
            refine q_iconst (v := nI 1) hK dX3_write_62 (by decide) ?_
            refine q_goto hK 67 dX3_write_63 (by decide) ?_
            exact s2
          have hb : ¬ 9 * j + (e + 1) < lenD (bv w len) := by simpa using (b2i_eq0 _).mp c54
          refine q_iload hK dX3_write_57 rfl ?_
          refine q_if_eq hK 66 dX3_write_59 (by decide) (fun c59 => ?_) (fun c59 => ?_)
          · have hz : dv = 0 := (nI_eq (b := 0) (by omega) (by decide)).mp c59
            rw [show decide (9 * j + e < lenD (bv w len)) = false by simp; omega] at s2
            refine q_iconst (v := nI 0) hK dX3_write_66 (by decide) ?_
            exact s2
          · have hz : dv ≠ 0 := fun z => c59 (by rw [z]; rfl)
            rw [show decide (9 * j + e < lenD (bv w len)) = true by simp; omega] at s2
            refine q_iconst (v := nI 1) hK dX3_write_62 (by decide) ?_
            refine q_goto hK 67 dX3_write_63 (by decide) ?_
            exact s2
      exact inner 9 0 f _ rfl hf hg
  have := outer len (F 23) none none none (Nat.le_refl _) (fun i hi => by omega) (fun k hk => rfl)
  rw [up_id, show lenD (bv w len) - 9 * len = 0 by omega, show decide (9 * len < lenD (bv w len)) = false by simp; omega] at this
  exact this
theorem b_writeRatio {n : Nat} {e : Vec} {Q : Int32 → Mem → Prop} (hn : bR n = true) (he : has6 (F n) e 24) (h : ∀ Z' V' F', eqo [2, 3] Z Z' → eqo [23, 26, 28] F F' → (∀ k, k < lenD (upP e) + 1 + lenD (loP e) → F' 23 k = obs (upP e) (loP e) k) → Q (nI (lenD (upP e) + 1 + lenD (loP e))) (BB X Z' V' P F' L g)) : CallI X 2 yX7_writeRatio [rf X 24, rf X n, rf X 23] (BB X Z V P F L g) Q := by
  have hn26 : n ≠ 26 := fun z => by rw [z] at hn; exact absurd hn (by decide)
  have l108 := P24 (fun k hk => (he k hk).2)
  have b1 : upP e < bB ^ 104 := fits104 (fun k hk => by have := he k hk; show (e k).toNat ≤ 200; omega)
  have b2 : loP e < bB ^ 104 := fits104 (fun k hk => by have := he k hk; show (-e k).toNat ≤ 200; omega)
  refine CallM_intro (own := RX7) [some (rf X 24), some (rf X n), some (rf X 23), none] wX7_writeRatio (by decide) (by decide) rfl (Nat.le_of_ble_eq_true rfl) rfl (fun K hK hR => ?_)
  refine q_aload_n hK 0 dX7_writeRatio_0 rfl rfl ?_
  refine q_getf hK dX7_writeRatio_1 fX7_12 (by decide) rfl rfl ?_
  refine q_aload_n hK 1 dX7_writeRatio_4 rfl rfl ?_
  refine q_iconst (v := nI 1) hK dX7_writeRatio_5 (by decide) ?_
  have up1 : ∀ k, k < 6 → nI 1 * F n k = jI (e k) ∧ -1000 ≤ e k ∧ e k ≤ 1000 := fun k hk => by
    have := he k hk
    exact ⟨by rw [this.1, jI_nat 1, jI_mul]; congr 1; omega, by omega, by omega⟩
  refine q_cVv2 hK dX7_writeRatio_6 lX7_25 (by decide) (by decide) rfl (Nat.le_of_ble_eq_true rfl) (b_build (o := 25) (p := e) (Or.inl rfl) hn up1 b1 (fun Z1 V1 F1 y1 y2 y3 => ?_))
  refine q_aload_n hK 0 dX7_writeRatio_9 rfl rfl ?_
  refine q_getf hK dX7_writeRatio_10 fX7_18 (by decide) rfl rfl ?_
  refine q_aload_n hK 1 dX7_writeRatio_13 rfl rfl ?_
  refine q_iconst (v := jI (-1)) hK dX7_writeRatio_14 (by decide) ?_
  have lo1 : ∀ k, k < 6 → jI (-1) * F1 n k = jI (-e k) ∧ -1000 ≤ -e k ∧ -e k ≤ 1000 := fun k hk => by
    have := he k hk
    exact ⟨by rw [y2 n (by simp; exact hn26), this.1, jI_mul]; congr 1; omega, by omega, by omega⟩
  refine q_cVv2 hK dX7_writeRatio_15 lX7_25 (by decide) (by decide) rfl (Nat.le_of_ble_eq_true rfl) (b_build (o := 27) (p := fun k => -e k) (Or.inr rfl) hn lo1 b2 (fun Z2 V2 F2 z1 z2 z3 => ?_))
  refine q_aload_n hK 0 dX7_writeRatio_18 rfl rfl ?_
  refine q_getf hK dX7_writeRatio_19 fX7_12 (by decide) rfl rfl ?_
  refine q_aload_n hK 2 dX7_writeRatio_22 rfl rfl ?_
  refine q_iconst (v := nI 0) hK dX7_writeRatio_23 (by decide) ?_
  have y3' : ntI 25 (upP e) Z2 F2 := by
    obtain ⟨w, len, a1, a2, a3, a4⟩ := y3
    exact ⟨w, len, by rw [z1 (ntZ 25) (by decide)]; exact a1, a2, fun i hi => by rw [z2 26 (by decide)]; exact a3 i hi, a4⟩
  refine q_cVi2 hK dX7_writeRatio_24 lX7_43 (by decide) (by decide) rfl (Nat.le_of_ble_eq_true rfl) (b_write (o := 25) (fr := 0) (Or.inl rfl) y3' (upP_pos e) b1 (by omega) (fun f1 hf1 _ => ?_))
  rw [Nat.zero_add (lenD (upP e))]
  refine q_istore_n hK 3 dX7_writeRatio_27 rfl (by decide) ?_
  refine q_iload_n hK 3 dX7_writeRatio_28 rfl rfl ?_
  refine q_aload_n hK 2 dX7_writeRatio_29 rfl rfl ?_
  refine q_alen hK dX7_writeRatio_30 (t0 := 2) (v := nI 256) (by decide) rfl rfl rfl ?_
  refine q_icmp_ge hK 42 dX7_writeRatio_31 (by decide) (fun c31 => ?_) (fun c31 => ?_)
  · have := (nI_leI (by decide) (by omega)).mp c31
    omega
  refine q_aload_n hK 2 dX7_writeRatio_34 rfl rfl ?_
  refine q_iload_n hK 3 dX7_writeRatio_35 rfl rfl ?_
  refine q_bipush (v := nI 47) hK dX7_writeRatio_36 (by decide) ?_
  refine qb_bast hK dX7_writeRatio_38 (k := lenD (upP e)) rfl (by omega) ?_
  rw [up_up, up_same, show vp_nar .byte (nI 47) = nI 47 by decide]
  refine q_inc1 hK dX7_writeRatio_39 rfl (by decide) ?_
  refine q_aload_n hK 0 dX7_writeRatio_42 rfl rfl ?_
  refine q_getf hK dX7_writeRatio_43 fX7_18 (by decide) rfl rfl ?_
  refine q_aload_n hK 2 dX7_writeRatio_46 rfl rfl ?_
  refine q_iload_n hK 3 dX7_writeRatio_47 rfl rfl ?_
  have z3' : ntI 27 (loP e) Z2 (va_up F2 23 (upd f1 (lenD (upP e)) (nI 47))) := by
    obtain ⟨w, len, a1, a2, a3, a4⟩ := z3
    exact ⟨w, len, a1, a2, fun i hi => by rw [up_ne (by decide)]; exact a3 i hi, a4⟩
  refine q_cVi2 hK dX7_writeRatio_48 lX7_43 (by decide) (by decide) rfl (Nat.le_of_ble_eq_true rfl) (b_write (o := 27) (fr := lenD (upP e) + 1) (Or.inr rfl) z3' (loP_pos e) b2 (by omega) (fun f2 hf2 hg2 => ?_))
  rw [up_up]
  have ez : eqo [2, 3] Z Z2 := (y1.mono (by decide)).tr (z1.mono (by decide))
  have ef : eqo [23, 26, 28] F (va_up F2 23 f2) := ((y2.mono (by decide)).tr (z2.mono (by decide))).up (by decide)
  have hh := h Z2 V2 _ ez ef (fun k hk => by
    rw [up_same]
    unfold obs
    by_cases e1 : k < lenD (upP e)
    · rw [if_pos e1, hg2 k (by omega), up_same, upd_ne (by omega)]
      have := hf1 k e1
      rw [Nat.zero_add] at this
      exact this
    · rw [if_neg e1]
      by_cases e2 : k = lenD (upP e)
      · rw [if_pos e2, hg2 k (by omega), up_same, e2, upd_same]
      · rw [if_neg e2]
        have := hf2 (k - lenD (upP e) - 1) (by omega)
        rw [show lenD (upP e) + 1 + (k - lenD (upP e) - 1) = k by omega] at this
        exact this)
  exact q_iret hR dX7_writeRatio_51 rfl ⟨_, rfl, hh⟩
end B8
-- ===== divisions, in the class
def lgN (k : Nat) : Nat := match k with
  | 0 => 1000000000000
  | 1 => 1584962500721
  | 2 => 2321928094887
  | 3 => 2807354922058
  | 4 => 3459431618637
  | _ => 3700439718141
theorem lgL_N : ∀ k, k < 6 → lgL k = lN (lgN k) ∧ lgN k < 4000000000000 := by decide
theorem near_map0 : (List.range 100).all (fun n => (List.range 6).all (fun k => decide ((2 * n * lgN k + 1000000000000) / 2000000000000 = mapv n k))) = true := by decide +kernel
theorem near_map {n k : Nat} (hn : n ≤ 99) (hk : k < 6) : (2 * n * lgN k + 1000000000000) / 2000000000000 = mapv n k := by
  have h := List.all_eq_true.mp (List.all_eq_true.mp near_map0 n (List.mem_range.mpr (by omega))) k (List.mem_range.mpr hk)
  exact of_decide_eq_true h
section B9
variable {X : Cx} {Z : Nat → Int32} {V : Nat → Int64} {P : Nat → Nat → Nat} {F : Nat → Nat → Int32} {L : Nat → Nat → Int64} {g : Mem}
theorem b_isPrimeNumber {x : Int32} {Q : Int32 → Mem → Prop} (h : Q (b2i (isIn x 6)) g) : CallI X 0 yX8_isPrimeNumber [.int x] g Q := by
  refine CallM_intro (own := RX8) [some (.int x)] wX8_isPrimeNumber (by decide) (by decide) rfl (Nat.le_of_ble_eq_true rfl) rfl (fun K hK hR => ?_)
  refine q_iload_n hK 0 dX8_isPrimeNumber_0 rfl rfl ?_
  refine q_if_lt hK 14 dX8_isPrimeNumber_1 (by decide) (fun c1 => ?_) (fun c1 => ?_)
  · refine q_iconst (v := nI 0) hK dX8_isPrimeNumber_14 (by decide) ?_
    have e : isIn x 6 = false := by have := lt0_iff.mp c1; simp [isIn]; omega
    rw [e] at h
    exact q_iret hR dX8_isPrimeNumber_15 rfl ⟨_, rfl, h⟩
  · refine q_iload_n hK 0 dX8_isPrimeNumber_4 rfl rfl ?_
    refine q_bipush (v := nI 6) hK dX8_isPrimeNumber_5 (by decide) ?_
    have d1 := mt lt0_iff.mpr c1
    refine q_icmp_ge hK 14 dX8_isPrimeNumber_7 (by decide) (fun c7 => ?_) (fun c7 => ?_)
    · refine q_iconst (v := nI 0) hK dX8_isPrimeNumber_14 (by decide) ?_
      have e : isIn x 6 = false := by have := (nle_iff (by decide)).mp c7; simp [isIn]; omega
      rw [e] at h
      exact q_iret hR dX8_isPrimeNumber_15 rfl ⟨_, rfl, h⟩
    · refine q_iconst (v := nI 1) hK dX8_isPrimeNumber_10 (by decide) ?_
      refine q_goto hK 15 dX8_isPrimeNumber_11 (by decide) ?_
      have e : isIn x 6 = true := by have := mt (nle_iff (n := 6) (by decide)).mpr c7; simp [isIn]; omega
      rw [e] at h
      exact q_iret hR dX8_isPrimeNumber_15 rfl ⟨_, rfl, h⟩
theorem b_isShelf {x : Int32} {Q : Int32 → Mem → Prop} (h : Q (b2i (isIn x 16)) g) : CallI X 0 yX8_isShelf [.int x] g Q := by
  refine CallM_intro (own := RX8) [some (.int x)] wX8_isShelf (by decide) (by decide) rfl (Nat.le_of_ble_eq_true rfl) rfl (fun K hK hR => ?_)
  refine q_iload_n hK 0 dX8_isShelf_0 rfl rfl ?_
  refine q_if_lt hK 14 dX8_isShelf_1 (by decide) (fun c1 => ?_) (fun c1 => ?_)
  · refine q_iconst (v := nI 0) hK dX8_isShelf_14 (by decide) ?_
    have e : isIn x 16 = false := by have := lt0_iff.mp c1; simp [isIn]; omega
    rw [e] at h
    exact q_iret hR dX8_isShelf_15 rfl ⟨_, rfl, h⟩
  · refine q_iload_n hK 0 dX8_isShelf_4 rfl rfl ?_
    refine q_bipush (v := nI 16) hK dX8_isShelf_5 (by decide) ?_
    have d1 := mt lt0_iff.mpr c1
    refine q_icmp_ge hK 14 dX8_isShelf_7 (by decide) (fun c7 => ?_) (fun c7 => ?_)
    · refine q_iconst (v := nI 0) hK dX8_isShelf_14 (by decide) ?_
      have e : isIn x 16 = false := by have := (nle_iff (by decide)).mp c7; simp [isIn]; omega
      rw [e] at h
      exact q_iret hR dX8_isShelf_15 rfl ⟨_, rfl, h⟩
    · refine q_iconst (v := nI 1) hK dX8_isShelf_10 (by decide) ?_
      refine q_goto hK 15 dX8_isShelf_11 (by decide) ?_
      have e : isIn x 16 = true := by have := mt (nle_iff (n := 16) (by decide)).mpr c7; simp [isIn]; omega
      rw [e] at h
      exact q_iret hR dX8_isShelf_15 rfl ⟨_, rfl, h⟩
theorem b_isDivision {x : Int32} {Q : Int32 → Mem → Prop} (h : Q (b2i (isDiv x)) g) : CallI X 0 yX1_isDivision [.int x] g Q := by
  refine CallM_intro (own := RX1) [some (.int x)] wX1_isDivision (by decide) (by decide) rfl (Nat.le_of_ble_eq_true rfl) rfl (fun K hK hR => ?_)
  refine q_iload_n hK 0 dX1_isDivision_0 rfl rfl ?_
  refine q_iconst (v := nI 1) hK dX1_isDivision_1 (by decide) ?_
  refine q_icmp_lt hK 15 dX1_isDivision_2 (by decide) (fun c2 => ?_) (fun c2 => ?_)
  · have q := Int32.lt_iff_toInt_lt.mp c2
    rw [nI_toInt (by decide)] at q
    rw [show isDiv x = false by simp [isDiv]; omega] at h
    refine q_iconst (v := nI 0) hK dX1_isDivision_15 (by decide) ?_
    exact q_iret hR dX1_isDivision_16 rfl ⟨_, rfl, h⟩
  have q := mt (Int32.lt_iff_toInt_lt (x := x) (y := nI 1)).mpr c2
  rw [nI_toInt (by decide)] at q
  refine q_iload_n hK 0 dX1_isDivision_5 rfl rfl ?_
  refine q_bipush (v := nI 99) hK dX1_isDivision_6 (by decide) ?_
  refine q_icmp_gt hK 15 dX1_isDivision_8 (by decide) (fun c8 => ?_) (fun c8 => ?_)
  · have q2 := Int32.lt_iff_toInt_lt.mp c8
    rw [nI_toInt (by decide)] at q2
    rw [show isDiv x = false by simp [isDiv]; omega] at h
    refine q_iconst (v := nI 0) hK dX1_isDivision_15 (by decide) ?_
    exact q_iret hR dX1_isDivision_16 rfl ⟨_, rfl, h⟩
  · have q2 := mt (Int32.lt_iff_toInt_lt (x := nI 99) (y := x)).mpr c8
    rw [nI_toInt (by decide)] at q2
    rw [show isDiv x = true by simp [isDiv]; omega] at h
    refine q_iconst (v := nI 1) hK dX1_isDivision_11 (by decide) ?_
    refine q_goto hK 16 dX1_isDivision_12 (by decide) ?_
    exact q_iret hR dX1_isDivision_16 rfl ⟨_, rfl, h⟩
theorem b_nearest {n k : Nat} {Q : Int32 → Mem → Prop} (hn : n ≤ 99) (hk : k < 6) (h : Q (nI (mapv n k)) g) : CallI X 1 yX1_nearest [.int (nI n), .int (nI k)] g Q := by
  obtain ⟨e1, e2⟩ := lgL_N k hk
  refine CallM_intro (own := RX1) [some (.int (nI n)), some (.int (nI k))] wX1_nearest (by decide) (by decide) rfl (Nat.le_of_ble_eq_true rfl) rfl (fun K hK hR => ?_)
  refine q_iload_n hK 1 dX1_nearest_0 rfl rfl ?_
  refine q_cSi1 hK dX1_nearest_1 lX1_11 (by decide) (Nat.le_of_ble_eq_true rfl) (b_isPrimeNumber ?_)
  rw [isIn_nI hk (by decide)]
  refine q_if_ne hK 9 dX1_nearest_4 (by decide) (fun c4 => ?_) (fun c4 => ?_)
  rotate_left
  · exact absurd c4 (by decide)
  refine q_iconst (v := nI 2) hK dX1_nearest_9 (by decide) ?_
  refine q_iload_n hK 0 dX1_nearest_10 rfl rfl ?_
  refine q_imul hK dX1_nearest_11 ?_
  refine q_i2l hK dX1_nearest_12 ?_
  refine q_getsL hK dX1_nearest_13  (gtb_of (tb2 (List.mem_of_getElem? (i := 103) (by decide +kernel))) (by decide +kernel)) ?_
  refine q_iload_n hK 1 dX1_nearest_16 rfl rfl ?_
  refine q_laldL hK dX1_nearest_17 (vp_in_nI hk (by decide)) ?_
  rw [nI_clamp (by omega), e1, show nI 2 * nI n = nI (2 * n) from pk_mul 2 n, nI_l (by omega)]
  refine q_lmul hK dX1_nearest_18 ?_
  refine q_ldc2 hK dX1_nearest_19 nX1_19 ?_
  refine q_ladd hK dX1_nearest_22 ?_
  refine q_ldc2 hK dX1_nearest_23 nX1_21 ?_
  refine q_ldiv hK dX1_nearest_26 (by decide) ?_
  rw [lN_mul, show lN (2 * n * lgN k) + 1000000000000 = lN (2 * n * lgN k + 1000000000000) from lN_add _ _]
  have hmul : 2 * n * lgN k ≤ 198 * 4000000000000 := Nat.mul_le_mul (by omega) (by omega)
  rw [show lN (2 * n * lgN k + 1000000000000) / 2000000000000 = lN ((2 * n * lgN k + 1000000000000) / 2000000000000) from pk_lDiv (b := 2000000000000) (by omega) (by decide) (by decide), near_map hn hk]
  refine q_l2i hK dX1_nearest_27 ?_
  rw [lN_i]
  exact q_iret hR dX1_nearest_28 rfl ⟨_, rfl, h⟩
theorem b_stepsOf {n a : Nat} {e : Vec} {Q : Int32 → Mem → Prop} (ha : bR a = true) (he : ∀ k, k < 6 → F a k = jI (e k) ∧ -1000000 ≤ e k ∧ e k ≤ 1000000) (hn : n ≤ 99) (h : Q (jI (stN e n 6)) (BB X Z V P F L g)) : CallI X 2 yX1_stepsOf [rf X a, .int (nI n)] (BB X Z V P F L g) Q := by
  refine CallM_intro (own := RX1) [some (rf X a), some (.int (nI n)), none, none] wX1_stepsOf (by decide) (by decide) rfl (Nat.le_of_ble_eq_true rfl) rfl (fun K hK hR => ?_)
  refine q_iconst (v := nI 0) hK dX1_stepsOf_0 (by decide) ?_
  refine q_istore_n hK 2 dX1_stepsOf_1 rfl (by decide) ?_
  refine q_iconst (v := nI 0) hK dX1_stepsOf_2 (by decide) ?_
  refine q_istore_n hK 3 dX1_stepsOf_3 rfl (by decide) ?_
  have loop : ∀ m i, i + m = 6 → K (BB X Z V P F L g) 4 [some (rf X a), some (.int (nI n)), some (.int (jI (stN e n i))), some (.int (nI i))] [] := by
    intro m
    induction m with
    | zero =>
      intro i hi
      have : i = 6 := by omega
      subst this
      refine q_iload_n hK 3 dX1_stepsOf_4 rfl rfl ?_
      refine q_bipush (v := nI 6) hK dX1_stepsOf_5 (by decide) ?_
      refine q_icmp_ge hK 34 dX1_stepsOf_7 (by decide) (fun c7 => ?_) (fun c7 => ?_)
      · refine q_iload_n hK 2 dX1_stepsOf_34 rfl rfl ?_
        exact q_iret hR dX1_stepsOf_35 rfl ⟨_, rfl, h⟩
      · exact absurd ((nI_leI (by decide) (by decide)).mpr (by decide)) c7
    | succ m ih =>
      intro i hi
      have ih := ih (i + 1) (by omega)
      obtain ⟨e1, e2, e3⟩ := he i (by omega)
      refine q_iload_n hK 3 dX1_stepsOf_4 rfl rfl ?_
      refine q_bipush (v := nI 6) hK dX1_stepsOf_5 (by decide) ?_
      refine q_icmp_ge hK 34 dX1_stepsOf_7 (by decide) (fun c7 => ?_) (fun c7 => ?_)
      · have := (nI_leI (by decide) (by omega)).mp c7
        omega
      refine q_aload_n hK 0 dX1_stepsOf_10 rfl rfl ?_
      refine q_iload_n hK 3 dX1_stepsOf_11 rfl rfl ?_
      refine qb_ialdR hK dX1_stepsOf_12 ha rfl (by omega) ?_
      rw [e1]
      refine q_if_eq hK 28 dX1_stepsOf_13 (by decide) (fun c13 => ?_) (fun c13 => ?_)
      · have q := (jI_eq0 (by omega) (by omega)).mp c13
        rw [show stN e n (i + 1) = stN e n i by simp [stN, q]] at ih
        refine q_inc1 hK dX1_stepsOf_28 rfl (by decide) ?_
        refine q_goto hK 4 dX1_stepsOf_31 (by decide) ?_
        exact ih
      refine q_iload_n hK 2 dX1_stepsOf_16 rfl rfl ?_
      refine q_aload_n hK 0 dX1_stepsOf_17 rfl rfl ?_
      refine q_iload_n hK 3 dX1_stepsOf_18 rfl rfl ?_
      refine qb_ialdR hK dX1_stepsOf_19 ha rfl (by omega) ?_
      rw [e1]
      refine q_iload_n hK 1 dX1_stepsOf_20 rfl rfl ?_
      refine q_iload_n hK 3 dX1_stepsOf_21 rfl rfl ?_
      refine q_cSi2 hK dX1_stepsOf_22 lX1_23 (by decide) (Nat.le_of_ble_eq_true rfl) (b_nearest hn (by omega) ?_)
      rw [jI_nat (mapv n i)]
      refine q_imul hK dX1_stepsOf_25 ?_
      refine q_iadd hK dX1_stepsOf_26 ?_
      refine q_istore_n hK 2 dX1_stepsOf_27 rfl (by decide) ?_
      refine q_inc1 hK dX1_stepsOf_28 rfl (by decide) ?_
      refine q_goto hK 4 dX1_stepsOf_31 (by decide) ?_
      rw [jI_mul, jI_add]
      exact ih
  exact loop 6 0 rfl
end B9
