-- ===== the class's calls, II
theorem has6.le {f : Nat → Int32} {e : Vec} {b c : Nat} (h : has6 f e b) (hc : b ≤ c) : has6 f e c := fun k hk => ⟨(h k hk).1, by have := (h k hk).2.1; omega, by have := (h k hk).2.2; omega⟩
theorem ntA_bd2 {n i : Nat} {nt : Nat → Vec} (hn : 1 ≤ n) (hi : i ≤ n) (hr : ∀ i, i ≤ n → ∀ j, j < 6 → -24 ≤ nt i j ∧ nt i j ≤ 24) {j : Nat} (hj : j < 6) : -100 ≤ ntA n nt i j ∧ ntA n nt i j ≤ 100 := by
  unfold ntA
  have h2 := hr (i % n) (Nat.le_of_lt (Nat.mod_lt _ hn)) j hj
  have h3 := hr n (Nat.le_refl _) j hj
  have h4 : i / n < 2 := (Nat.div_lt_iff_lt_mul hn).mpr (by omega)
  generalize i / n = qq at *
  have h5 : qq = 0 ∨ qq = 1 := by omega
  rcases h5 with q | q <;> rw [q] <;> simp <;> omega
theorem BI.nw {Z Z' : Nat → Int32} {P P' : Nat → Nat → Nat} {F F' : Nat → Nat → Int32} {σ : Sg} {n : Nat} {nt : Nat → Vec} (h : BI Z P F σ) (hz0 : Z' 0 = Z 0) (hz1 : Z' 1 = 0) (hz4 : Z' 4 = Z 4) (hf : ∀ j, j = 21 ∨ j = 23 ∨ (48 ≤ j ∧ j ≤ 68) → F' j = F j) (hp : pOk P') (hS : scI Z' P' F' n nt) (hw : wfS n nt) : BI Z' P' F' (0, gOn σ, gRow σ, gC σ, gCr σ, n, nt, σ.2.2.2.2.2.2.2) := by
  obtain ⟨b1, b2, b3, b4, b5, b6, b7⟩ := h
  refine ⟨hz1, ?_, fun i hi ho => ?_, ⟨by rw [hz4]; exact b4.1, b4.2.1, fun i hi => ?_⟩, ⟨hS.2.2.2.1.2, hS.2.2.1, fun _ => hS, hw⟩, ?_, hp⟩
  · rw [hf 21 (by omega)]; exact b2
  · rw [hf _ (by omega)]; exact b3 i hi ho
  · have := b4.2.1
    have hi' : i < gC σ := hi
    rw [hf _ (by omega)]
    exact b4.2.2 i hi
  · rw [hz0, hf 23 (by omega)]; exact b6
theorem lyF.bi {Z Z' : Nat → Int32} {P P' : Nat → Nat → Nat} {F F' : Nat → Nat → Int32} {σ : Sg} (hI : BI Z P F σ) (h : lyF Z Z' P P' F F') : BI Z' P' F' σ := by
  obtain ⟨y1, y2, y3, y4⟩ := h
  have hO := hI.2.2.2.2.2.2
  obtain ⟨n1, n2, n3⟩ := hO.2.2.2.1
  exact hI.fr y1 y4 (hO.of n2 y2 y3) (y2 33 (by simp; rcases n2 with z | z <;> omega)) (y2 _ (by simp; omega))
section BX
variable {X : Cx} {Z : Nat → Int32} {V : Nat → Int64} {P : Nat → Nat → Nat} {F : Nat → Nat → Int32} {L : Nat → Nat → Int64} {g : Mem}
theorem B_times {σ : Sg} {a b k t : Int32} {Q : Int32 → Mem → Prop} (hI : BI Z P F σ) (h : ∀ Z' V' P' F' L', BI Z' P' F' (sp_times σ a b k t).2 → Q (sp_times σ a b k t).1 (BB X Z' V' P' F' L' g)) : CallI X 9 yX8_times [rf X 19, .int a, .int b, .int k, .int t] (BB X Z V P F L g) Q := by
  refine CallM_intro (own := RX8) [some (rf X 19), some (.int a), some (.int b), some (.int k), some (.int t)] wX8_times (by decide) (by decide) rfl (Nat.le_of_ble_eq_true rfl) rfl (fun K hK hR => ?_)
  have bad1 : (isIn a 16 && isIn b 16 && isIn t 16) = false → K (BB X Z V P F L g) 22 [some (rf X 19), some (.int a), some (.int b), some (.int k), some (.int t)] [] := by
    intro hb
    simp only [sp_times, hb] at h
    refine q_aload_n hK 0 dX8_times_22 rfl rfl ?_
    refine q_iconst (v := nI 1) hK dX8_times_23 (by decide) ?_
    refine q_cVi1 hK dX8_times_24 lX8_67 (by decide) (by decide) rfl (Nat.le_of_ble_eq_true rfl) (b_refuse ?_)
    exact q_iret hR dX8_times_27 rfl ⟨_, rfl, h _ _ _ _ _ (hI.st 1)⟩
  refine q_iload_n hK 1 dX8_times_0 rfl rfl ?_
  refine q_cSi1 hK dX8_times_1 lX8_63 (by decide) (Nat.le_of_ble_eq_true rfl) (b_isShelf ?_)
  refine q_if_eq hK 22 dX8_times_4 (by decide) (fun c4 => ?_) (fun c4 => ?_)
  · exact bad1 (by simp [(b2i_eq0 _).mp c4])
  have ha := (b2i_ne0 _).mp c4
  refine q_iload_n hK 2 dX8_times_7 rfl rfl ?_
  refine q_cSi1 hK dX8_times_8 lX8_63 (by decide) (Nat.le_of_ble_eq_true rfl) (b_isShelf ?_)
  refine q_if_eq hK 22 dX8_times_11 (by decide) (fun c11 => ?_) (fun c11 => ?_)
  · exact bad1 (by simp [(b2i_eq0 _).mp c11])
  have hb := (b2i_ne0 _).mp c11
  refine q_iload hK dX8_times_14 rfl ?_
  refine q_cSi1 hK dX8_times_16 lX8_63 (by decide) (Nat.le_of_ble_eq_true rfl) (b_isShelf ?_)
  refine q_if_ne hK 28 dX8_times_19 (by decide) (fun c19 => ?_) (fun c19 => ?_)
  rotate_left
  · exact bad1 (by simp [(b2i_eq0 _).mp c19])
  have ht := (b2i_ne0 _).mp c19
  clear bad1
  obtain ⟨ia, ha1, rfl, ha2⟩ := isIn_ex ha (by decide)
  obtain ⟨ib, hb1, rfl, hb2⟩ := isIn_ex hb (by decide)
  obtain ⟨it, ht1, rfl, ht2⟩ := isIn_ex ht (by decide)
  simp only [sp_times, ha, hb, ht, onS, rowS, ha2, hb2, ht2, Bool.and_self, if_true] at h
  have bad2 : (gOn σ ia && gOn σ ib) = false → K (BB X Z V P F L g) 46 [some (rf X 19), some (.int (nI ia)), some (.int (nI ib)), some (.int k), some (.int (nI it))] [] := by
    intro hb
    simp only [hb] at h
    refine q_aload_n hK 0 dX8_times_46 rfl rfl ?_
    refine q_iconst (v := nI 2) hK dX8_times_47 (by decide) ?_
    refine q_cVi1 hK dX8_times_48 lX8_67 (by decide) (by decide) rfl (Nat.le_of_ble_eq_true rfl) (b_refuse ?_)
    exact q_iret hR dX8_times_51 rfl ⟨_, rfl, h _ _ _ _ _ (hI.st 2)⟩
  refine q_aload_n hK 0 dX8_times_28 rfl rfl ?_
  refine q_getf hK dX8_times_29 fX8_14 (by decide) rfl rfl ?_
  refine q_iload_n hK 1 dX8_times_32 rfl rfl ?_
  refine qb_zald hK dX8_times_33 rfl ha1 ?_
  rw [hI.2.1 ia ha1]
  refine q_if_eq hK 46 dX8_times_34 (by decide) (fun c34 => ?_) (fun c34 => ?_)
  · exact bad2 (by simp [(b2i_eq0 _).mp c34])
  have oa := (b2i_ne0 _).mp c34
  refine q_aload_n hK 0 dX8_times_37 rfl rfl ?_
  refine q_getf hK dX8_times_38 fX8_14 (by decide) rfl rfl ?_
  refine q_iload_n hK 2 dX8_times_41 rfl rfl ?_
  refine qb_zald hK dX8_times_42 rfl hb1 ?_
  rw [hI.2.1 ib hb1]
  refine q_if_ne hK 52 dX8_times_43 (by decide) (fun c43 => ?_) (fun c43 => ?_)
  rotate_left
  · exact bad2 (by simp [(b2i_eq0 _).mp c43])
  have ob := (b2i_ne0 _).mp c43
  clear bad2
  simp only [oa, ob, Bool.and_self, if_true] at h
  have hkr := jI_of k
  have hk1 := Int32.le_toInt k
  have hk2 := Int32.toInt_lt k
  generalize hkv : k.toInt = kv at *
  subst hkr
  have bad3 : ¬ (-24 ≤ kv ∧ kv ≤ 24) → K (BB X Z V P F L g) 64 [some (rf X 19), some (.int (nI ia)), some (.int (nI ib)), some (.int (jI kv)), some (.int (nI it))] [] := by
    intro hb
    have hb' : (decide (-24 ≤ kv) && decide (kv ≤ 24)) = false := by simp; omega
    simp only [hb'] at h
    refine q_aload_n hK 0 dX8_times_64 rfl rfl ?_
    refine q_iconst (v := nI 3) hK dX8_times_65 (by decide) ?_
    refine q_cVi1 hK dX8_times_66 lX8_67 (by decide) (by decide) rfl (Nat.le_of_ble_eq_true rfl) (b_refuse ?_)
    exact q_iret hR dX8_times_69 rfl ⟨_, rfl, h _ _ _ _ _ (hI.st 3)⟩
  refine q_iload_n hK 3 dX8_times_52 rfl rfl ?_
  refine q_bipush (v := jI (-24)) hK dX8_times_53 (by decide) ?_
  refine q_icmp_lt hK 64 dX8_times_55 (by decide) (fun c55 => ?_) (fun c55 => ?_)
  · exact bad3 (fun q => by have := (jI_lt (by omega) (by omega) (by decide) (by decide)).mp c55; omega)
  have k1 := mt (jI_lt (a := kv) (b := -24) (by omega) (by omega) (by decide) (by decide)).mpr c55
  refine q_iload_n hK 3 dX8_times_58 rfl rfl ?_
  refine q_bipush (v := nI 24) hK dX8_times_59 (by decide) ?_
  refine q_icmp_le hK 70 dX8_times_61 (by decide) (fun c61 => ?_) (fun c61 => ?_)
  rotate_left
  · exact bad3 (fun q => c61 (by rw [jI_nat]; exact (jI_le (by omega) (by omega) (by decide) (by decide)).mpr q.2))
  rw [jI_nat] at c61
  have k2 := (jI_le (a := kv) (b := 24) (by omega) (by omega) (by decide) (by decide)).mp c61
  clear bad3
  have hb' : (decide (-24 ≤ kv) && decide (kv ≤ 24)) = true := by simp; omega
  simp only [hb', if_true] at h
  have rA := hI.2.2.1 ia ha1 oa
  have rB := hI.2.2.1 ib hb1 ob
  refine q_aload_n hK 0 dX8_times_70 rfl rfl ?_
  refine q_getf hK dX8_times_71 fX8_11 (by decide) rfl rfl ?_
  refine q_iload_n hK 1 dX8_times_74 rfl rfl ?_
  refine qb_aald20 hK dX8_times_75 rfl ha1 ?_
  refine q_aload_n hK 0 dX8_times_76 rfl rfl ?_
  refine q_getf hK dX8_times_77 fX8_11 (by decide) rfl rfl ?_
  refine q_iload_n hK 2 dX8_times_80 rfl rfl ?_
  refine qb_aald20 hK dX8_times_81 rfl hb1 ?_
  refine q_iload_n hK 3 dX8_times_82 rfl rfl ?_
  refine q_aload_n hK 0 dX8_times_83 rfl rfl ?_
  refine q_getf hK dX8_times_84 fX8_18 (by decide) rfl rfl ?_
  refine q_cSv4 hK dX8_times_87 lX8_80 (by decide) (Nat.le_of_ble_eq_true rfl) (b_combine (t := 22) (bR_sh ha1) (bR_sh hb1) rfl (fun f hf => ?_))
  have hX : hasX (va_up F 22 f 22) (fun j => gRow σ ia j + kv * gRow σ ib j) := fun j hj => by
    obtain ⟨q0, q1, q2⟩ := rA j hj
    obtain ⟨w0, w1, w2⟩ := rB j hj
    have := mul_bd (x := kv) (y := gRow σ ib j) (s := 24) (t := 24) (by omega) (by omega) w1 w2
    rw [up_same, hf j hj, q0, w0, jI_mul, jI_add]
    exact ⟨rfl, by show _ ≤ gRow σ ia j + kv * gRow σ ib j; omega, by show gRow σ ia j + kv * gRow σ ib j < _; omega⟩
  refine q_aload_n hK 0 dX8_times_90 rfl rfl ?_
  refine q_iload hK dX8_times_91 rfl ?_
  refine q_cVi1 hK dX8_times_93 lX8_70 (by decide) (by decide) rfl (Nat.le_of_ble_eq_true rfl) (b_putMade hI.sc22 ht1 hX (fun Z' F' hI' => ?_))
  exact q_iret hR dX8_times_96 (nar_put ..) ⟨_, rfl, h Z' V P F' L hI'⟩
theorem B_fold {σ : Sg} {a b t : Int32} {Q : Int32 → Mem → Prop} (hI : BI Z P F σ) (h : ∀ Z' V' P' F' L', BI Z' P' F' (sp_fold σ a b t).2 → Q (sp_fold σ a b t).1 (BB X Z' V' P' F' L' g)) : CallI X 9 yX8_fold [rf X 19, .int a, .int b, .int t] (BB X Z V P F L g) Q := by
  refine CallM_intro (own := RX8) [some (rf X 19), some (.int a), some (.int b), some (.int t)] wX8_fold (by decide) (by decide) rfl (Nat.le_of_ble_eq_true rfl) rfl (fun K hK hR => ?_)
  have bad1 : (isIn a 16 && isIn b 16 && isIn t 16) = false → K (BB X Z V P F L g) 21 [some (rf X 19), some (.int a), some (.int b), some (.int t)] [] := by
    intro hb
    simp only [sp_fold, hb] at h
    refine q_aload_n hK 0 dX8_fold_21 rfl rfl ?_
    refine q_iconst (v := nI 1) hK dX8_fold_22 (by decide) ?_
    refine q_cVi1 hK dX8_fold_23 lX8_67 (by decide) (by decide) rfl (Nat.le_of_ble_eq_true rfl) (b_refuse ?_)
    exact q_iret hR dX8_fold_26 rfl ⟨_, rfl, h _ _ _ _ _ (hI.st 1)⟩
  refine q_iload_n hK 1 dX8_fold_0 rfl rfl ?_
  refine q_cSi1 hK dX8_fold_1 lX8_63 (by decide) (Nat.le_of_ble_eq_true rfl) (b_isShelf ?_)
  refine q_if_eq hK 21 dX8_fold_4 (by decide) (fun c4 => ?_) (fun c4 => ?_)
  · exact bad1 (by simp [(b2i_eq0 _).mp c4])
  have ha := (b2i_ne0 _).mp c4
  refine q_iload_n hK 2 dX8_fold_7 rfl rfl ?_
  refine q_cSi1 hK dX8_fold_8 lX8_63 (by decide) (Nat.le_of_ble_eq_true rfl) (b_isShelf ?_)
  refine q_if_eq hK 21 dX8_fold_11 (by decide) (fun c11 => ?_) (fun c11 => ?_)
  · exact bad1 (by simp [(b2i_eq0 _).mp c11])
  have hb := (b2i_ne0 _).mp c11
  refine q_iload_n hK 3 dX8_fold_14 rfl rfl ?_
  refine q_cSi1 hK dX8_fold_15 lX8_63 (by decide) (Nat.le_of_ble_eq_true rfl) (b_isShelf ?_)
  refine q_if_ne hK 27 dX8_fold_18 (by decide) (fun c18 => ?_) (fun c18 => ?_)
  rotate_left
  · exact bad1 (by simp [(b2i_eq0 _).mp c18])
  have ht := (b2i_ne0 _).mp c18
  clear bad1
  obtain ⟨ia, ha1, rfl, ha2⟩ := isIn_ex ha (by decide)
  obtain ⟨ib, hb1, rfl, hb2⟩ := isIn_ex hb (by decide)
  obtain ⟨it, ht1, rfl, ht2⟩ := isIn_ex ht (by decide)
  simp only [sp_fold, ha, hb, ht, onS, rowS, ha2, hb2, ht2, Bool.and_self, if_true] at h
  have bad2 : (gOn σ ia && gOn σ ib) = false → K (BB X Z V P F L g) 45 [some (rf X 19), some (.int (nI ia)), some (.int (nI ib)), some (.int (nI it))] [] := by
    intro hb
    simp only [hb] at h
    refine q_aload_n hK 0 dX8_fold_45 rfl rfl ?_
    refine q_iconst (v := nI 2) hK dX8_fold_46 (by decide) ?_
    refine q_cVi1 hK dX8_fold_47 lX8_67 (by decide) (by decide) rfl (Nat.le_of_ble_eq_true rfl) (b_refuse ?_)
    exact q_iret hR dX8_fold_50 rfl ⟨_, rfl, h _ _ _ _ _ (hI.st 2)⟩
  refine q_aload_n hK 0 dX8_fold_27 rfl rfl ?_
  refine q_getf hK dX8_fold_28 fX8_14 (by decide) rfl rfl ?_
  refine q_iload_n hK 1 dX8_fold_31 rfl rfl ?_
  refine qb_zald hK dX8_fold_32 rfl ha1 ?_
  rw [hI.2.1 ia ha1]
  refine q_if_eq hK 45 dX8_fold_33 (by decide) (fun c33 => ?_) (fun c33 => ?_)
  · exact bad2 (by simp [(b2i_eq0 _).mp c33])
  have oa := (b2i_ne0 _).mp c33
  refine q_aload_n hK 0 dX8_fold_36 rfl rfl ?_
  refine q_getf hK dX8_fold_37 fX8_14 (by decide) rfl rfl ?_
  refine q_iload_n hK 2 dX8_fold_40 rfl rfl ?_
  refine qb_zald hK dX8_fold_41 rfl hb1 ?_
  rw [hI.2.1 ib hb1]
  refine q_if_ne hK 51 dX8_fold_42 (by decide) (fun c42 => ?_) (fun c42 => ?_)
  rotate_left
  · exact bad2 (by simp [(b2i_eq0 _).mp c42])
  have ob := (b2i_ne0 _).mp c42
  clear bad2
  simp only [oa, ob, Bool.and_self, if_true] at h
  have rA := hI.2.2.1 ia ha1 oa
  have rB := hI.2.2.1 ib hb1 ob
  refine q_aload_n hK 0 dX8_fold_51 rfl rfl ?_
  refine q_getf hK dX8_fold_52 fX8_29 (by decide) rfl rfl ?_
  refine q_aload_n hK 0 dX8_fold_55 rfl rfl ?_
  refine q_getf hK dX8_fold_56 fX8_11 (by decide) rfl rfl ?_
  refine q_iload_n hK 2 dX8_fold_59 rfl rfl ?_
  refine qb_aald20 hK dX8_fold_60 rfl hb1 ?_
  refine q_cVi1 hK dX8_fold_61 lX8_84 (by decide) (by decide) rfl (Nat.le_of_ble_eq_true rfl) (b_sign (bR_sh hb1) (rB.le (by decide)) (fun Z1 V1 F1 y1 y2 => ?_))
  have hI1 := hI.sc y1 y2 (by decide)
  have sr := sgn_range (gRow σ ib)
  refine q_if_gt hK 73 dX8_fold_64 (by decide) (fun c64 => ?_) (fun c64 => ?_)
  rotate_left
  · have q2 := mt (jI_0lt (b := sgn (gRow σ ib)) (by omega) (by omega)).mpr c64
    simp only [q2, if_false] at h
    refine q_aload_n hK 0 dX8_fold_67 rfl rfl ?_
    refine q_iconst (v := nI 5) hK dX8_fold_68 (by decide) ?_
    refine q_cVi1 hK dX8_fold_69 lX8_67 (by decide) (by decide) rfl (Nat.le_of_ble_eq_true rfl) (b_refuse ?_)
    exact q_iret hR dX8_fold_72 rfl ⟨_, rfl, h _ _ _ _ _ (hI1.st 5)⟩
  have q2 := (jI_0lt (by omega) (by omega)).mp c64
  simp only [q2, if_true] at h
  have rA1 : has6 (F1 (48 + ia)) (gRow σ ia) 24 := hI1.2.2.1 ia ha1 oa
  have rB1 : has6 (F1 (48 + ib)) (gRow σ ib) 24 := hI1.2.2.1 ib hb1 ob
  refine q_aload_n hK 0 dX8_fold_73 rfl rfl ?_
  refine q_getf hK dX8_fold_74 fX8_29 (by decide) rfl rfl ?_
  refine q_aload_n hK 0 dX8_fold_77 rfl rfl ?_
  refine q_getf hK dX8_fold_78 fX8_11 (by decide) rfl rfl ?_
  refine q_iload_n hK 1 dX8_fold_81 rfl rfl ?_
  refine qb_aald20 hK dX8_fold_82 rfl ha1 ?_
  refine q_aload_n hK 0 dX8_fold_83 rfl rfl ?_
  refine q_getf hK dX8_fold_84 fX8_11 (by decide) rfl rfl ?_
  refine q_iload_n hK 2 dX8_fold_87 rfl rfl ?_
  refine qb_aald20 hK dX8_fold_88 rfl hb1 ?_
  refine q_aload_n hK 0 dX8_fold_89 rfl rfl ?_
  refine q_getf hK dX8_fold_90 fX8_18 (by decide) rfl rfl ?_
  refine q_cVi3 hK dX8_fold_93 lX8_88 (by decide) (by decide) rfl (Nat.le_of_ble_eq_true rfl) (b_foldInto (t := 22) (bR_sh ha1) (bR_sh hb1) rfl (by omega) (by omega) (by decide) (by omega) (by omega) (rA1.le (by decide)) rB1 q2 (fun Z2 V2 F2 x1 x2 => ⟨fun r hr hr2 => ?_, fun hr => ?_⟩))
  · have hI2 := hI1.sc x1 x2 (by decide)
    have hnf := farV_false.mp (foldv_near q2 hr)
    simp only [hr] at h
    refine q_if_ne hK 105 dX8_fold_96 (by decide) (fun c96 => ?_) (fun c96 => ?_)
    rotate_left
    · exact absurd c96 (by decide)
    refine q_aload_n hK 0 dX8_fold_105 rfl rfl ?_
    refine q_iload_n hK 3 dX8_fold_106 rfl rfl ?_
    refine q_cVi1 hK dX8_fold_107 lX8_70 (by decide) (by decide) rfl (Nat.le_of_ble_eq_true rfl) (b_putMade (e := r) hI2 ht1 (fun k hk => ⟨hr2 k hk, by have := hnf k hk; omega, by have := hnf k hk; omega⟩) (fun Z' F' hI' => ?_))
    exact q_iret hR dX8_fold_110 (nar_put ..) ⟨_, rfl, h Z' V2 P F' L hI'⟩
  · have hI2 := hI1.sc x1 x2 (by decide)
    simp only [hr] at h
    refine q_if_ne hK 105 dX8_fold_96 (by decide) (fun c96 => ?_) (fun c96 => ?_)
    · exact absurd rfl c96
    refine q_aload_n hK 0 dX8_fold_99 rfl rfl ?_
    refine q_iconst (v := nI 4) hK dX8_fold_100 (by decide) ?_
    refine q_cVi1 hK dX8_fold_101 lX8_67 (by decide) (by decide) rfl (Nat.le_of_ble_eq_true rfl) (b_refuse ?_)
    exact q_iret hR dX8_fold_104 rfl ⟨_, rfl, h _ _ _ _ _ (hI2.st 4)⟩
theorem B_order {σ : Sg} {a b : Int32} {Q : Int32 → Mem → Prop} (hI : BI Z P F σ) (h : ∀ Z' V' P' F' L', BI Z' P' F' (sp_order σ a b).2 → Q (sp_order σ a b).1 (BB X Z' V' P' F' L' g)) : CallI X 9 yX8_order [rf X 19, .int a, .int b] (BB X Z V P F L g) Q := by
  refine CallM_intro (own := RX8) [some (rf X 19), some (.int a), some (.int b), none] wX8_order (by decide) (by decide) rfl (Nat.le_of_ble_eq_true rfl) rfl (fun K hK hR => ?_)
  have bad1 : (isIn a 16 && isIn b 16) = false → K (BB X Z V P F L g) 14 [some (rf X 19), some (.int a), some (.int b), none] [] := by
    intro hb
    simp only [sp_order, hb] at h
    refine q_aload_n hK 0 dX8_order_14 rfl rfl ?_
    refine q_iconst (v := nI 1) hK dX8_order_15 (by decide) ?_
    refine q_cVi1 hK dX8_order_16 lX8_100 (by decide) (by decide) rfl (Nat.le_of_ble_eq_true rfl) (b_none ?_)
    exact q_iret hR dX8_order_19 rfl ⟨_, rfl, h _ _ _ _ _ (hI.st 1)⟩
  refine q_iload_n hK 1 dX8_order_0 rfl rfl ?_
  refine q_cSi1 hK dX8_order_1 lX8_63 (by decide) (Nat.le_of_ble_eq_true rfl) (b_isShelf ?_)
  refine q_if_eq hK 14 dX8_order_4 (by decide) (fun c4 => ?_) (fun c4 => ?_)
  · exact bad1 (by simp [(b2i_eq0 _).mp c4])
  have ha := (b2i_ne0 _).mp c4
  refine q_iload_n hK 2 dX8_order_7 rfl rfl ?_
  refine q_cSi1 hK dX8_order_8 lX8_63 (by decide) (Nat.le_of_ble_eq_true rfl) (b_isShelf ?_)
  refine q_if_ne hK 20 dX8_order_11 (by decide) (fun c11 => ?_) (fun c11 => ?_)
  rotate_left
  · exact bad1 (by simp [(b2i_eq0 _).mp c11])
  have hb := (b2i_ne0 _).mp c11
  clear bad1
  obtain ⟨ia, ha1, rfl, ha2⟩ := isIn_ex ha (by decide)
  obtain ⟨ib, hb1, rfl, hb2⟩ := isIn_ex hb (by decide)
  simp only [sp_order, ha, hb, onS, rowS, ha2, hb2, Bool.and_self, if_true] at h
  have bad2 : (gOn σ ia && gOn σ ib) = false → K (BB X Z V P F L g) 38 [some (rf X 19), some (.int (nI ia)), some (.int (nI ib)), none] [] := by
    intro hb
    simp only [hb] at h
    refine q_aload_n hK 0 dX8_order_38 rfl rfl ?_
    refine q_iconst (v := nI 2) hK dX8_order_39 (by decide) ?_
    refine q_cVi1 hK dX8_order_40 lX8_100 (by decide) (by decide) rfl (Nat.le_of_ble_eq_true rfl) (b_none ?_)
    exact q_iret hR dX8_order_43 rfl ⟨_, rfl, h _ _ _ _ _ (hI.st 2)⟩
  refine q_aload_n hK 0 dX8_order_20 rfl rfl ?_
  refine q_getf hK dX8_order_21 fX8_14 (by decide) rfl rfl ?_
  refine q_iload_n hK 1 dX8_order_24 rfl rfl ?_
  refine qb_zald hK dX8_order_25 rfl ha1 ?_
  rw [hI.2.1 ia ha1]
  refine q_if_eq hK 38 dX8_order_26 (by decide) (fun c26 => ?_) (fun c26 => ?_)
  · exact bad2 (by simp [(b2i_eq0 _).mp c26])
  have oa := (b2i_ne0 _).mp c26
  refine q_aload_n hK 0 dX8_order_29 rfl rfl ?_
  refine q_getf hK dX8_order_30 fX8_14 (by decide) rfl rfl ?_
  refine q_iload_n hK 2 dX8_order_33 rfl rfl ?_
  refine qb_zald hK dX8_order_34 rfl hb1 ?_
  rw [hI.2.1 ib hb1]
  refine q_if_ne hK 44 dX8_order_35 (by decide) (fun c35 => ?_) (fun c35 => ?_)
  rotate_left
  · exact bad2 (by simp [(b2i_eq0 _).mp c35])
  have ob := (b2i_ne0 _).mp c35
  clear bad2
  simp only [oa, ob, Bool.and_self, if_true] at h
  have rA := hI.2.2.1 ia ha1 oa
  have rB := hI.2.2.1 ib hb1 ob
  have bA := bR_sh ha1
  have bB1 := bR_sh hb1
  refine q_aload_n hK 0 dX8_order_44 rfl rfl ?_
  refine q_getf hK dX8_order_45 fX8_29 (by decide) rfl rfl ?_
  refine q_aload_n hK 0 dX8_order_48 rfl rfl ?_
  refine q_getf hK dX8_order_49 fX8_11 (by decide) rfl rfl ?_
  refine q_iload_n hK 1 dX8_order_52 rfl rfl ?_
  refine qb_aald20 hK dX8_order_53 rfl ha1 ?_
  refine q_aload_n hK 0 dX8_order_54 rfl rfl ?_
  refine q_getf hK dX8_order_55 fX8_11 (by decide) rfl rfl ?_
  refine q_iload_n hK 2 dX8_order_58 rfl rfl ?_
  refine qb_aald20 hK dX8_order_59 rfl hb1 ?_
  refine q_cVi2 hK dX8_order_60 lX8_109 (by decide) (by decide) rfl (Nat.le_of_ble_eq_true rfl) (b_compare bA bB1 (fun k hk => (rA k hk).1) (fun k hk => (rB k hk).1) (fun k hk => by have := (rA k hk).2; have := (rB k hk).2; omega) (fun Z1 V1 F1 y1 y2 => ?_))
  have hI1 := hI.sc y1 y2 (by decide)
  have sr := sgn_range (fun k => gRow σ ia k - gRow σ ib k)
  refine q_istore_n hK 3 dX8_order_63 rfl (by decide) ?_
  refine q_aload_n hK 0 dX8_order_64 rfl rfl ?_
  refine q_iload_n hK 3 dX8_order_65 rfl rfl ?_
  refine q_if_ge hK 74 dX8_order_66 (by decide) (fun c66 => ?_) (fun c66 => ?_)
  · have q := (jI_0le (by omega) (by omega)).mp c66
    rw [if_neg (show ¬ sgn (fun k => gRow σ ia k - gRow σ ib k) < 0 by omega)] at h
    refine q_iload_n hK 3 dX8_order_74 rfl rfl ?_
    refine q_cVi1 hK dX8_order_75 lX8_106 (by decide) (by decide) rfl (Nat.le_of_ble_eq_true rfl) (b_answer ?_)
    exact q_iret hR dX8_order_78 rfl ⟨_, rfl, h _ _ _ _ _ (hI1.st 0)⟩
  · have q := mt (jI_0le (b := sgn (fun k => gRow σ ia k - gRow σ ib k)) (by omega) (by omega)).mpr c66
    rw [if_pos (show sgn (fun k => gRow σ ia k - gRow σ ib k) < 0 by omega)] at h
    refine q_bipush (v := jI (-2)) hK dX8_order_69 (by decide) ?_
    refine q_goto hK 75 dX8_order_71 (by decide) ?_
    refine q_cVi1 hK dX8_order_75 lX8_106 (by decide) (by decide) rfl (Nat.le_of_ble_eq_true rfl) (b_answer ?_)
    exact q_iret hR dX8_order_78 rfl ⟨_, rfl, h _ _ _ _ _ (hI1.st 0)⟩
theorem B_comma {σ : Sg} {s : Int32} {Q : Int32 → Mem → Prop} (hI : BI Z P F σ) (h : ∀ Z' V' P' F' L', BI Z' P' F' (sp_comma σ s).2 → Q (sp_comma σ s).1 (BB X Z' V' P' F' L' g)) : CallI X 9 yX8_comma [rf X 19, .int s] (BB X Z V P F L g) Q := by
  refine CallM_intro (own := RX8) [some (rf X 19), some (.int s), none] wX8_comma (by decide) (by decide) rfl (Nat.le_of_ble_eq_true rfl) rfl (fun K hK hR => ?_)
  by_cases hs : isIn s 16 = true
  rotate_left
  · have hs := Bool.eq_false_iff.mpr hs
    simp only [sp_comma, hs] at h
    refine q_aload_n hK 0 dX8_comma_0 rfl rfl ?_
    refine q_iload_n hK 1 dX8_comma_1 rfl rfl ?_
    refine q_cVi1 hK dX8_comma_2 lX8_92 (by decide) (by decide) rfl (Nat.le_of_ble_eq_true rfl) (b_faultOf (v := 1) hI (by simp [fltN, hs]) ?_)
    refine q_istore_n hK 2 dX8_comma_5 rfl (by decide) ?_
    refine q_iload_n hK 2 dX8_comma_6 rfl rfl ?_
    refine q_if_eq hK 16 dX8_comma_7 (by decide) (fun c7 => ?_) (fun c7 => ?_)
    · exact absurd c7 (by decide)
    refine q_aload_n hK 0 dX8_comma_10 rfl rfl ?_
    refine q_iload_n hK 2 dX8_comma_11 rfl rfl ?_
    refine q_cVi1 hK dX8_comma_12 lX8_100 (by decide) (by decide) rfl (Nat.le_of_ble_eq_true rfl) (b_none ?_)
    exact q_iret hR dX8_comma_15 rfl ⟨_, rfl, h _ _ _ _ _ (hI.st 1)⟩
  obtain ⟨ia, ha1, rfl, ha2⟩ := isIn_ex hs (by decide)
  simp only [sp_comma, hs, onS, rowS, ha2, if_true] at h
  by_cases oa : gOn σ ia = true
  rotate_left
  · have oa := Bool.eq_false_iff.mpr oa
    simp only [oa] at h
    refine q_aload_n hK 0 dX8_comma_0 rfl rfl ?_
    refine q_iload_n hK 1 dX8_comma_1 rfl rfl ?_
    refine q_cVi1 hK dX8_comma_2 lX8_92 (by decide) (by decide) rfl (Nat.le_of_ble_eq_true rfl) (b_faultOf (v := 2) hI (by simp [fltN, hs, onS, ha2, oa]) ?_)
    refine q_istore_n hK 2 dX8_comma_5 rfl (by decide) ?_
    refine q_iload_n hK 2 dX8_comma_6 rfl rfl ?_
    refine q_if_eq hK 16 dX8_comma_7 (by decide) (fun c7 => ?_) (fun c7 => ?_)
    · exact absurd c7 (by decide)
    refine q_aload_n hK 0 dX8_comma_10 rfl rfl ?_
    refine q_iload_n hK 2 dX8_comma_11 rfl rfl ?_
    refine q_cVi1 hK dX8_comma_12 lX8_100 (by decide) (by decide) rfl (Nat.le_of_ble_eq_true rfl) (b_none ?_)
    exact q_iret hR dX8_comma_15 rfl ⟨_, rfl, h _ _ _ _ _ (hI.st 2)⟩
  simp only [oa, if_true] at h
  have rA := hI.2.2.1 ia ha1 oa
  have bA := bR_sh ha1
  refine q_aload_n hK 0 dX8_comma_0 rfl rfl ?_
  refine q_iload_n hK 1 dX8_comma_1 rfl rfl ?_
  refine q_cVi1 hK dX8_comma_2 lX8_92 (by decide) (by decide) rfl (Nat.le_of_ble_eq_true rfl) (b_faultOf (v := 0) hI (by simp [fltN, hs, onS, ha2, oa]) ?_)
  refine q_istore_n hK 2 dX8_comma_5 rfl (by decide) ?_
  refine q_iload_n hK 2 dX8_comma_6 rfl rfl ?_
  refine q_if_eq hK 16 dX8_comma_7 (by decide) (fun c7 => ?_) (fun c7 => ?_)
  rotate_left
  · exact absurd rfl c7
  refine q_aload_n hK 0 dX8_comma_16 rfl rfl ?_
  refine q_getf hK dX8_comma_17 fX8_11 (by decide) rfl rfl ?_
  refine q_iload_n hK 1 dX8_comma_20 rfl rfl ?_
  refine qb_aald20 hK dX8_comma_21 rfl ha1 ?_
  refine q_cSi1 hK dX8_comma_22 lX8_130 (by decide) (Nat.le_of_ble_eq_true rfl) (b_isOne bA ?_)
  rw [farN_V (by decide) (rA.X (by decide))]
  have hz : farV 0 (gRow σ ia) = false ↔ sgn (gRow σ ia) = 0 := by
    rw [farV_false, sgn_one]
    constructor
    · intro z k hk
      have := z k hk
      omega
    · intro z k hk
      have := z k hk
      omega
  refine q_if_eq hK 34 dX8_comma_25 (by decide) (fun c25 => ?_) (fun c25 => ?_)
  rotate_left
  · have q := hz.mp (by simpa using (b2i_ne0 _).mp c25)
    simp only [q, if_true] at h
    refine q_aload_n hK 0 dX8_comma_28 rfl rfl ?_
    refine q_iconst (v := nI 5) hK dX8_comma_29 (by decide) ?_
    refine q_cVi1 hK dX8_comma_30 lX8_100 (by decide) (by decide) rfl (Nat.le_of_ble_eq_true rfl) (b_none ?_)
    exact q_iret hR dX8_comma_33 rfl ⟨_, rfl, h _ _ _ _ _ (hI.st 5)⟩
  have q : ¬ sgn (gRow σ ia) = 0 := fun z => by
    rw [hz.mpr z] at c25
    exact absurd c25 (by decide)
  simp only [q, if_false] at h
  refine q_aload_n hK 0 dX8_comma_34 rfl rfl ?_
  refine q_getf hK dX8_comma_35 fX8_36 (by decide) rfl rfl ?_
  refine q_aload_n hK 0 dX8_comma_38 rfl rfl ?_
  refine q_getf hK dX8_comma_39 fX8_11 (by decide) rfl rfl ?_
  refine q_iload_n hK 1 dX8_comma_42 rfl rfl ?_
  refine qb_aald20 hK dX8_comma_43 rfl ha1 ?_
  refine q_cVi1 hK dX8_comma_44 lX8_134 (by decide) (by decide) rfl (Nat.le_of_ble_eq_true rfl) (b_add hI.2.2.2.1 bA (fun q5 => ?_) (fun f q5 hf => ?_))
  · simp only [q5, if_true] at h
    refine q_if_ne hK 57 dX8_comma_47 (by decide) (fun c47 => ?_) (fun c47 => ?_)
    · exact absurd rfl c47
    refine q_aload_n hK 0 dX8_comma_50 rfl rfl ?_
    refine q_bipush (v := nI 6) hK dX8_comma_51 (by decide) ?_
    refine q_cVi1 hK dX8_comma_53 lX8_100 (by decide) (by decide) rfl (Nat.le_of_ble_eq_true rfl) (b_none ?_)
    exact q_iret hR dX8_comma_56 rfl ⟨_, rfl, h _ _ _ _ _ (hI.st 6)⟩
  · simp only [show ¬ gC σ = 5 by omega, if_false] at h
    refine q_if_ne hK 57 dX8_comma_47 (by decide) (fun c47 => ?_) (fun c47 => ?_)
    rotate_left
    · exact absurd c47 (by decide)
    refine q_aload_n hK 0 dX8_comma_57 rfl rfl ?_
    refine q_aload_n hK 0 dX8_comma_58 rfl rfl ?_
    refine q_getf hK dX8_comma_59 fX8_36 (by decide) rfl rfl ?_
    refine q_getf hK dX8_comma_62 fX8_137 (by decide) rfl rfl ?_
    rw [up_same]
    refine q_cVi1 hK dX8_comma_65 lX8_106 (by decide) (by decide) rfl (Nat.le_of_ble_eq_true rfl) (b_answer ?_)
    obtain ⟨b1, b2, b3, b4, b5, b6, b7⟩ := hI
    have hi := nlZ_in (a := P 33 7)
    have ho : ∀ j, j ≠ 64 + gC σ → va_up F (64 + gC σ) f j = F j := fun j hj => up_ne hj
    refine q_iret hR dX8_comma_68 rfl ⟨_, rfl, h _ _ _ _ _ ⟨up_same _ _ _, ?_, fun i hi ho2 => ?_, ⟨?_, by show gC σ + 1 ≤ 5; omega, fun i hi2 => ?_⟩, ?_, ?_, b7⟩⟩
    · rw [ho 21 (by omega)]; exact b2
    · rw [ho _ (by omega)]; exact b3 i hi ho2
    · rw [up_ne (by decide), up_same]
    · have hi2' : i < gC σ + 1 := hi2
      by_cases ei : i = gC σ
      · intro k hk
        have := rA k hk
        simp only [gCr, ei, up_same]
        rw [hf k hk]
        exact this
      · simp only [gCr, up_ne ei]
        rw [ho _ (by omega)]
        exact b4.2.2 i (by omega)
    · refine ⟨b5.1, by rw [up_ne (by omega), up_ne (by omega)]; exact b5.2.1, fun h0 => ?_, b5.2.2.2⟩
      obtain ⟨s1, s2, s3, s4, s5, s6⟩ := b5.2.2.1 h0
      refine ⟨s1, s2, by rw [up_ne (by omega), up_ne (by omega)]; exact s3, s4, fun i hi2 => ?_, ?_⟩
      · have hi2 : i < gN σ := hi2
        have := s2.rng (show i < 24 by omega)
        rw [ho _ (by omega)]
        exact s5 i hi2
      · rw [ho 34 (by omega)]; exact s6
    · rw [up_ne (by decide), up_ne (by decide), ho 23 (by omega)]; exact b6
theorem B_clear {σ : Sg} {Q : Int32 → Mem → Prop} (hI : BI Z P F σ) (h : ∀ Z' V' P' F' L', BI Z' P' F' (sp_clear σ).2 → Q (sp_clear σ).1 (BB X Z' V' P' F' L' g)) : CallI X 9 yX8_clear [rf X 19] (BB X Z V P F L g) Q := by
  refine CallM_intro (own := RX8) [some (rf X 19), none] wX8_clear (by decide) (by decide) rfl (Nat.le_of_ble_eq_true rfl) rfl (fun K hK hR => ?_)
  refine q_aload_n hK 0 dX8_clear_0 rfl rfl ?_
  refine q_getf hK dX8_clear_1 fX8_36 (by decide) rfl rfl ?_
  refine q_getf hK dX8_clear_4 fX8_137 (by decide) rfl rfl ?_
  refine q_istore_n hK 1 dX8_clear_7 rfl (by decide) ?_
  refine q_aload_n hK 0 dX8_clear_8 rfl rfl ?_
  refine q_getf hK dX8_clear_9 fX8_36 (by decide) rfl rfl ?_
  refine q_iconst (v := nI 0) hK dX8_clear_12 (by decide) ?_
  refine qb_put30_2 hK dX8_clear_13 pX8_137 ?_
  refine q_aload_n hK 0 dX8_clear_16 rfl rfl ?_
  refine q_iload_n hK 1 dX8_clear_17 rfl rfl ?_
  rw [hI.2.2.2.1.1]
  refine q_cVi1 hK dX8_clear_18 lX8_106 (by decide) (by decide) rfl (Nat.le_of_ble_eq_true rfl) (b_answer ?_)
  obtain ⟨b1, b2, b3, b4, b5, b6, b7⟩ := hI
  have hi := nlZ_in (a := P 33 7)
  refine q_iret hR dX8_clear_21 rfl ⟨_, rfl, h _ _ _ _ _ ⟨up_same _ _ _, b2, b3, ⟨?_, Nat.zero_le _, fun i hi => absurd hi (Nat.not_lt_zero i)⟩, ?_, ?_, b7⟩⟩
  · rw [up_ne (by decide), up_same]; rfl
  · refine ⟨b5.1, by rw [up_ne (by omega), up_ne (by omega)]; exact b5.2.1, fun h0 => ?_, b5.2.2.2⟩
    obtain ⟨s1, s2, s3, s4⟩ := b5.2.2.1 h0
    exact ⟨s1, s2, by rw [up_ne (by omega), up_ne (by omega)]; exact s3, s4⟩
  · rw [up_ne (by decide), up_ne (by decide)]; exact b6
theorem B_rank {σ : Sg} {Q : Int32 → Mem → Prop} (hI : BI Z P F σ) (h : ∀ Z' V' P' F' L', BI Z' P' F' (sp_rank σ).2 → Q (sp_rank σ).1 (BB X Z' V' P' F' L' g)) : CallI X 9 yX8_rank [rf X 19] (BB X Z V P F L g) Q := by
  refine CallM_intro (own := RX8) [some (rf X 19)] wX8_rank (by decide) (by decide) rfl (Nat.le_of_ble_eq_true rfl) rfl (fun K hK hR => ?_)
  refine q_aload_n hK 0 dX8_rank_0 rfl rfl ?_
  refine q_aload_n hK 0 dX8_rank_1 rfl rfl ?_
  refine q_getf hK dX8_rank_2 fX8_36 (by decide) rfl rfl ?_
  refine q_cVi0 hK dX8_rank_5 lX8_140 (by decide) (by decide) rfl (Nat.le_of_ble_eq_true rfl) (b_findRank hI.2.2.2.2.2.2.1 hI.2.2.2.1 (fun V1 P1 L1 y1 y2 => ?_))
  refine q_cVi1 hK dX8_rank_8 lX8_106 (by decide) (by decide) rfl (Nat.le_of_ble_eq_true rfl) (b_answer ?_)
  exact q_iret hR dX8_rank_11 rfl ⟨_, rfl, h _ _ _ _ _ ((hI.p32 y2 y1).st 0)⟩
theorem B_twist {σ : Sg} {Q : Int64 → Mem → Prop} (hI : BI Z P F σ) (h : ∀ Z' V' P' F' L', BI Z' P' F' (sp_twist σ).2 → Q (sp_twist σ).1 (BB X Z' V' P' F' L' g)) : CallL X 9 yX8_twist [rf X 19] (BB X Z V P F L g) Q := by
  have hI0 := hI.st 0
  refine CallM_intro (own := RX8) [some (rf X 19)] wX8_twist (by decide) (by decide) rfl (Nat.le_of_ble_eq_true rfl) rfl (fun K hK hR => ?_)
  refine q_aload_n hK 0 dX8_twist_0 rfl rfl ?_
  refine q_iconst (v := nI 0) hK dX8_twist_1 (by decide) ?_
  refine qb_put19_9 hK dX8_twist_2 pX8_60 ?_
  refine q_aload_n hK 0 dX8_twist_5 rfl rfl ?_
  refine q_getf hK dX8_twist_6 fX8_36 (by decide) rfl rfl ?_
  refine q_cVl0 hK dX8_twist_9 lX8_144 (by decide) (by decide) rfl (Nat.le_of_ble_eq_true rfl) (b_findTwist hI0.2.2.2.2.2.2.1 hI0.2.2.2.1 (fun V1 P1 L1 y1 y2 => ?_))
  exact q_lret hR dX8_twist_12 ⟨_, rfl, h _ _ _ _ _ (hI0.p32 y2 y1)⟩
theorem B_vanishes {σ : Sg} {s : Int32} {Q : Int32 → Mem → Prop} (hI : BI Z P F σ) (h : ∀ Z' V' P' F' L', BI Z' P' F' (sp_vanishes σ s).2 → Q (sp_vanishes σ s).1 (BB X Z' V' P' F' L' g)) : CallI X 9 yX8_vanishes [rf X 19, .int s] (BB X Z V P F L g) Q := by
  refine CallM_intro (own := RX8) [some (rf X 19), some (.int s), none] wX8_vanishes (by decide) (by decide) rfl (Nat.le_of_ble_eq_true rfl) rfl (fun K hK hR => ?_)
  by_cases hs : isIn s 16 = true
  rotate_left
  · have hs := Bool.eq_false_iff.mpr hs
    simp only [sp_vanishes, hs] at h
    refine q_aload_n hK 0 dX8_vanishes_0 rfl rfl ?_
    refine q_iload_n hK 1 dX8_vanishes_1 rfl rfl ?_
    refine q_cVi1 hK dX8_vanishes_2 lX8_92 (by decide) (by decide) rfl (Nat.le_of_ble_eq_true rfl) (b_faultOf (v := 1) hI (by simp [fltN, hs]) ?_)
    refine q_istore_n hK 2 dX8_vanishes_5 rfl (by decide) ?_
    refine q_iload_n hK 2 dX8_vanishes_6 rfl rfl ?_
    refine q_if_eq hK 16 dX8_vanishes_7 (by decide) (fun c7 => ?_) (fun c7 => ?_)
    · exact absurd c7 (by decide)
    refine q_aload_n hK 0 dX8_vanishes_10 rfl rfl ?_
    refine q_iload_n hK 2 dX8_vanishes_11 rfl rfl ?_
    refine q_cVi1 hK dX8_vanishes_12 lX8_100 (by decide) (by decide) rfl (Nat.le_of_ble_eq_true rfl) (b_none ?_)
    exact q_iret hR dX8_vanishes_15 rfl ⟨_, rfl, h _ _ _ _ _ (hI.st 1)⟩
  obtain ⟨ia, ha1, rfl, ha2⟩ := isIn_ex hs (by decide)
  simp only [sp_vanishes, hs, onS, rowS, ha2, if_true] at h
  by_cases oa : gOn σ ia = true
  rotate_left
  · have oa := Bool.eq_false_iff.mpr oa
    simp only [oa] at h
    refine q_aload_n hK 0 dX8_vanishes_0 rfl rfl ?_
    refine q_iload_n hK 1 dX8_vanishes_1 rfl rfl ?_
    refine q_cVi1 hK dX8_vanishes_2 lX8_92 (by decide) (by decide) rfl (Nat.le_of_ble_eq_true rfl) (b_faultOf (v := 2) hI (by simp [fltN, hs, onS, ha2, oa]) ?_)
    refine q_istore_n hK 2 dX8_vanishes_5 rfl (by decide) ?_
    refine q_iload_n hK 2 dX8_vanishes_6 rfl rfl ?_
    refine q_if_eq hK 16 dX8_vanishes_7 (by decide) (fun c7 => ?_) (fun c7 => ?_)
    · exact absurd c7 (by decide)
    refine q_aload_n hK 0 dX8_vanishes_10 rfl rfl ?_
    refine q_iload_n hK 2 dX8_vanishes_11 rfl rfl ?_
    refine q_cVi1 hK dX8_vanishes_12 lX8_100 (by decide) (by decide) rfl (Nat.le_of_ble_eq_true rfl) (b_none ?_)
    exact q_iret hR dX8_vanishes_15 rfl ⟨_, rfl, h _ _ _ _ _ (hI.st 2)⟩
  simp only [oa, if_true] at h
  have rA := hI.2.2.1 ia ha1 oa
  have bA := bR_sh ha1
  refine q_aload_n hK 0 dX8_vanishes_0 rfl rfl ?_
  refine q_iload_n hK 1 dX8_vanishes_1 rfl rfl ?_
  refine q_cVi1 hK dX8_vanishes_2 lX8_92 (by decide) (by decide) rfl (Nat.le_of_ble_eq_true rfl) (b_faultOf (v := 0) hI (by simp [fltN, hs, onS, ha2, oa]) ?_)
  refine q_istore_n hK 2 dX8_vanishes_5 rfl (by decide) ?_
  refine q_iload_n hK 2 dX8_vanishes_6 rfl rfl ?_
  refine q_if_eq hK 16 dX8_vanishes_7 (by decide) (fun c7 => ?_) (fun c7 => ?_)
  rotate_left
  · exact absurd rfl c7
  refine q_aload_n hK 0 dX8_vanishes_16 rfl rfl ?_
  refine q_aload_n hK 0 dX8_vanishes_17 rfl rfl ?_
  refine q_getf hK dX8_vanishes_18 fX8_36 (by decide) rfl rfl ?_
  refine q_aload_n hK 0 dX8_vanishes_21 rfl rfl ?_
  refine q_getf hK dX8_vanishes_22 fX8_11 (by decide) rfl rfl ?_
  refine q_iload_n hK 1 dX8_vanishes_25 rfl rfl ?_
  refine qb_aald20 hK dX8_vanishes_26 rfl ha1 ?_
  refine q_cVi1 hK dX8_vanishes_27 lX8_148 (by decide) (by decide) rfl (Nat.le_of_ble_eq_true rfl) (b_spans hI.2.2.2.2.2.2.1 hI.2.2.2.1 bA rA (fun V1 P1 L1 y1 y2 => ?_))
  have hI1 := (hI.p32 y2 y1).st 0
  have h := h _ V1 P1 F L1 hI1
  generalize decide (rkv (gC σ + 1) (fun i => if i = gC σ then gRow σ ia else gCr σ i) = rkv (gC σ) (gCr σ)) = b at h
  refine q_if_eq hK 37 dX8_vanishes_30 (by decide) (fun c30 => ?_) (fun c30 => ?_)
  · rw [(b2i_eq0 _).mp c30] at h
    refine q_iconst (v := nI 0) hK dX8_vanishes_37 (by decide) ?_
    refine q_cVi1 hK dX8_vanishes_38 lX8_106 (by decide) (by decide) rfl (Nat.le_of_ble_eq_true rfl) (b_answer ?_)
    exact q_iret hR dX8_vanishes_41 rfl ⟨_, rfl, h⟩
  · rw [(b2i_ne0 _).mp c30] at h
    refine q_iconst (v := nI 1) hK dX8_vanishes_33 (by decide) ?_
    refine q_goto hK 38 dX8_vanishes_34 (by decide) ?_
    refine q_cVi1 hK dX8_vanishes_38 lX8_106 (by decide) (by decide) rfl (Nat.le_of_ble_eq_true rfl) (b_answer ?_)
    exact q_iret hR dX8_vanishes_41 rfl ⟨_, rfl, h⟩
theorem B_supports {σ : Sg} {d : Int32} {Q : Int32 → Mem → Prop} (hI : BI Z P F σ) (h : ∀ Z' V' P' F' L', BI Z' P' F' (sp_supports σ d).2 → Q (sp_supports σ d).1 (BB X Z' V' P' F' L' g)) : CallI X 9 yX8_supports [rf X 19, .int d] (BB X Z V P F L g) Q := by
  refine CallM_intro (own := RX8) [some (rf X 19), some (.int d)] wX8_supports (by decide) (by decide) rfl (Nat.le_of_ble_eq_true rfl) rfl (fun K hK hR => ?_)
  refine q_iload_n hK 1 dX8_supports_0 rfl rfl ?_
  refine q_cSi1 hK dX8_supports_1 lX8_117 (by decide) (Nat.le_of_ble_eq_true rfl) (b_isDivision ?_)
  refine q_if_ne hK 13 dX8_supports_4 (by decide) (fun c4 => ?_) (fun c4 => ?_)
  rotate_left
  · have hd := (b2i_eq0 _).mp c4
    simp only [sp_supports, hd] at h
    refine q_aload_n hK 0 dX8_supports_7 rfl rfl ?_
    refine q_iconst (v := nI 3) hK dX8_supports_8 (by decide) ?_
    refine q_cVi1 hK dX8_supports_9 lX8_100 (by decide) (by decide) rfl (Nat.le_of_ble_eq_true rfl) (b_none ?_)
    exact q_iret hR dX8_supports_12 rfl ⟨_, rfl, h _ _ _ _ _ (hI.st 3)⟩
  have hd := (b2i_ne0 _).mp c4
  obtain ⟨n0, hn1, hn2, rfl, hn3⟩ := isDiv_ex hd
  simp only [sp_supports, hd, hn3, if_true] at h
  refine q_aload_n hK 0 dX8_supports_13 rfl rfl ?_
  refine q_aload_n hK 0 dX8_supports_14 rfl rfl ?_
  refine q_getf hK dX8_supports_15 fX8_36 (by decide) rfl rfl ?_
  refine q_iload_n hK 1 dX8_supports_18 rfl rfl ?_
  refine q_cVi1 hK dX8_supports_19 lX8_151 (by decide) (by decide) rfl (Nat.le_of_ble_eq_true rfl) (b_firstSupport hI.2.2.2.1 hn1 hn2 ?_)
  refine q_cVi1 hK dX8_supports_22 lX8_106 (by decide) (by decide) rfl (Nat.le_of_ble_eq_true rfl) (b_answer ?_)
  exact q_iret hR dX8_supports_25 rfl ⟨_, rfl, h _ _ _ _ _ (hI.st 0)⟩
end BX
