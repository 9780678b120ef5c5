-- ===== the class's calls, III
section BY
variable {X : Cx} {Z : Nat → Int32} {V : Nat → Int64} {P : Nat → Nat → Nat} {F : Nat → Nat → Int32} {L : Nat → Nat → Int64} {g : Mem}
theorem B_begin {σ : Sg} {s : Int32} {Q : Int32 → Mem → Prop} (hI : BI Z P F σ) (h : ∀ Z' V' P' F' L', BI Z' P' F' (sp_begin σ s).2 → Q (sp_begin σ s).1 (BB X Z' V' P' F' L' g)) : CallI X 9 yX8_begin [rf X 19, .int s] (BB X Z V P F L g) Q := by
  have hO := hI.2.2.2.2.2.2
  have hl := hO.2.2.2.1
  refine CallM_intro (own := RX8) [some (rf X 19), some (.int s), none] wX8_begin (by decide) (by decide) rfl (Nat.le_of_ble_eq_true rfl) rfl (fun K hK hR => ?_)
  by_cases hs : isIn s 16 = true
  rotate_left
  · have hs := Bool.eq_false_iff.mpr hs
    simp only [sp_begin, hs] at h
    refine q_aload_n hK 0 dX8_begin_0 rfl rfl ?_
    refine q_iload_n hK 1 dX8_begin_1 rfl rfl ?_
    refine q_cVi1 hK dX8_begin_2 lX8_92 (by decide) (by decide) rfl (Nat.le_of_ble_eq_true rfl) (b_faultOf (v := 1) hI (by simp [fltN, hs]) ?_)
    refine q_istore_n hK 2 dX8_begin_5 rfl (by decide) ?_
    refine q_iload_n hK 2 dX8_begin_6 rfl rfl ?_
    refine q_if_eq hK 16 dX8_begin_7 (by decide) (fun c7 => ?_) (fun c7 => ?_)
    · exact absurd c7 (by decide)
    refine q_aload_n hK 0 dX8_begin_10 rfl rfl ?_
    refine q_iload_n hK 2 dX8_begin_11 rfl rfl ?_
    refine q_cVi1 hK dX8_begin_12 lX8_67 (by decide) (by decide) rfl (Nat.le_of_ble_eq_true rfl) (b_refuse ?_)
    exact q_iret hR dX8_begin_15 rfl ⟨_, rfl, h _ _ _ _ _ (hI.st 1)⟩
  obtain ⟨ia, ha1, rfl, ha2⟩ := isIn_ex hs (by decide)
  simp only [sp_begin, hs, onS, rowS, ha2, if_true] at h
  by_cases oa : gOn σ ia = true
  rotate_left
  · have oa := Bool.eq_false_iff.mpr oa
    simp only [oa] at h
    refine q_aload_n hK 0 dX8_begin_0 rfl rfl ?_
    refine q_iload_n hK 1 dX8_begin_1 rfl rfl ?_
    refine q_cVi1 hK dX8_begin_2 lX8_92 (by decide) (by decide) rfl (Nat.le_of_ble_eq_true rfl) (b_faultOf (v := 2) hI (by simp [fltN, hs, onS, ha2, oa]) ?_)
    refine q_istore_n hK 2 dX8_begin_5 rfl (by decide) ?_
    refine q_iload_n hK 2 dX8_begin_6 rfl rfl ?_
    refine q_if_eq hK 16 dX8_begin_7 (by decide) (fun c7 => ?_) (fun c7 => ?_)
    · exact absurd c7 (by decide)
    refine q_aload_n hK 0 dX8_begin_10 rfl rfl ?_
    refine q_iload_n hK 2 dX8_begin_11 rfl rfl ?_
    refine q_cVi1 hK dX8_begin_12 lX8_67 (by decide) (by decide) rfl (Nat.le_of_ble_eq_true rfl) (b_refuse ?_)
    exact q_iret hR dX8_begin_15 rfl ⟨_, rfl, h _ _ _ _ _ (hI.st 2)⟩
  simp only [oa, if_true] at h
  have rA := hI.2.2.1 ia ha1 oa
  have bA := bR_sh ha1
  refine q_aload_n hK 0 dX8_begin_0 rfl rfl ?_
  refine q_iload_n hK 1 dX8_begin_1 rfl rfl ?_
  refine q_cVi1 hK dX8_begin_2 lX8_92 (by decide) (by decide) rfl (Nat.le_of_ble_eq_true rfl) (b_faultOf (v := 0) hI (by simp [fltN, hs, onS, ha2, oa]) ?_)
  refine q_istore_n hK 2 dX8_begin_5 rfl (by decide) ?_
  refine q_iload_n hK 2 dX8_begin_6 rfl rfl ?_
  refine q_if_eq hK 16 dX8_begin_7 (by decide) (fun c7 => ?_) (fun c7 => ?_)
  rotate_left
  · exact absurd rfl c7
  refine q_aload_n hK 0 dX8_begin_16 rfl rfl ?_
  refine q_getf hK dX8_begin_17 fX8_29 (by decide) rfl rfl ?_
  refine q_aload_n hK 0 dX8_begin_20 rfl rfl ?_
  refine q_getf hK dX8_begin_21 fX8_11 (by decide) rfl rfl ?_
  refine q_iload_n hK 1 dX8_begin_24 rfl rfl ?_
  refine qb_aald20 hK dX8_begin_25 rfl ha1 ?_
  refine q_cVi1 hK dX8_begin_26 lX8_84 (by decide) (by decide) rfl (Nat.le_of_ble_eq_true rfl) (b_sign bA (rA.le (by decide)) (fun Z1 V1 F1 y1 y2 => ?_))
  have hI1 := hI.sc y1 y2 (by decide)
  have sr := sgn_range (gRow σ ia)
  refine q_if_gt hK 38 dX8_begin_29 (by decide) (fun c29 => ?_) (fun c29 => ?_)
  rotate_left
  · have q2 := mt (jI_0lt (b := sgn (gRow σ ia)) (by omega) (by omega)).mpr c29
    simp only [q2, if_false] at h
    refine q_aload_n hK 0 dX8_begin_32 rfl rfl ?_
    refine q_iconst (v := nI 5) hK dX8_begin_33 (by decide) ?_
    refine q_cVi1 hK dX8_begin_34 lX8_67 (by decide) (by decide) rfl (Nat.le_of_ble_eq_true rfl) (b_refuse ?_)
    exact q_iret hR dX8_begin_37 rfl ⟨_, rfl, h _ _ _ _ _ (hI1.st 5)⟩
  have q2 := (jI_0lt (by omega) (by omega)).mp c29
  simp only [q2, if_true] at h
  have rA1 : has6 (F1 (48 + ia)) (gRow σ ia) 24 := hI1.2.2.1 ia ha1 oa
  refine q_aload_n hK 0 dX8_begin_38 rfl rfl ?_
  refine q_getf hK dX8_begin_39 fX8_45 (by decide) rfl rfl ?_
  refine q_aload_n hK 0 dX8_begin_42 rfl rfl ?_
  refine q_getf hK dX8_begin_43 fX8_11 (by decide) rfl rfl ?_
  refine q_iload_n hK 1 dX8_begin_46 rfl rfl ?_
  refine qb_aald20 hK dX8_begin_47 rfl ha1 ?_
  refine q_cVv1 hK dX8_begin_48 lX8_154 (by decide) (by decide) rfl (Nat.le_of_ble_eq_true rfl) (b_start hl.1 (hO.at hl.1) bA (fun f f0 hf hf0 => ?_))
  refine q_aload_n hK 0 dX8_begin_51 rfl rfl ?_
  refine q_cVi0 hK dX8_begin_52 lX8_96 (by decide) (by decide) rfl (Nat.le_of_ble_eq_true rfl) (b_accept ?_)
  have hr0 := (hO.at hl.1).rng (show 0 < 24 by decide)
  have hi := nlZ_in (a := P 33 7)
  have hS : scI (va_up (va_up Z1 (nlZ (P 33 7)) (nI 1)) 1 0) P (va_up (va_up F1 34 f) (P (P 33 7 + 1) 0) f0) 1 (fun i => if i = 0 then (fun _ => 0) else gRow σ ia) := by
    refine ⟨hl.1, hO.at hl.1, by rw [up_ne (by omega), up_same], ⟨Nat.le_refl _, by decide⟩, fun i hi2 => ?_, fun k hk => ?_⟩
    · have : i = 0 := by omega
      subst this
      intro k hk
      rw [up_same, hf0 k hk]
      exact ⟨rfl, by show -(24 : Int) ≤ 0; decide, by show (0 : Int) ≤ 24; decide⟩
    · rw [up_ne (by omega), up_same, hf k hk]
      exact rA1 k hk
  have hw : wfS 1 (fun i => if i = 0 then (fun _ => 0) else gRow σ ia) := (layI_0 q2).1
  have hf' : ∀ j, j = 21 ∨ j = 23 ∨ (48 ≤ j ∧ j ≤ 68) → va_up (va_up F1 34 f) (P (P 33 7 + 1) 0) f0 j = F1 j := fun j hj => by rw [up_ne (by omega), up_ne (by omega)]
  exact q_iret hR dX8_begin_55 rfl ⟨_, rfl, h _ _ _ _ _ (hI1.nw (by rw [up_ne (by decide), up_ne (by omega)]) (up_same _ _ _) (by rw [up_ne (by decide), up_ne (by omega)]) hf' hO hS hw)⟩
theorem B_note {σ : Sg} {s : Int32} {Q : Int32 → Mem → Prop} (hI : BI Z P F σ) (h : ∀ Z' V' P' F' L', BI Z' P' F' (sp_note σ s).2 → Q (sp_note σ s).1 (BB X Z' V' P' F' L' g)) : CallI X 9 yX8_note [rf X 19, .int s] (BB X Z V P F L g) Q := by
  obtain ⟨n1, n2, n3, n4⟩ := hI.2.2.2.2.1
  have hO := hI.2.2.2.2.2.2
  have hl := hO.2.2.2.1
  have hi := nlZ_in (a := P 33 7)
  refine CallM_intro (own := RX8) [some (rf X 19), some (.int s), none] wX8_note (by decide) (by decide) rfl (Nat.le_of_ble_eq_true rfl) rfl (fun K hK hR => ?_)
  by_cases hs : isIn s 16 = true
  rotate_left
  · have hs := Bool.eq_false_iff.mpr hs
    simp only [sp_note, hs] at h
    refine q_aload_n hK 0 dX8_note_0 rfl rfl ?_
    refine q_iload_n hK 1 dX8_note_1 rfl rfl ?_
    refine q_cVi1 hK dX8_note_2 lX8_92 (by decide) (by decide) rfl (Nat.le_of_ble_eq_true rfl) (b_faultOf (v := 1) hI (by simp [fltN, hs]) ?_)
    refine q_istore_n hK 2 dX8_note_5 rfl (by decide) ?_
    refine q_iload_n hK 2 dX8_note_6 rfl rfl ?_
    refine q_if_eq hK 16 dX8_note_7 (by decide) (fun c7 => ?_) (fun c7 => ?_)
    · exact absurd c7 (by decide)
    refine q_aload_n hK 0 dX8_note_10 rfl rfl ?_
    refine q_iload_n hK 2 dX8_note_11 rfl rfl ?_
    refine q_cVi1 hK dX8_note_12 lX8_100 (by decide) (by decide) rfl (Nat.le_of_ble_eq_true rfl) (b_none ?_)
    exact q_iret hR dX8_note_15 rfl ⟨_, rfl, h _ _ _ _ _ (hI.st 1)⟩
  obtain ⟨ia, ha1, rfl, ha2⟩ := isIn_ex hs (by decide)
  simp only [sp_note, hs, onS, rowS, ha2, if_true] at h
  by_cases oa : gOn σ ia = true
  rotate_left
  · have oa := Bool.eq_false_iff.mpr oa
    simp only [oa] at h
    refine q_aload_n hK 0 dX8_note_0 rfl rfl ?_
    refine q_iload_n hK 1 dX8_note_1 rfl rfl ?_
    refine q_cVi1 hK dX8_note_2 lX8_92 (by decide) (by decide) rfl (Nat.le_of_ble_eq_true rfl) (b_faultOf (v := 2) hI (by simp [fltN, hs, onS, ha2, oa]) ?_)
    refine q_istore_n hK 2 dX8_note_5 rfl (by decide) ?_
    refine q_iload_n hK 2 dX8_note_6 rfl rfl ?_
    refine q_if_eq hK 16 dX8_note_7 (by decide) (fun c7 => ?_) (fun c7 => ?_)
    · exact absurd c7 (by decide)
    refine q_aload_n hK 0 dX8_note_10 rfl rfl ?_
    refine q_iload_n hK 2 dX8_note_11 rfl rfl ?_
    refine q_cVi1 hK dX8_note_12 lX8_100 (by decide) (by decide) rfl (Nat.le_of_ble_eq_true rfl) (b_none ?_)
    exact q_iret hR dX8_note_15 rfl ⟨_, rfl, h _ _ _ _ _ (hI.st 2)⟩
  simp only [oa, if_true] at h
  have rA := hI.2.2.1 ia ha1 oa
  have bA := bR_sh ha1
  refine q_aload_n hK 0 dX8_note_0 rfl rfl ?_
  refine q_iload_n hK 1 dX8_note_1 rfl rfl ?_
  refine q_cVi1 hK dX8_note_2 lX8_92 (by decide) (by decide) rfl (Nat.le_of_ble_eq_true rfl) (b_faultOf (v := 0) hI (by simp [fltN, hs, onS, ha2, oa]) ?_)
  refine q_istore_n hK 2 dX8_note_5 rfl (by decide) ?_
  refine q_iload_n hK 2 dX8_note_6 rfl rfl ?_
  refine q_if_eq hK 16 dX8_note_7 (by decide) (fun c7 => ?_) (fun c7 => ?_)
  rotate_left
  · exact absurd rfl c7
  refine q_aload_n hK 0 dX8_note_16 rfl rfl ?_
  refine q_getf hK dX8_note_17 fX8_45 (by decide) rfl rfl ?_
  refine q_cVi0 hK dX8_note_20 lX8_158 (by decide) (by decide) rfl (Nat.le_of_ble_eq_true rfl) (b_exists hl.1 n2 n1 ?_)
  refine q_if_ne hK 33 dX8_note_23 (by decide) (fun c23 => ?_) (fun c23 => ?_)
  rotate_left
  · have q : gN σ = 0 := by have := (b2i_eq0 _).mp c23; simp at this; omega
    simp only [q, if_true] at h
    refine q_aload_n hK 0 dX8_note_26 rfl rfl ?_
    refine q_bipush (v := nI 7) hK dX8_note_27 (by decide) ?_
    refine q_cVi1 hK dX8_note_29 lX8_100 (by decide) (by decide) rfl (Nat.le_of_ble_eq_true rfl) (b_none ?_)
    exact q_iret hR dX8_note_32 rfl ⟨_, rfl, h _ _ _ _ _ (hI.st 7)⟩
  have q : ¬ gN σ = 0 := by have := (b2i_ne0 _).mp c23; simp at this; omega
  simp only [q, if_false] at h
  have hS := n3 (by omega)
  have hper := wf_per n4 (by omega) (gN σ) (by omega) (Nat.le_refl _)
  refine q_aload_n hK 0 dX8_note_33 rfl rfl ?_
  refine q_getf hK dX8_note_34 fX8_29 (by decide) rfl rfl ?_
  refine q_aload_n hK 0 dX8_note_37 rfl rfl ?_
  refine q_getf hK dX8_note_38 fX8_11 (by decide) rfl rfl ?_
  refine q_iload_n hK 1 dX8_note_41 rfl rfl ?_
  refine qb_aald20 hK dX8_note_42 rfl ha1 ?_
  refine q_aload_n hK 0 dX8_note_43 rfl rfl ?_
  refine q_getf hK dX8_note_44 fX8_45 (by decide) rfl rfl ?_
  refine q_getf hK dX8_note_47 fX8_161 (by decide) rfl rfl ?_
  refine q_aload_n hK 0 dX8_note_50 rfl rfl ?_
  refine q_getf hK dX8_note_51 fX8_18 (by decide) rfl rfl ?_
  refine q_cVi3 hK dX8_note_54 lX8_88 (by decide) (by decide) rfl (Nat.le_of_ble_eq_true rfl) (b_foldInto (m := 34) (t := 22) bA rfl rfl (by omega) (by decide) (by decide) (by omega) (by decide) (rA.le (by decide)) hS.2.2.2.2.2 hper (fun Z2 V2 F2 x1 x2 => ⟨fun r hr hr2 => ?_, fun hr => ?_⟩))
  rotate_left
  · have hI2 := hI.sc x1 x2 (by decide)
    simp only [hr] at h
    refine q_if_ne hK 66 dX8_note_57 (by decide) (fun c57 => ?_) (fun c57 => ?_)
    · exact absurd rfl c57
    refine q_aload_n hK 0 dX8_note_60 rfl rfl ?_
    refine q_iconst (v := nI 4) hK dX8_note_61 (by decide) ?_
    refine q_cVi1 hK dX8_note_62 lX8_100 (by decide) (by decide) rfl (Nat.le_of_ble_eq_true rfl) (b_none ?_)
    exact q_iret hR dX8_note_65 rfl ⟨_, rfl, h _ _ _ _ _ (hI2.st 4)⟩
  have hI2 := hI.sc x1 x2 (by decide)
  have hS2 := hI2.2.2.2.2.1.2.2.1 (by omega)
  have hnf := farV_false.mp (foldv_near hper hr)
  have hr22 : has6 (F2 22) r 24 := fun k hk => ⟨hr2 k hk, (hnf k hk).1, (hnf k hk).2⟩
  have hsr := wf_srt n4
  simp only [hr] at h
  refine q_if_ne hK 66 dX8_note_57 (by decide) (fun c57 => ?_) (fun c57 => ?_)
  rotate_left
  · exact absurd c57 (by decide)
  refine q_aload_n hK 0 dX8_note_66 rfl rfl ?_
  refine q_getf hK dX8_note_67 fX8_45 (by decide) rfl rfl ?_
  refine q_getf hK dX8_note_70 fX8_164 (by decide) rfl rfl ?_
  refine q_aload_n hK 0 dX8_note_73 rfl rfl ?_
  refine q_getf hK dX8_note_74 fX8_18 (by decide) rfl rfl ?_
  refine q_cVi1 hK dX8_note_77 lX8_168 (by decide) (nl_lt hl.1) (BB_nl hl.1) (Nat.le_of_ble_eq_true rfl) (b_has hl.1 (hO.at hl.1) (r := 22) rfl hS2.2.2.1 n1 ?_)
  have hiff := has_iff hS2.2.2.2.2.1 hr22 hsr
  refine q_if_eq hK 90 dX8_note_80 (by decide) (fun c80 => ?_) (fun c80 => ?_)
  rotate_left
  · have hneg := hiff.mp ((b2i_ne0 _).mp c80)
    simp only [hneg, if_true] at h
    refine q_aload_n hK 0 dX8_note_83 rfl rfl ?_
    refine q_bipush (v := nI 8) hK dX8_note_84 (by decide) ?_
    refine q_cVi1 hK dX8_note_86 lX8_100 (by decide) (by decide) rfl (Nat.le_of_ble_eq_true rfl) (b_none ?_)
    exact q_iret hR dX8_note_89 rfl ⟨_, rfl, h _ _ _ _ _ (hI2.st 8)⟩
  have hneg : ¬ plcv (gNt σ) r (gN σ) < 0 := fun z => by
    rw [hiff.mpr z] at c80
    exact absurd c80 (by decide)
  simp only [hneg, if_false] at h
  refine q_aload_n hK 0 dX8_note_90 rfl rfl ?_
  refine q_getf hK dX8_note_91 fX8_45 (by decide) rfl rfl ?_
  refine q_getf hK dX8_note_94 fX8_164 (by decide) rfl rfl ?_
  refine q_cVi0 hK dX8_note_97 lX8_173 (by decide) (nl_lt hl.1) (BB_nl hl.1) (Nat.le_of_ble_eq_true rfl) (b_isFull hl.1 hS2.2.2.1 n1 ?_)
  refine q_if_eq hK 110 dX8_note_100 (by decide) (fun c100 => ?_) (fun c100 => ?_)
  rotate_left
  · have q9 : gN σ = 24 := by simpa using (b2i_ne0 _).mp c100
    simp only [q9, if_true] at h
    refine q_aload_n hK 0 dX8_note_103 rfl rfl ?_
    refine q_bipush (v := nI 6) hK dX8_note_104 (by decide) ?_
    refine q_cVi1 hK dX8_note_106 lX8_100 (by decide) (by decide) rfl (Nat.le_of_ble_eq_true rfl) (b_none ?_)
    exact q_iret hR dX8_note_109 rfl ⟨_, rfl, h _ _ _ _ _ (hI2.st 6)⟩
  have q9 : ¬ gN σ = 24 := by simpa using (b2i_eq0 _).mp c100
  simp only [q9, if_false] at h
  refine q_aload_n hK 0 dX8_note_110 rfl rfl ?_
  refine q_aload_n hK 0 dX8_note_111 rfl rfl ?_
  refine q_getf hK dX8_note_112 fX8_45 (by decide) rfl rfl ?_
  refine q_getf hK dX8_note_115 fX8_164 (by decide) rfl rfl ?_
  refine q_aload_n hK 0 dX8_note_118 rfl rfl ?_
  refine q_getf hK dX8_note_119 fX8_45 (by decide) rfl rfl ?_
  refine q_getf hK dX8_note_122 fX8_164 (by decide) rfl rfl ?_
  refine q_aload_n hK 0 dX8_note_125 rfl rfl ?_
  refine q_getf hK dX8_note_126 fX8_18 (by decide) rfl rfl ?_
  refine q_aload_n hK 0 dX8_note_129 rfl rfl ?_
  refine q_getf hK dX8_note_130 fX8_29 (by decide) rfl rfl ?_
  refine q_cVi2 hK dX8_note_133 lX8_176 (by decide) (nl_lt hl.1) (BB_nl hl.1) (Nat.le_of_ble_eq_true rfl) (b_placeOf hl.1 (hO.at hl.1) (r := 22) rfl (by decide) hS2.2.2.1 n1 hS2.2.2.2.2.1 hr22 (mono_srt hsr) (fun w Z3 V3 F3 w1 w2 w3 v1 v2 => ?_))
  have hpl := plcv_j hneg w1 w2 w3
  have hI3 := hI2.sc v1 v2 (by decide)
  have hS3 := hI3.2.2.2.2.1.2.2.1 (by omega)
  obtain ⟨j, j1, j2, j3, j4, j5⟩ := plc_pos n4 (by omega) hper hr hneg
  have hjw : j = w := by omega
  subst hjw
  rw [hpl, Int.toNat_natCast, ← jI_nat] at h
  refine q_aload_n hK 0 dX8_note_136 rfl rfl ?_
  refine q_getf hK dX8_note_137 fX8_18 (by decide) rfl rfl ?_
  refine q_cVi2 hK dX8_note_140 lX8_180 (by decide) (nl_lt hl.1) (BB_nl hl.1) (Nat.le_of_ble_eq_true rfl) (b_insert hl.1 (hO.at hl.1) (r := 22) rfl hS3.2.2.1 (by omega) w1 (fun fi hfi => ?_))
  refine q_cVi1 hK dX8_note_143 lX8_106 (by decide) (by decide) rfl (Nat.le_of_ble_eq_true rfl) (b_answer ?_)
  have hP7 := hO.at hl.1
  have hrc := hP7.rng (show gN σ < 24 by omega)
  have hP' : nlP (va_up P (P 33 7 + 1) (insP (P (P 33 7 + 1)) j (gN σ))) (P 33 7) := nlP_ins hP7 w1 (by omega)
  have h33 : va_up P (P 33 7 + 1) (insP (P (P 33 7 + 1)) j (gN σ)) 33 = P 33 := up_ne (by rcases hl.1 with z | z <;> omega)
  have old : ∀ t, t < gN σ → has6 (va_up F3 (P (P 33 7 + 1) (gN σ)) fi (P (P 33 7 + 1) t)) (gNt σ t) 24 := fun t ht k hk => by
    rw [up_ne (fun z => by have := hP7.2 t (gN σ) (by omega) (by omega) z; omega)]
    exact hS3.2.2.2.2.1 t ht k hk
  have hSn : scI (va_up (va_up Z3 (nlZ (P 33 7)) (nI (gN σ + 1))) 1 0) (va_up P (P 33 7 + 1) (insP (P (P 33 7 + 1)) j (gN σ))) (va_up F3 (P (P 33 7 + 1) (gN σ)) fi) (gN σ + 1) (insR (gNt σ) j r) := by
    unfold scI
    rw [h33]
    refine ⟨hl.1, hP', by rw [up_ne (by omega), up_same], ⟨by omega, by omega⟩, fun i hi2 => ?_, fun k hk => ?_⟩
    · rw [up_same]
      unfold insP insR
      by_cases e1 : i < j
      · rw [if_pos e1, if_pos e1]; exact old i (by omega)
      · rw [if_neg e1, if_neg e1]
        by_cases e2 : i = j
        · rw [if_pos e2, if_pos e2]
          intro k hk
          rw [up_same, hfi k hk, v2 22 (by decide)]
          exact hr22 k hk
        · rw [if_neg e2, if_neg e2, if_pos (by omega)]
          exact old (i - 1) (by omega)
    · rw [up_ne (by omega)]
      unfold insR
      rw [if_neg (by omega), if_neg (by omega), Nat.add_sub_cancel]
      exact hS3.2.2.2.2.2 k hk
  exact q_iret hR dX8_note_146 rfl ⟨_, rfl, h _ _ _ _ _ (hI3.nw (by rw [up_ne (by decide), up_ne (by omega)]) (up_same _ _ _) (by rw [up_ne (by decide), up_ne (by omega)]) (fun x hx => by rw [up_ne (by omega)]) (hO.of hl.1 (eqo.rf.up (by simp)) hP') hSn (wfS_ins n4 (by omega) j2 j3 j4 j5))⟩
theorem B_lay {σ : Sg} {a b m : Int32} {Q : Int32 → Mem → Prop} (hI : BI Z P F σ) (h : ∀ Z' V' P' F' L', BI Z' P' F' (sp_lay σ a b m).2 → Q (sp_lay σ a b m).1 (BB X Z' V' P' F' L' g)) : CallI X 9 yX8_lay [rf X 19, .int a, .int b, .int m] (BB X Z V P F L g) Q := by
  have hO := hI.2.2.2.2.2.2
  have hl := hO.2.2.2.1
  refine CallM_intro (own := RX8) [some (rf X 19), some (.int a), some (.int b), some (.int m), none] wX8_lay (by decide) (by decide) rfl (Nat.le_of_ble_eq_true rfl) rfl (fun K hK hR => ?_)
  have bad1 : (isIn a 16 && isIn b 16) = false → K (BB X Z V P F L g) 14 [some (rf X 19), some (.int a), some (.int b), some (.int m), none] [] := by
    intro hb
    simp only [sp_lay, hb] at h
    refine q_aload_n hK 0 dX8_lay_14 rfl rfl ?_
    refine q_iconst (v := nI 1) hK dX8_lay_15 (by decide) ?_
    refine q_cVi1 hK dX8_lay_16 lX8_67 (by decide) (by decide) rfl (Nat.le_of_ble_eq_true rfl) (b_refuse ?_)
    exact q_iret hR dX8_lay_19 rfl ⟨_, rfl, h _ _ _ _ _ (hI.st 1)⟩
  refine q_iload_n hK 1 dX8_lay_0 rfl rfl ?_
  refine q_cSi1 hK dX8_lay_1 lX8_63 (by decide) (Nat.le_of_ble_eq_true rfl) (b_isShelf ?_)
  refine q_if_eq hK 14 dX8_lay_4 (by decide) (fun c4 => ?_) (fun c4 => ?_)
  · exact bad1 (by simp [(b2i_eq0 _).mp c4])
  have ha := (b2i_ne0 _).mp c4
  refine q_iload_n hK 2 dX8_lay_7 rfl rfl ?_
  refine q_cSi1 hK dX8_lay_8 lX8_63 (by decide) (Nat.le_of_ble_eq_true rfl) (b_isShelf ?_)
  refine q_if_ne hK 20 dX8_lay_11 (by decide) (fun c11 => ?_) (fun c11 => ?_)
  rotate_left
  · exact bad1 (by simp [(b2i_eq0 _).mp c11])
  have hb := (b2i_ne0 _).mp c11
  clear bad1
  obtain ⟨ia, ha1, rfl, ha2⟩ := isIn_ex ha (by decide)
  obtain ⟨ib, hb1, rfl, hb2⟩ := isIn_ex hb (by decide)
  simp only [sp_lay, ha, hb, onS, rowS, ha2, hb2, Bool.and_self, if_true] at h
  have bad2 : (gOn σ ia && gOn σ ib) = false → K (BB X Z V P F L g) 38 [some (rf X 19), some (.int (nI ia)), some (.int (nI ib)), some (.int m), none] [] := by
    intro hb
    simp only [hb] at h
    refine q_aload_n hK 0 dX8_lay_38 rfl rfl ?_
    refine q_iconst (v := nI 2) hK dX8_lay_39 (by decide) ?_
    refine q_cVi1 hK dX8_lay_40 lX8_67 (by decide) (by decide) rfl (Nat.le_of_ble_eq_true rfl) (b_refuse ?_)
    exact q_iret hR dX8_lay_43 rfl ⟨_, rfl, h _ _ _ _ _ (hI.st 2)⟩
  refine q_aload_n hK 0 dX8_lay_20 rfl rfl ?_
  refine q_getf hK dX8_lay_21 fX8_14 (by decide) rfl rfl ?_
  refine q_iload_n hK 1 dX8_lay_24 rfl rfl ?_
  refine qb_zald hK dX8_lay_25 rfl ha1 ?_
  rw [hI.2.1 ia ha1]
  refine q_if_eq hK 38 dX8_lay_26 (by decide) (fun c26 => ?_) (fun c26 => ?_)
  · exact bad2 (by simp [(b2i_eq0 _).mp c26])
  have oa := (b2i_ne0 _).mp c26
  refine q_aload_n hK 0 dX8_lay_29 rfl rfl ?_
  refine q_getf hK dX8_lay_30 fX8_14 (by decide) rfl rfl ?_
  refine q_iload_n hK 2 dX8_lay_33 rfl rfl ?_
  refine qb_zald hK dX8_lay_34 rfl hb1 ?_
  rw [hI.2.1 ib hb1]
  refine q_if_ne hK 44 dX8_lay_35 (by decide) (fun c35 => ?_) (fun c35 => ?_)
  rotate_left
  · exact bad2 (by simp [(b2i_eq0 _).mp c35])
  have ob := (b2i_ne0 _).mp c35
  clear bad2
  simp only [oa, ob, Bool.and_self, if_true] at h
  have rA := hI.2.2.1 ia ha1 oa
  have rB := hI.2.2.1 ib hb1 ob
  have bA := bR_sh ha1
  have bB1 := bR_sh hb1
  have bad3 : ¬ (1 ≤ m.toInt ∧ m.toInt ≤ 24) → K (BB X Z V P F L g) 55 [some (rf X 19), some (.int (nI ia)), some (.int (nI ib)), some (.int m), none] [] := by
    intro hb
    have hb' : (decide (1 ≤ m.toInt) && decide (m.toInt ≤ 24)) = false := by simp; omega
    simp only [hb'] at h
    refine q_aload_n hK 0 dX8_lay_55 rfl rfl ?_
    refine q_iconst (v := nI 3) hK dX8_lay_56 (by decide) ?_
    refine q_cVi1 hK dX8_lay_57 lX8_67 (by decide) (by decide) rfl (Nat.le_of_ble_eq_true rfl) (b_refuse ?_)
    exact q_iret hR dX8_lay_60 rfl ⟨_, rfl, h _ _ _ _ _ (hI.st 3)⟩
  refine q_iload_n hK 3 dX8_lay_44 rfl rfl ?_
  refine q_iconst (v := nI 1) hK dX8_lay_45 (by decide) ?_
  refine q_icmp_lt hK 55 dX8_lay_46 (by decide) (fun c46 => ?_) (fun c46 => ?_)
  · exact bad3 (by have := Int32.lt_iff_toInt_lt.mp c46; rw [nI_toInt (by decide)] at this; omega)
  have d1 := mt (Int32.lt_iff_toInt_lt (x := m) (y := nI 1)).mpr c46
  rw [nI_toInt (by decide)] at d1
  refine q_iload_n hK 3 dX8_lay_49 rfl rfl ?_
  refine q_bipush (v := nI 24) hK dX8_lay_50 (by decide) ?_
  refine q_icmp_le hK 61 dX8_lay_52 (by decide) (fun c52 => ?_) (fun c52 => ?_)
  rotate_left
  · exact bad3 (by have := mt (Int32.le_iff_toInt_le (x := m) (y := nI 24)).mpr c52; rw [nI_toInt (by decide)] at this; omega)
  have d2 := Int32.le_iff_toInt_le.mp c52
  rw [nI_toInt (by decide)] at d2
  clear bad3
  have hb' : (decide (1 ≤ m.toInt) && decide (m.toInt ≤ 24)) = true := by simp; omega
  simp only [hb', if_true] at h
  obtain ⟨mm, hm1, hm2, rfl, hm3⟩ := big_ex (x := m) (by omega) (by omega)
  rw [hm3] at h
  have hmm : mm ≤ 24 := by rw [nI_toInt (by omega)] at d2; omega
  refine q_aload_n hK 0 dX8_lay_61 rfl rfl ?_
  refine q_getf hK dX8_lay_62 fX8_29 (by decide) rfl rfl ?_
  refine q_aload_n hK 0 dX8_lay_65 rfl rfl ?_
  refine q_getf hK dX8_lay_66 fX8_11 (by decide) rfl rfl ?_
  refine q_iload_n hK 1 dX8_lay_69 rfl rfl ?_
  refine qb_aald20 hK dX8_lay_70 rfl ha1 ?_
  refine q_cVi1 hK dX8_lay_71 lX8_84 (by decide) (by decide) rfl (Nat.le_of_ble_eq_true rfl) (b_sign bA (rA.le (by decide)) (fun Z1 V1 F1 y1 y2 => ?_))
  have hI1 := hI.sc y1 y2 (by decide)
  have sr := sgn_range (gRow σ ia)
  refine q_if_gt hK 83 dX8_lay_74 (by decide) (fun c74 => ?_) (fun c74 => ?_)
  rotate_left
  · have q2 := mt (jI_0lt (b := sgn (gRow σ ia)) (by omega) (by omega)).mpr c74
    simp only [q2, if_false] at h
    refine q_aload_n hK 0 dX8_lay_77 rfl rfl ?_
    refine q_iconst (v := nI 5) hK dX8_lay_78 (by decide) ?_
    refine q_cVi1 hK dX8_lay_79 lX8_67 (by decide) (by decide) rfl (Nat.le_of_ble_eq_true rfl) (b_refuse ?_)
    exact q_iret hR dX8_lay_82 rfl ⟨_, rfl, h _ _ _ _ _ (hI1.st 5)⟩
  have q2 := (jI_0lt (by omega) (by omega)).mp c74
  simp only [q2, if_true] at h
  have rA1 : has6 (F1 (48 + ia)) (gRow σ ia) 24 := hI1.2.2.1 ia ha1 oa
  have rB1 : has6 (F1 (48 + ib)) (gRow σ ib) 24 := hI1.2.2.1 ib hb1 ob
  refine q_aload_n hK 0 dX8_lay_83 rfl rfl ?_
  refine q_getf hK dX8_lay_84 fX8_45 (by decide) rfl rfl ?_
  refine q_aload_n hK 0 dX8_lay_87 rfl rfl ?_
  refine q_getf hK dX8_lay_88 fX8_11 (by decide) rfl rfl ?_
  refine q_iload_n hK 1 dX8_lay_91 rfl rfl ?_
  refine qb_aald20 hK dX8_lay_92 rfl ha1 ?_
  refine q_aload_n hK 0 dX8_lay_93 rfl rfl ?_
  refine q_getf hK dX8_lay_94 fX8_11 (by decide) rfl rfl ?_
  refine q_iload_n hK 2 dX8_lay_97 rfl rfl ?_
  refine qb_aald20 hK dX8_lay_98 rfl hb1 ?_
  refine q_iload_n hK 3 dX8_lay_99 rfl rfl ?_
  refine q_cVi3 hK dX8_lay_100 lX8_184 (by decide) (by decide) rfl (Nat.le_of_ble_eq_true rfl) (b_stack hO bA (by omega) (by omega) bB1 (by omega) (by omega) rA1 rB1 q2 hm1 hmm (fun hno Z' V' P' F' hly => ?_) (fun s hs hs2 Z' V' P' F' hly => ?_) (fun s hs hs2 Z' V' P' F' f hly hz hrow hf => ?_))
  · simp only [hno] at h
    refine q_istore hK dX8_lay_103 (by decide) ?_
    refine q_iload hK dX8_lay_105 rfl ?_
    refine q_if_ne hK 117 dX8_lay_107 (by decide) (fun c107 => ?_) (fun c107 => ?_)
    rotate_left
    · exact absurd c107 (by decide)
    refine q_aload_n hK 0 dX8_lay_117 rfl rfl ?_
    refine q_iload hK dX8_lay_118 rfl ?_
    refine q_cVi1 hK dX8_lay_120 lX8_67 (by decide) (by decide) rfl (Nat.le_of_ble_eq_true rfl) (b_refuse ?_)
    exact q_iret hR dX8_lay_123 rfl ⟨_, rfl, h _ _ _ _ _ ((lyF.bi hI1 hly).st 4)⟩
  · simp only [hs, hs2, if_true] at h
    refine q_istore hK dX8_lay_103 (by decide) ?_
    refine q_iload hK dX8_lay_105 rfl ?_
    refine q_if_ne hK 117 dX8_lay_107 (by decide) (fun c107 => ?_) (fun c107 => ?_)
    rotate_left
    · exact absurd c107 (by decide)
    refine q_aload_n hK 0 dX8_lay_117 rfl rfl ?_
    refine q_iload hK dX8_lay_118 rfl ?_
    refine q_cVi1 hK dX8_lay_120 lX8_67 (by decide) (by decide) rfl (Nat.le_of_ble_eq_true rfl) (b_refuse ?_)
    exact q_iret hR dX8_lay_123 rfl ⟨_, rfl, h _ _ _ _ _ ((lyF.bi hI1 hly).st 8)⟩
  · simp only [hs, hs2, Bool.false_eq_true, if_false] at h
    have hI2 := lyF.bi hI1 hly
    obtain ⟨y1', y2', y3', y4'⟩ := hly
    have e33 : P' 33 = P 33 := y2' 33 (by simp; rcases hl.2.1 with z | z <;> omega)
    have hlay := layS_ok q2 hs
    have hi8 := nlZ_in (a := P 33 8)
    have hO' : pOk (va_up P' 33 (va_up (va_up (P 33) 7 (P 33 8)) 8 (P 33 7))) := by
      have := hI2.2.2.2.2.2.2.take
      rw [e33] at this
      exact this
    have hSn : scI (va_up Z' 1 0) (va_up P' 33 (va_up (va_up (P 33) 7 (P 33 8)) 8 (P 33 7))) (va_up F' 34 f) s.1 s.2.1 := by
      unfold scI
      rw [up_same, up_ne (by decide : (7 : Nat) ≠ 8), up_same]
      have hc1 : P 33 8 + 1 ≠ 33 := by rcases hl.2.1 with z | z <;> omega
      refine ⟨hl.2.1, ?_, by rw [up_ne (by omega)]; exact hz, ⟨hlay.2.1, by have := hlay.2.2.1; omega⟩, fun i hi2 => ?_, fun k hk => ?_⟩
      · unfold nlP
        rw [up_ne hc1]
        exact y3'
      · have := hlay.2.2.1
        have := y3'.rng (show i < 24 by omega)
        rw [up_ne hc1, up_ne (by omega)]
        exact hrow i hi2
      · rw [up_same, hf k hk, hlay.2.2.2.1]
        exact ⟨rfl, (rA k hk).2⟩
    refine q_istore hK dX8_lay_103 (by decide) ?_
    refine q_iload hK dX8_lay_105 rfl ?_
    refine q_if_ne hK 117 dX8_lay_107 (by decide) (fun c107 => ?_) (fun c107 => ?_)
    · exact absurd rfl c107
    refine q_aload_n hK 0 dX8_lay_110 rfl rfl ?_
    refine q_cVi0 hK dX8_lay_111 lX8_96 (by decide) (by decide) rfl (Nat.le_of_ble_eq_true rfl) (b_accept ?_)
    refine q_goto hK 123 dX8_lay_114 (by decide) ?_
    exact q_iret hR dX8_lay_123 rfl ⟨_, rfl, h _ _ _ _ _ (hI2.nw (by rw [up_ne (by decide)]) (up_same _ _ _) (by rw [up_ne (by decide)]) (fun x hx => by rw [up_ne (by omega)]) hO' hSn hlay.1)⟩
theorem B_take {σ : Sg} {i t : Int32} {Q : Int32 → Mem → Prop} (hI : BI Z P F σ) (h : ∀ Z' V' P' F' L', BI Z' P' F' (sp_take σ i t).2 → Q (sp_take σ i t).1 (BB X Z' V' P' F' L' g)) : CallI X 9 yX8_take [rf X 19, .int i, .int t] (BB X Z V P F L g) Q := by
  obtain ⟨n1, n2, n3, n4⟩ := hI.2.2.2.2.1
  have hO := hI.2.2.2.2.2.2
  have hl := hO.2.2.2.1
  refine CallM_intro (own := RX8) [some (rf X 19), some (.int i), some (.int t)] wX8_take (by decide) (by decide) rfl (Nat.le_of_ble_eq_true rfl) rfl (fun K hK hR => ?_)
  refine q_iload_n hK 2 dX8_take_0 rfl rfl ?_
  refine q_cSi1 hK dX8_take_1 lX8_63 (by decide) (Nat.le_of_ble_eq_true rfl) (b_isShelf ?_)
  refine q_if_ne hK 13 dX8_take_4 (by decide) (fun c4 => ?_) (fun c4 => ?_)
  rotate_left
  · have hs := (b2i_eq0 _).mp c4
    simp only [sp_take, hs] at h
    refine q_aload_n hK 0 dX8_take_7 rfl rfl ?_
    refine q_iconst (v := nI 1) hK dX8_take_8 (by decide) ?_
    refine q_cVi1 hK dX8_take_9 lX8_67 (by decide) (by decide) rfl (Nat.le_of_ble_eq_true rfl) (b_refuse ?_)
    exact q_iret hR dX8_take_12 rfl ⟨_, rfl, h _ _ _ _ _ (hI.st 1)⟩
  have hs := (b2i_ne0 _).mp c4
  obtain ⟨it, ht1, rfl, ht2⟩ := isIn_ex hs (by decide)
  simp only [sp_take, hs, ht2, if_true] at h
  refine q_aload_n hK 0 dX8_take_13 rfl rfl ?_
  refine q_getf hK dX8_take_14 fX8_45 (by decide) rfl rfl ?_
  refine q_cVi0 hK dX8_take_17 lX8_158 (by decide) (by decide) rfl (Nat.le_of_ble_eq_true rfl) (b_exists hl.1 n2 n1 ?_)
  refine q_if_ne hK 30 dX8_take_20 (by decide) (fun c20 => ?_) (fun c20 => ?_)
  rotate_left
  · have q : gN σ = 0 := by have := (b2i_eq0 _).mp c20; simp at this; omega
    simp only [q, if_true] at h
    refine q_aload_n hK 0 dX8_take_23 rfl rfl ?_
    refine q_bipush (v := nI 7) hK dX8_take_24 (by decide) ?_
    refine q_cVi1 hK dX8_take_26 lX8_67 (by decide) (by decide) rfl (Nat.le_of_ble_eq_true rfl) (b_refuse ?_)
    exact q_iret hR dX8_take_29 rfl ⟨_, rfl, h _ _ _ _ _ (hI.st 7)⟩
  have q : ¬ gN σ = 0 := by have := (b2i_ne0 _).mp c20; simp at this; omega
  simp only [q, if_false] at h
  have hS := n3 (by omega)
  have bad : isIn i (gN σ + 1) = false → K (BB X Z V P F L g) 48 [some (rf X 19), some (.int i), some (.int (nI it))] [] := by
    intro hb
    simp only [hb] at h
    refine q_aload_n hK 0 dX8_take_48 rfl rfl ?_
    refine q_iconst (v := nI 3) hK dX8_take_49 (by decide) ?_
    refine q_cVi1 hK dX8_take_50 lX8_67 (by decide) (by decide) rfl (Nat.le_of_ble_eq_true rfl) (b_refuse ?_)
    exact q_iret hR dX8_take_53 rfl ⟨_, rfl, h _ _ _ _ _ (hI.st 3)⟩
  refine q_iload_n hK 1 dX8_take_30 rfl rfl ?_
  refine q_if_lt hK 48 dX8_take_31 (by decide) (fun c31 => ?_) (fun c31 => ?_)
  · exact bad (by have := lt0_iff.mp c31; simp [isIn]; omega)
  refine q_iload_n hK 1 dX8_take_34 rfl rfl ?_
  refine q_aload_n hK 0 dX8_take_35 rfl rfl ?_
  refine q_getf hK dX8_take_36 fX8_45 (by decide) rfl rfl ?_
  refine q_getf hK dX8_take_39 fX8_164 (by decide) rfl rfl ?_
  refine q_getf hK dX8_take_42 fX8_188 (nl_lt hl.1) (BB_nl hl.1) rfl ?_
  rw [n2]
  refine q_icmp_le hK 54 dX8_take_45 (by decide) (fun c45 => ?_) (fun c45 => ?_)
  rotate_left
  · exact bad (by have := mt (Int32.le_iff_toInt_le (x := i) (y := nI (gN σ))).mpr c45; rw [nI_toInt (by omega)] at this; simp [isIn]; omega)
  have hi : isIn i (gN σ + 1) = true := by
    have h1 := mt lt0_iff.mpr c31
    have h2 := Int32.le_iff_toInt_le.mp c45
    rw [nI_toInt (by omega)] at h2
    simp [isIn]
    omega
  obtain ⟨ii, hi1, rfl, hi2⟩ := isIn_ex hi (by omega)
  simp only [hi, hi2, if_true] at h
  refine q_aload_n hK 0 dX8_take_54 rfl rfl ?_
  refine q_getf hK dX8_take_55 fX8_45 (by decide) rfl rfl ?_
  refine q_iload_n hK 1 dX8_take_58 rfl rfl ?_
  refine q_aload_n hK 0 dX8_take_59 rfl rfl ?_
  refine q_getf hK dX8_take_60 fX8_18 (by decide) rfl rfl ?_
  refine q_cVv2 hK dX8_take_63 lX8_189 (by decide) (by decide) rfl (Nat.le_of_ble_eq_true rfl) (b_readNote hS (t := 22) rfl (by omega) (fun f hf => ?_))
  have hX : hasX (va_up F 22 f 22) (ntA (gN σ) (gNt σ) ii) := fun k hk => by
    have := ntA_bd2 (i := ii) hS.2.2.2.1.1 (by omega) hS.bd hk
    rw [up_same, hf k hk]
    exact ⟨rfl, by omega, by omega⟩
  refine q_aload_n hK 0 dX8_take_66 rfl rfl ?_
  refine q_iload_n hK 2 dX8_take_67 rfl rfl ?_
  refine q_cVi1 hK dX8_take_68 lX8_70 (by decide) (by decide) rfl (Nat.le_of_ble_eq_true rfl) (b_putMade hI.sc22 ht1 hX (fun Z' F' hI' => ?_))
  exact q_iret hR dX8_take_71 (nar_put ..) ⟨_, rfl, h Z' V P F' L hI'⟩
theorem B_kinds {σ : Sg} {k : Int32} {Q : Int32 → Mem → Prop} (hI : BI Z P F σ) (h : ∀ Z' V' P' F' L', BI Z' P' F' (sp_kinds σ k).2 → Q (sp_kinds σ k).1 (BB X Z' V' P' F' L' g)) : CallI X 9 yX8_kinds [rf X 19, .int k] (BB X Z V P F L g) Q := by
  refine CallM_intro (own := RX8) [some (rf X 19), some (.int k)] wX8_kinds (by decide) (by decide) rfl (Nat.le_of_ble_eq_true rfl) rfl (fun K hK hR => ?_)
  obtain ⟨n1, n2, n3, n4⟩ := hI.2.2.2.2.1
  have hO := hI.2.2.2.2.2.2
  have hl := hO.2.2.2.1
  refine q_aload_n hK 0 dX8_kinds_0 rfl rfl ?_
  refine q_getf hK dX8_kinds_1 fX8_45 (by decide) rfl rfl ?_
  refine q_cVi0 hK dX8_kinds_4 lX8_158 (by decide) (by decide) rfl (Nat.le_of_ble_eq_true rfl) (b_exists hl.1 n2 n1 ?_)
  refine q_if_ne hK 17 dX8_kinds_7 (by decide) (fun c7 => ?_) (fun c7 => ?_)
  rotate_left
  · have q : gN σ = 0 := by have := (b2i_eq0 _).mp c7; simp at this; omega
    simp only [sp_kinds, q, if_true] at h
    refine q_aload_n hK 0 dX8_kinds_10 rfl rfl ?_
    refine q_bipush (v := nI 7) hK dX8_kinds_11 (by decide) ?_
    refine q_cVi1 hK dX8_kinds_13 lX8_100 (by decide) (by decide) rfl (Nat.le_of_ble_eq_true rfl) (b_none ?_)
    exact q_iret hR dX8_kinds_16 rfl ⟨_, rfl, h _ _ _ _ _ (hI.st 7)⟩
  have q : ¬ gN σ = 0 := by have := (b2i_ne0 _).mp c7; simp at this; omega
  simp only [sp_kinds, q, if_false] at h
  have hS := n3 (by omega)
  have bad : ¬ (1 ≤ k.toInt ∧ k.toInt ≤ gN σ) → K (BB X Z V P F L g) 36 [some (rf X 19), some (.int k)] [] := by
    intro hb
    simp only [show (decide (1 ≤ k.toInt) && decide (k.toInt ≤ gN σ)) = false by simp; omega] at h
    refine q_aload_n hK 0 dX8_kinds_36 rfl rfl ?_
    refine q_iconst (v := nI 3) hK dX8_kinds_37 (by decide) ?_
    refine q_cVi1 hK dX8_kinds_38 lX8_100 (by decide) (by decide) rfl (Nat.le_of_ble_eq_true rfl) (b_none ?_)
    exact q_iret hR dX8_kinds_41 rfl ⟨_, rfl, h _ _ _ _ _ (hI.st 3)⟩
  refine q_iload_n hK 1 dX8_kinds_17 rfl rfl ?_
  refine q_iconst (v := nI 1) hK dX8_kinds_18 (by decide) ?_
  refine q_icmp_lt hK 36 dX8_kinds_19 (by decide) (fun c19 => ?_) (fun c19 => ?_)
  · exact bad (by have := Int32.lt_iff_toInt_lt.mp c19; rw [nI_toInt (by decide)] at this; omega)
  have d1 := mt (Int32.lt_iff_toInt_lt (x := k) (y := nI 1)).mpr c19
  rw [nI_toInt (by decide)] at d1
  refine q_iload_n hK 1 dX8_kinds_22 rfl rfl ?_
  refine q_aload_n hK 0 dX8_kinds_23 rfl rfl ?_
  refine q_getf hK dX8_kinds_24 fX8_45 (by decide) rfl rfl ?_
  refine q_getf hK dX8_kinds_27 fX8_164 (by decide) rfl rfl ?_
  refine q_getf hK dX8_kinds_30 fX8_188 (nl_lt hl.1) (BB_nl hl.1) rfl ?_
  rw [n2]
  refine q_icmp_le hK 42 dX8_kinds_33 (by decide) (fun c33 => ?_) (fun c33 => ?_)
  rotate_left
  · exact bad (by have := mt (Int32.le_iff_toInt_le (x := k) (y := nI (gN σ))).mpr c33; rw [nI_toInt (by omega)] at this; omega)
  have d2 := Int32.le_iff_toInt_le.mp c33
  rw [nI_toInt (by omega)] at d2
  clear bad
  simp only [show (decide (1 ≤ k.toInt) && decide (k.toInt ≤ gN σ)) = true by simp; omega, if_true] at h
  obtain ⟨kk, hk1, hk2, rfl, hk3⟩ := big_ex (x := k) (by omega) (by omega)
  rw [hk3] at h
  have hkn : kk ≤ gN σ := by rw [nI_toInt (by omega)] at d2; omega
  refine q_aload_n hK 0 dX8_kinds_42 rfl rfl ?_
  refine q_aload_n hK 0 dX8_kinds_43 rfl rfl ?_
  refine q_getf hK dX8_kinds_44 fX8_45 (by decide) rfl rfl ?_
  refine q_iload_n hK 1 dX8_kinds_47 rfl rfl ?_
  refine q_cVi1 hK dX8_kinds_48 lX8_203 (by decide) (by decide) rfl (Nat.le_of_ble_eq_true rfl) (b_gather hS hO.2.1 hkn (fun F' π ρ y1 y2 => ?_))
  refine q_cVi1 hK dX8_kinds_51 lX8_106 (by decide) (by decide) rfl (Nat.le_of_ble_eq_true rfl) (b_answer ?_)
  exact q_iret hR dX8_kinds_54 rfl ⟨_, rfl, h _ _ _ _ _ ((hI.scS eqo.rf (frS_g y1)).st 0)⟩
theorem B_step {σ : Sg} {k j t : Int32} {Q : Int32 → Mem → Prop} (hI : BI Z P F σ) (h : ∀ Z' V' P' F' L', BI Z' P' F' (sp_step σ k j t).2 → Q (sp_step σ k j t).1 (BB X Z' V' P' F' L' g)) : CallI X 9 yX8_step [rf X 19, .int k, .int j, .int t] (BB X Z V P F L g) Q := by
  obtain ⟨n1, n2, n3, n4⟩ := hI.2.2.2.2.1
  have hO := hI.2.2.2.2.2.2
  have hl := hO.2.2.2.1
  refine CallM_intro (own := RX8) [some (rf X 19), some (.int k), some (.int j), some (.int t), none, none] wX8_step (by decide) (by decide) rfl (Nat.le_of_ble_eq_true rfl) rfl (fun K hK hR => ?_)
  refine q_iload_n hK 3 dX8_step_0 rfl rfl ?_
  refine q_cSi1 hK dX8_step_1 lX8_63 (by decide) (Nat.le_of_ble_eq_true rfl) (b_isShelf ?_)
  refine q_if_ne hK 13 dX8_step_4 (by decide) (fun c4 => ?_) (fun c4 => ?_)
  rotate_left
  · have hs := (b2i_eq0 _).mp c4
    simp only [sp_step, hs] at h
    refine q_aload_n hK 0 dX8_step_7 rfl rfl ?_
    refine q_iconst (v := nI 1) hK dX8_step_8 (by decide) ?_
    refine q_cVi1 hK dX8_step_9 lX8_100 (by decide) (by decide) rfl (Nat.le_of_ble_eq_true rfl) (b_none ?_)
    exact q_iret hR dX8_step_12 rfl ⟨_, rfl, h _ _ _ _ _ (hI.st 1)⟩
  have hs := (b2i_ne0 _).mp c4
  obtain ⟨it, ht1, rfl, ht2⟩ := isIn_ex hs (by decide)
  simp only [sp_step, hs, ht2, if_true] at h
  refine q_aload_n hK 0 dX8_step_13 rfl rfl ?_
  refine q_getf hK dX8_step_14 fX8_45 (by decide) rfl rfl ?_
  refine q_cVi0 hK dX8_step_17 lX8_158 (by decide) (by decide) rfl (Nat.le_of_ble_eq_true rfl) (b_exists hl.1 n2 n1 ?_)
  refine q_if_ne hK 30 dX8_step_20 (by decide) (fun c20 => ?_) (fun c20 => ?_)
  rotate_left
  · have q : gN σ = 0 := by have := (b2i_eq0 _).mp c20; simp at this; omega
    simp only [q, if_true] at h
    refine q_aload_n hK 0 dX8_step_23 rfl rfl ?_
    refine q_bipush (v := nI 7) hK dX8_step_24 (by decide) ?_
    refine q_cVi1 hK dX8_step_26 lX8_100 (by decide) (by decide) rfl (Nat.le_of_ble_eq_true rfl) (b_none ?_)
    exact q_iret hR dX8_step_29 rfl ⟨_, rfl, h _ _ _ _ _ (hI.st 7)⟩
  have q : ¬ gN σ = 0 := by have := (b2i_ne0 _).mp c20; simp at this; omega
  simp only [q, if_false] at h
  have hS := n3 (by omega)
  have bad : ¬ (1 ≤ k.toInt ∧ k.toInt ≤ gN σ) → K (BB X Z V P F L g) 49 [some (rf X 19), some (.int k), some (.int j), some (.int (nI it)), none, none] [] := by
    intro hb
    simp only [show (decide (1 ≤ k.toInt) && decide (k.toInt ≤ gN σ)) = false by simp; omega] at h
    refine q_aload_n hK 0 dX8_step_49 rfl rfl ?_
    refine q_iconst (v := nI 3) hK dX8_step_50 (by decide) ?_
    refine q_cVi1 hK dX8_step_51 lX8_100 (by decide) (by decide) rfl (Nat.le_of_ble_eq_true rfl) (b_none ?_)
    exact q_iret hR dX8_step_54 rfl ⟨_, rfl, h _ _ _ _ _ (hI.st 3)⟩
  refine q_iload_n hK 1 dX8_step_30 rfl rfl ?_
  refine q_iconst (v := nI 1) hK dX8_step_31 (by decide) ?_
  refine q_icmp_lt hK 49 dX8_step_32 (by decide) (fun c32 => ?_) (fun c32 => ?_)
  · exact bad (by have := Int32.lt_iff_toInt_lt.mp c32; rw [nI_toInt (by decide)] at this; omega)
  have d1 := mt (Int32.lt_iff_toInt_lt (x := k) (y := nI 1)).mpr c32
  rw [nI_toInt (by decide)] at d1
  refine q_iload_n hK 1 dX8_step_35 rfl rfl ?_
  refine q_aload_n hK 0 dX8_step_36 rfl rfl ?_
  refine q_getf hK dX8_step_37 fX8_45 (by decide) rfl rfl ?_
  refine q_getf hK dX8_step_40 fX8_164 (by decide) rfl rfl ?_
  refine q_getf hK dX8_step_43 fX8_188 (nl_lt hl.1) (BB_nl hl.1) rfl ?_
  rw [n2]
  refine q_icmp_le hK 55 dX8_step_46 (by decide) (fun c46 => ?_) (fun c46 => ?_)
  rotate_left
  · exact bad (by have := mt (Int32.le_iff_toInt_le (x := k) (y := nI (gN σ))).mpr c46; rw [nI_toInt (by omega)] at this; omega)
  have d2 := Int32.le_iff_toInt_le.mp c46
  rw [nI_toInt (by omega)] at d2
  clear bad
  simp only [show (decide (1 ≤ k.toInt) && decide (k.toInt ≤ gN σ)) = true by simp; omega, if_true] at h
  obtain ⟨kk, hk1, hk2, rfl, hk3⟩ := big_ex (x := k) (by omega) (by omega)
  rw [hk3] at h
  have hkn : kk ≤ gN σ := by rw [nI_toInt (by omega)] at d2; omega
  have hle := kS_le (gN σ) (gNt σ) kk (gN σ)
  have hsr := kS_srt (gN σ) (gNt σ) kk (gN σ)
  have hkb := kS_bd hS.2.2.2.1.1 hkn hS.bd (gN σ) (Nat.le_refl _)
  refine q_aload_n hK 0 dX8_step_55 rfl rfl ?_
  refine q_getf hK dX8_step_56 fX8_45 (by decide) rfl rfl ?_
  refine q_iload_n hK 1 dX8_step_59 rfl rfl ?_
  refine q_cVi1 hK dX8_step_60 lX8_203 (by decide) (by decide) rfl (Nat.le_of_ble_eq_true rfl) (b_gather hS hO.2.1 hkn (fun F1 π ρ y1 y2 => ?_))
  have hI1 := hI.scS eqo.rf (frS_g y1)
  generalize kS (gN σ) (gNt σ) kk (gN σ) = ks at *
  refine q_istore hK dX8_step_63 (by decide) ?_
  have bad : isIn j ks.1 = false → K (BB X Z V P F1 L g) 75 [some (rf X 19), some (.int (nI kk)), some (.int j), some (.int (nI it)), some (.int (nI ks.1)), none] [] := by
    intro hb
    simp only [hb] at h
    refine q_aload_n hK 0 dX8_step_75 rfl rfl ?_
    refine q_iconst (v := nI 3) hK dX8_step_76 (by decide) ?_
    refine q_cVi1 hK dX8_step_77 lX8_100 (by decide) (by decide) rfl (Nat.le_of_ble_eq_true rfl) (b_none ?_)
    exact q_iret hR dX8_step_80 rfl ⟨_, rfl, h _ _ _ _ _ (hI1.st 3)⟩
  refine q_iload_n hK 2 dX8_step_65 rfl rfl ?_
  refine q_if_lt hK 75 dX8_step_66 (by decide) (fun c66 => ?_) (fun c66 => ?_)
  · exact bad (by have := lt0_iff.mp c66; simp [isIn]; omega)
  refine q_iload_n hK 2 dX8_step_69 rfl rfl ?_
  refine q_iload hK dX8_step_70 rfl ?_
  refine q_icmp_lt hK 81 dX8_step_72 (by decide) (fun c72 => ?_) (fun c72 => ?_)
  rotate_left
  · exact bad (by have := mt (Int32.lt_iff_toInt_lt (x := j) (y := nI ks.1)).mpr c72; rw [nI_toInt (by omega)] at this; simp [isIn]; omega)
  have hj : isIn j ks.1 = true := by
    have h1 := mt lt0_iff.mpr c66
    have h2 := Int32.lt_iff_toInt_lt.mp c72
    rw [nI_toInt (by omega)] at h2
    simp [isIn]
    omega
  obtain ⟨jj, hj1, rfl, hj2⟩ := isIn_ex hj (by omega)
  simp only [hj, hj2, if_true] at h
  refine q_aload_n hK 0 dX8_step_81 rfl rfl ?_
  refine q_getf hK dX8_step_82 fX8_45 (by decide) rfl rfl ?_
  refine q_iload_n hK 2 dX8_step_85 rfl rfl ?_
  refine q_iload hK dX8_step_86 rfl ?_
  refine q_aload_n hK 0 dX8_step_88 rfl rfl ?_
  refine q_getf hK dX8_step_89 fX8_18 (by decide) rfl rfl ?_
  refine q_cVi3 hK dX8_step_92 lX8_206 (by decide) (by decide) rfl (Nat.le_of_ble_eq_true rfl) (b_readKind hO.2.1 y2 (by omega) hsr hkb hj1 (t := 22) rfl (fun Z2 V2 P2 F2 f x1 x2 x3 x4 hf _ => ?_))
  have hI2 : BI Z2 P2 (va_up F2 22 f) σ := ((hI1.scS x1 x4).p38 x2 x3).sc22
  have hX : hasX (va_up F2 22 f 22) (ks.2.1 jj) := fun k hk => by
    have := hkb jj hj1 k hk
    rw [up_same, hf k hk]
    exact ⟨rfl, by omega, by omega⟩
  refine q_istore hK dX8_step_95 (by decide) ?_
  refine q_aload_n hK 0 dX8_step_97 rfl rfl ?_
  refine q_iload_n hK 3 dX8_step_98 rfl rfl ?_
  refine q_cVi1 hK dX8_step_99 lX8_70 (by decide) (by decide) rfl (Nat.le_of_ble_eq_true rfl) (b_putMade hI2 ht1 hX (fun Z' F' hI' => ?_))
  have h := h Z' V2 P2 F' L hI'
  by_cases hfar : farV 24 (ks.2.1 jj) = true
  · rw [if_pos hfar] at h
    rw [show (sp_put σ it (ks.2.1 jj)).1 = 0 by unfold sp_put; rw [if_pos hfar]]
    refine q_if_eq hK 110 dX8_step_102 (by decide) (fun c102 => ?_) (fun c102 => ?_)
    rotate_left
    · exact absurd rfl c102
    refine q_iconst (v := jI (-1)) hK dX8_step_110 (by decide) ?_
    exact q_iret hR dX8_step_111 rfl ⟨_, rfl, h⟩
  · rw [if_neg hfar] at h
    rw [show (sp_put σ it (ks.2.1 jj)).1 = 1 by unfold sp_put; rw [if_neg hfar]]
    refine q_if_eq hK 110 dX8_step_102 (by decide) (fun c102 => ?_) (fun c102 => ?_)
    · exact absurd c102 (by decide)
    refine q_iload hK dX8_step_105 rfl ?_
    refine q_goto hK 111 dX8_step_107 (by decide) ?_
    exact q_iret hR dX8_step_111 rfl ⟨_, rfl, h⟩
theorem B_mode {σ : Sg} {i : Int32} {Q : Int32 → Mem → Prop} (hI : BI Z P F σ) (h : ∀ Z' V' P' F' L', BI Z' P' F' (sp_mode σ i).2 → Q (sp_mode σ i).1 (BB X Z' V' P' F' L' g)) : CallI X 9 yX8_mode [rf X 19, .int i] (BB X Z V P F L g) Q := by
  refine CallM_intro (own := RX8) [some (rf X 19), some (.int i)] wX8_mode (by decide) (by decide) rfl (Nat.le_of_ble_eq_true rfl) rfl (fun K hK hR => ?_)
  obtain ⟨n1, n2, n3, n4⟩ := hI.2.2.2.2.1
  have hO := hI.2.2.2.2.2.2
  have hl := hO.2.2.2.1
  refine q_aload_n hK 0 dX8_mode_0 rfl rfl ?_
  refine q_getf hK dX8_mode_1 fX8_45 (by decide) rfl rfl ?_
  refine q_cVi0 hK dX8_mode_4 lX8_158 (by decide) (by decide) rfl (Nat.le_of_ble_eq_true rfl) (b_exists hl.1 n2 n1 ?_)
  refine q_if_ne hK 17 dX8_mode_7 (by decide) (fun c7 => ?_) (fun c7 => ?_)
  rotate_left
  · have q : gN σ = 0 := by have := (b2i_eq0 _).mp c7; simp at this; omega
    simp only [sp_mode, q, if_true] at h
    refine q_aload_n hK 0 dX8_mode_10 rfl rfl ?_
    refine q_bipush (v := nI 7) hK dX8_mode_11 (by decide) ?_
    refine q_cVi1 hK dX8_mode_13 lX8_67 (by decide) (by decide) rfl (Nat.le_of_ble_eq_true rfl) (b_refuse ?_)
    exact q_iret hR dX8_mode_16 rfl ⟨_, rfl, h _ _ _ _ _ (hI.st 7)⟩
  have q : ¬ gN σ = 0 := by have := (b2i_ne0 _).mp c7; simp at this; omega
  simp only [sp_mode, q, if_false] at h
  have hS := n3 (by omega)
  have bad : isIn i (gN σ) = false → K (BB X Z V P F L g) 35 [some (rf X 19), some (.int i)] [] := by
    intro hb
    simp only [hb] at h
    refine q_aload_n hK 0 dX8_mode_35 rfl rfl ?_
    refine q_iconst (v := nI 3) hK dX8_mode_36 (by decide) ?_
    refine q_cVi1 hK dX8_mode_37 lX8_67 (by decide) (by decide) rfl (Nat.le_of_ble_eq_true rfl) (b_refuse ?_)
    exact q_iret hR dX8_mode_40 rfl ⟨_, rfl, h _ _ _ _ _ (hI.st 3)⟩
  refine q_iload_n hK 1 dX8_mode_17 rfl rfl ?_
  refine q_if_lt hK 35 dX8_mode_18 (by decide) (fun c18 => ?_) (fun c18 => ?_)
  · exact bad (by have := lt0_iff.mp c18; simp [isIn]; omega)
  refine q_iload_n hK 1 dX8_mode_21 rfl rfl ?_
  refine q_aload_n hK 0 dX8_mode_22 rfl rfl ?_
  refine q_getf hK dX8_mode_23 fX8_45 (by decide) rfl rfl ?_
  refine q_getf hK dX8_mode_26 fX8_164 (by decide) rfl rfl ?_
  refine q_getf hK dX8_mode_29 fX8_188 (nl_lt hl.1) (BB_nl hl.1) rfl ?_
  rw [n2]
  refine q_icmp_lt hK 41 dX8_mode_32 (by decide) (fun c32 => ?_) (fun c32 => ?_)
  rotate_left
  · exact bad (by have := mt (Int32.lt_iff_toInt_lt (x := i) (y := nI (gN σ))).mpr c32; rw [nI_toInt (by omega)] at this; simp [isIn]; omega)
  have hi : isIn i (gN σ) = true := by
    have h1 := mt lt0_iff.mpr c18
    have h2 := Int32.lt_iff_toInt_lt.mp c32
    rw [nI_toInt (by omega)] at h2
    simp [isIn]
    omega
  obtain ⟨ii, hi1, rfl, hi2⟩ := isIn_ex hi (by omega)
  simp only [hi, hi2, if_true] at h
  refine q_aload_n hK 0 dX8_mode_41 rfl rfl ?_
  refine q_getf hK dX8_mode_42 fX8_45 (by decide) rfl rfl ?_
  refine q_iload_n hK 1 dX8_mode_45 rfl rfl ?_
  refine q_cVi1 hK dX8_mode_46 lX8_210 (by decide) (by decide) rfl (Nat.le_of_ble_eq_true rfl) (b_turn hO hS hi1 (fun hfar F' hf => ?_) (fun hfar F' hf hrow => ?_))
  · simp only [hfar, if_true] at h
    refine q_if_eq hK 59 dX8_mode_49 (by decide) (fun c49 => ?_) (fun c49 => ?_)
    rotate_left
    · exact absurd rfl c49
    refine q_aload_n hK 0 dX8_mode_59 rfl rfl ?_
    refine q_iconst (v := nI 4) hK dX8_mode_60 (by decide) ?_
    refine q_cVi1 hK dX8_mode_61 lX8_67 (by decide) (by decide) rfl (Nat.le_of_ble_eq_true rfl) (b_refuse ?_)
    exact q_iret hR dX8_mode_64 rfl ⟨_, rfl, h _ _ _ _ _ ((hI.fr eqo.rf hf hO rfl rfl).st 4)⟩
  · simp only [hfar, Bool.false_eq_true, if_false] at h
    have hI2 := hI.fr eqo.rf hf hO rfl rfl
    have hi8 := nlZ_in (a := P 33 8)
    have hP8 := hO.at hl.2.1
    have hw := wf_mode n4 hi1
    have hSn : scI (va_up (va_up Z (nlZ (P 33 8)) (nI (gN σ))) 1 0) (va_up P 33 (va_up (va_up (P 33) 7 (P 33 8)) 8 (P 33 7))) F' (gN σ) (fun m => if m < gN σ then stV (gN σ) (gNt σ) m ii else gNt σ m) := by
      unfold scI
      rw [up_same, up_ne (by decide : (7 : Nat) ≠ 8), up_same]
      have hc1 : P 33 8 + 1 ≠ 33 := by rcases hl.2.1 with z | z <;> omega
      refine ⟨hl.2.1, ?_, by rw [up_ne (by omega), up_same], ⟨by omega, n1⟩, fun t ht => ?_, fun k hk => ?_⟩
      · unfold nlP
        rw [up_ne hc1]
        exact hP8
      · dsimp only
        rw [up_ne hc1, if_pos ht]
        exact hrow t ht
      · dsimp only
        rw [if_neg (Nat.lt_irrefl _)]
        exact hI2.2.2.2.2.1.2.2.1 (by omega) |>.2.2.2.2.2 k hk
    refine q_if_eq hK 59 dX8_mode_49 (by decide) (fun c49 => ?_) (fun c49 => ?_)
    · exact absurd c49 (by decide)
    refine q_aload_n hK 0 dX8_mode_52 rfl rfl ?_
    refine q_cVi0 hK dX8_mode_53 lX8_96 (by decide) (by decide) rfl (Nat.le_of_ble_eq_true rfl) (b_accept ?_)
    refine q_goto hK 64 dX8_mode_56 (by decide) ?_
    exact q_iret hR dX8_mode_64 rfl ⟨_, rfl, h _ _ _ _ _ (hI2.nw (by rw [up_ne (by decide), up_ne (by omega)]) (up_same _ _ _) (by rw [up_ne (by decide), up_ne (by omega)]) (fun x hx => rfl) hO.take hSn hw)⟩
theorem B_follows {σ : Sg} {d : Int32} {Q : Int32 → Mem → Prop} (hI : BI Z P F σ) (h : ∀ Z' V' P' F' L', BI Z' P' F' (sp_follows σ d).2 → Q (sp_follows σ d).1 (BB X Z' V' P' F' L' g)) : CallI X 9 yX8_follows [rf X 19, .int d] (BB X Z V P F L g) Q := by
  refine CallM_intro (own := RX8) [some (rf X 19), some (.int d)] wX8_follows (by decide) (by decide) rfl (Nat.le_of_ble_eq_true rfl) rfl (fun K hK hR => ?_)
  obtain ⟨n1, n2, n3, n4⟩ := hI.2.2.2.2.1
  have hO := hI.2.2.2.2.2.2
  have hl := hO.2.2.2.1
  refine q_aload_n hK 0 dX8_follows_0 rfl rfl ?_
  refine q_getf hK dX8_follows_1 fX8_45 (by decide) rfl rfl ?_
  refine q_cVi0 hK dX8_follows_4 lX8_158 (by decide) (by decide) rfl (Nat.le_of_ble_eq_true rfl) (b_exists hl.1 n2 n1 ?_)
  refine q_if_ne hK 17 dX8_follows_7 (by decide) (fun c7 => ?_) (fun c7 => ?_)
  rotate_left
  · have q : gN σ = 0 := by have := (b2i_eq0 _).mp c7; simp at this; omega
    simp only [sp_follows, q, if_true] at h
    refine q_aload_n hK 0 dX8_follows_10 rfl rfl ?_
    refine q_bipush (v := nI 7) hK dX8_follows_11 (by decide) ?_
    refine q_cVi1 hK dX8_follows_13 lX8_100 (by decide) (by decide) rfl (Nat.le_of_ble_eq_true rfl) (b_none ?_)
    exact q_iret hR dX8_follows_16 rfl ⟨_, rfl, h _ _ _ _ _ (hI.st 7)⟩
  have q : ¬ gN σ = 0 := by have := (b2i_ne0 _).mp c7; simp at this; omega
  simp only [sp_follows, q, if_false] at h
  have hS := n3 (by omega)
  refine q_iload_n hK 1 dX8_follows_17 rfl rfl ?_
  refine q_cSi1 hK dX8_follows_18 lX8_117 (by decide) (Nat.le_of_ble_eq_true rfl) (b_isDivision ?_)
  refine q_if_ne hK 30 dX8_follows_21 (by decide) (fun c21 => ?_) (fun c21 => ?_)
  rotate_left
  · have hd := (b2i_eq0 _).mp c21
    simp only [hd] at h
    refine q_aload_n hK 0 dX8_follows_24 rfl rfl ?_
    refine q_iconst (v := nI 3) hK dX8_follows_25 (by decide) ?_
    refine q_cVi1 hK dX8_follows_26 lX8_100 (by decide) (by decide) rfl (Nat.le_of_ble_eq_true rfl) (b_none ?_)
    exact q_iret hR dX8_follows_29 rfl ⟨_, rfl, h _ _ _ _ _ (hI.st 3)⟩
  have hd := (b2i_ne0 _).mp c21
  obtain ⟨n0, hn1, hn2, rfl, hn3⟩ := isDiv_ex hd
  simp only [hd, hn3, if_true] at h
  refine q_aload_n hK 0 dX8_follows_30 rfl rfl ?_
  refine q_aload_n hK 0 dX8_follows_31 rfl rfl ?_
  refine q_getf hK dX8_follows_32 fX8_45 (by decide) rfl rfl ?_
  refine q_iload_n hK 1 dX8_follows_35 rfl rfl ?_
  refine q_cVi1 hK dX8_follows_36 lX8_213 (by decide) (by decide) rfl (Nat.le_of_ble_eq_true rfl) (b_agreesWith hS n4 hn1 hn2 (fun F' hf => ?_))
  have h := h _ V P F' L ((hI.scS eqo.rf hf).st 0)
  generalize folF (gN σ) (gNt σ) n0 (gN σ + 1) 0 = b at h
  refine q_if_eq hK 46 dX8_follows_39 (by decide) (fun c39 => ?_) (fun c39 => ?_)
  · rw [(b2i_eq0 _).mp c39] at h
    refine q_iconst (v := nI 0) hK dX8_follows_46 (by decide) ?_
    refine q_cVi1 hK dX8_follows_47 lX8_106 (by decide) (by decide) rfl (Nat.le_of_ble_eq_true rfl) (b_answer ?_)
    exact q_iret hR dX8_follows_50 rfl ⟨_, rfl, h⟩
  · rw [(b2i_ne0 _).mp c39] at h
    refine q_iconst (v := nI 1) hK dX8_follows_42 (by decide) ?_
    refine q_goto hK 47 dX8_follows_43 (by decide) ?_
    refine q_cVi1 hK dX8_follows_47 lX8_106 (by decide) (by decide) rfl (Nat.le_of_ble_eq_true rfl) (b_answer ?_)
    exact q_iret hR dX8_follows_50 rfl ⟨_, rfl, h⟩
theorem B_quotient {σ : Sg} {a b k : Int32} {Q : Int32 → Mem → Prop} (hI : BI Z P F σ) (h : ∀ Z' V' P' F' L', BI Z' P' F' (sp_quotient σ a b k).2 → Q (sp_quotient σ a b k).1 (BB X Z' V' P' F' L' g)) : CallI X 9 yX8_quotient [rf X 19, .int a, .int b, .int k] (BB X Z V P F L g) Q := by
  have hO := hI.2.2.2.2.2.2
  refine CallM_intro (own := RX8) [some (rf X 19), some (.int a), some (.int b), some (.int k), none] wX8_quotient (by decide) (by decide) rfl (Nat.le_of_ble_eq_true rfl) rfl (fun K hK hR => ?_)
  have bad1 : (isIn a 16 && isIn b 16) = false → K (BB X Z V P F L g) 14 [some (rf X 19), some (.int a), some (.int b), some (.int k), none] [] := by
    intro hb
    simp only [sp_quotient, hb] at h
    refine q_aload_n hK 0 dX8_quotient_14 rfl rfl ?_
    refine q_iconst (v := nI 1) hK dX8_quotient_15 (by decide) ?_
    refine q_cVi1 hK dX8_quotient_16 lX8_100 (by decide) (by decide) rfl (Nat.le_of_ble_eq_true rfl) (b_none ?_)
    exact q_iret hR dX8_quotient_19 rfl ⟨_, rfl, h _ _ _ _ _ (hI.st 1)⟩
  refine q_iload_n hK 1 dX8_quotient_0 rfl rfl ?_
  refine q_cSi1 hK dX8_quotient_1 lX8_63 (by decide) (Nat.le_of_ble_eq_true rfl) (b_isShelf ?_)
  refine q_if_eq hK 14 dX8_quotient_4 (by decide) (fun c4 => ?_) (fun c4 => ?_)
  · exact bad1 (by simp [(b2i_eq0 _).mp c4])
  have ha := (b2i_ne0 _).mp c4
  refine q_iload_n hK 2 dX8_quotient_7 rfl rfl ?_
  refine q_cSi1 hK dX8_quotient_8 lX8_63 (by decide) (Nat.le_of_ble_eq_true rfl) (b_isShelf ?_)
  refine q_if_ne hK 20 dX8_quotient_11 (by decide) (fun c11 => ?_) (fun c11 => ?_)
  rotate_left
  · exact bad1 (by simp [(b2i_eq0 _).mp c11])
  have hb := (b2i_ne0 _).mp c11
  clear bad1
  obtain ⟨ia, ha1, rfl, ha2⟩ := isIn_ex ha (by decide)
  obtain ⟨ib, hb1, rfl, hb2⟩ := isIn_ex hb (by decide)
  simp only [sp_quotient, ha, hb, onS, rowS, ha2, hb2, Bool.and_self, if_true] at h
  have bad2 : (gOn σ ia && gOn σ ib) = false → K (BB X Z V P F L g) 38 [some (rf X 19), some (.int (nI ia)), some (.int (nI ib)), some (.int k), none] [] := by
    intro hb
    simp only [hb] at h
    refine q_aload_n hK 0 dX8_quotient_38 rfl rfl ?_
    refine q_iconst (v := nI 2) hK dX8_quotient_39 (by decide) ?_
    refine q_cVi1 hK dX8_quotient_40 lX8_100 (by decide) (by decide) rfl (Nat.le_of_ble_eq_true rfl) (b_none ?_)
    exact q_iret hR dX8_quotient_43 rfl ⟨_, rfl, h _ _ _ _ _ (hI.st 2)⟩
  refine q_aload_n hK 0 dX8_quotient_20 rfl rfl ?_
  refine q_getf hK dX8_quotient_21 fX8_14 (by decide) rfl rfl ?_
  refine q_iload_n hK 1 dX8_quotient_24 rfl rfl ?_
  refine qb_zald hK dX8_quotient_25 rfl ha1 ?_
  rw [hI.2.1 ia ha1]
  refine q_if_eq hK 38 dX8_quotient_26 (by decide) (fun c26 => ?_) (fun c26 => ?_)
  · exact bad2 (by simp [(b2i_eq0 _).mp c26])
  have oa := (b2i_ne0 _).mp c26
  refine q_aload_n hK 0 dX8_quotient_29 rfl rfl ?_
  refine q_getf hK dX8_quotient_30 fX8_14 (by decide) rfl rfl ?_
  refine q_iload_n hK 2 dX8_quotient_33 rfl rfl ?_
  refine qb_zald hK dX8_quotient_34 rfl hb1 ?_
  rw [hI.2.1 ib hb1]
  refine q_if_ne hK 44 dX8_quotient_35 (by decide) (fun c35 => ?_) (fun c35 => ?_)
  rotate_left
  · exact bad2 (by simp [(b2i_eq0 _).mp c35])
  have ob := (b2i_ne0 _).mp c35
  clear bad2
  simp only [oa, ob, Bool.and_self, if_true] at h
  have rA := hI.2.2.1 ia ha1 oa
  have rB := hI.2.2.1 ib hb1 ob
  have bA := bR_sh ha1
  have bB1 := bR_sh hb1
  have bad3 : isIn k 20 = false → K (BB X Z V P F L g) 54 [some (rf X 19), some (.int (nI ia)), some (.int (nI ib)), some (.int k), none] [] := by
    intro hb
    simp only [hb] at h
    refine q_aload_n hK 0 dX8_quotient_54 rfl rfl ?_
    refine q_iconst (v := nI 3) hK dX8_quotient_55 (by decide) ?_
    refine q_cVi1 hK dX8_quotient_56 lX8_100 (by decide) (by decide) rfl (Nat.le_of_ble_eq_true rfl) (b_none ?_)
    exact q_iret hR dX8_quotient_59 rfl ⟨_, rfl, h _ _ _ _ _ (hI.st 3)⟩
  refine q_iload_n hK 3 dX8_quotient_44 rfl rfl ?_
  refine q_if_lt hK 54 dX8_quotient_45 (by decide) (fun c45 => ?_) (fun c45 => ?_)
  · exact bad3 (by have := lt0_iff.mp c45; simp [isIn]; omega)
  refine q_iload_n hK 3 dX8_quotient_48 rfl rfl ?_
  refine q_bipush (v := nI 19) hK dX8_quotient_49 (by decide) ?_
  refine q_icmp_le hK 60 dX8_quotient_51 (by decide) (fun c51 => ?_) (fun c51 => ?_)
  rotate_left
  · exact bad3 (by have := mt (Int32.le_iff_toInt_le (x := k) (y := nI 19)).mpr c51; rw [nI_toInt (by decide)] at this; simp [isIn]; omega)
  have hk : isIn k 20 = true := by
    have h1 := mt lt0_iff.mpr c45
    have h2 := Int32.le_iff_toInt_le.mp c51
    rw [nI_toInt (by decide)] at h2
    simp [isIn]
    omega
  clear bad3
  obtain ⟨kk, hk1, rfl, hk2⟩ := isIn_ex hk (by decide)
  simp only [hk, hk2, if_true] at h
  have bad5 : (decide (0 < sgn (gRow σ ia)) && decide (0 < sgn (gRow σ ib))) = false → ∀ Z' V' F', BI Z' P F' σ → K (BB X Z' V' P F' L g) 92 [some (rf X 19), some (.int (nI ia)), some (.int (nI ib)), some (.int (nI kk)), none] [] := by
    intro hb Z' V' F' hI'
    simp only [hb] at h
    refine q_aload_n hK 0 dX8_quotient_92 rfl rfl ?_
    refine q_iconst (v := nI 5) hK dX8_quotient_93 (by decide) ?_
    refine q_cVi1 hK dX8_quotient_94 lX8_100 (by decide) (by decide) rfl (Nat.le_of_ble_eq_true rfl) (b_none ?_)
    exact q_iret hR dX8_quotient_97 rfl ⟨_, rfl, h _ _ _ _ _ (hI'.st 5)⟩
  have sra := sgn_range (gRow σ ia)
  have srb := sgn_range (gRow σ ib)
  refine q_aload_n hK 0 dX8_quotient_60 rfl rfl ?_
  refine q_getf hK dX8_quotient_61 fX8_29 (by decide) rfl rfl ?_
  refine q_aload_n hK 0 dX8_quotient_64 rfl rfl ?_
  refine q_getf hK dX8_quotient_65 fX8_11 (by decide) rfl rfl ?_
  refine q_iload_n hK 1 dX8_quotient_68 rfl rfl ?_
  refine qb_aald20 hK dX8_quotient_69 rfl ha1 ?_
  refine q_cVi1 hK dX8_quotient_70 lX8_84 (by decide) (by decide) rfl (Nat.le_of_ble_eq_true rfl) (b_sign bA (rA.le (by decide)) (fun Z1 V1 F1 y1 y2 => ?_))
  have hI1 := hI.sc y1 y2 (by decide)
  have rA1 : has6 (F1 (48 + ia)) (gRow σ ia) 24 := hI1.2.2.1 ia ha1 oa
  have rB1 : has6 (F1 (48 + ib)) (gRow σ ib) 24 := hI1.2.2.1 ib hb1 ob
  refine q_if_le hK 92 dX8_quotient_73 (by decide) (fun c73 => ?_) (fun c73 => ?_)
  · have z := (jI_le0 (by omega) (by omega)).mp c73
    exact bad5 (by simp; omega) Z1 V1 F1 hI1
  have za := mt (jI_le0 (b := sgn (gRow σ ia)) (by omega) (by omega)).mpr c73
  refine q_aload_n hK 0 dX8_quotient_76 rfl rfl ?_
  refine q_getf hK dX8_quotient_77 fX8_29 (by decide) rfl rfl ?_
  refine q_aload_n hK 0 dX8_quotient_80 rfl rfl ?_
  refine q_getf hK dX8_quotient_81 fX8_11 (by decide) rfl rfl ?_
  refine q_iload_n hK 2 dX8_quotient_84 rfl rfl ?_
  refine qb_aald20 hK dX8_quotient_85 rfl hb1 ?_
  refine q_cVi1 hK dX8_quotient_86 lX8_84 (by decide) (by decide) rfl (Nat.le_of_ble_eq_true rfl) (b_sign bB1 (rB1.le (by decide)) (fun Z2 V2 F2 x1 x2 => ?_))
  have hI2 := hI1.sc x1 x2 (by decide)
  have rA2 : has6 (F2 (48 + ia)) (gRow σ ia) 24 := hI2.2.2.1 ia ha1 oa
  have rB2 : has6 (F2 (48 + ib)) (gRow σ ib) 24 := hI2.2.2.1 ib hb1 ob
  refine q_if_gt hK 98 dX8_quotient_89 (by decide) (fun c89 => ?_) (fun c89 => ?_)
  rotate_left
  · have z := mt (jI_0lt (b := sgn (gRow σ ib)) (by omega) (by omega)).mpr c89
    exact bad5 (by simp; omega) Z2 V2 F2 hI2
  have zb := (jI_0lt (by omega) (by omega)).mp c89
  clear bad5
  simp only [show (decide (0 < sgn (gRow σ ia)) && decide (0 < sgn (gRow σ ib))) = true by simp; omega, if_true] at h
  refine q_aload_n hK 0 dX8_quotient_98 rfl rfl ?_
  refine q_getf hK dX8_quotient_99 fX8_52 (by decide) rfl rfl ?_
  refine q_aload_n hK 0 dX8_quotient_102 rfl rfl ?_
  refine q_getf hK dX8_quotient_103 fX8_11 (by decide) rfl rfl ?_
  refine q_iload_n hK 1 dX8_quotient_106 rfl rfl ?_
  refine qb_aald20 hK dX8_quotient_107 rfl ha1 ?_
  refine q_aload_n hK 0 dX8_quotient_108 rfl rfl ?_
  refine q_getf hK dX8_quotient_109 fX8_11 (by decide) rfl rfl ?_
  refine q_iload_n hK 2 dX8_quotient_112 rfl rfl ?_
  refine qb_aald20 hK dX8_quotient_113 rfl hb1 ?_
  refine q_iload_n hK 3 dX8_quotient_114 rfl rfl ?_
  refine q_cVi3 hK dX8_quotient_115 lX8_216 (by decide) (by decide) rfl (Nat.le_of_ble_eq_true rfl) (b_tell hO.2.2.1 bA bB1 (by omega) (by omega) rA2 rB2 (by omega) zb hk1 (fun Z3 V3 P3 F3 w1 w2 w3 w4 => ?_))
  have hI3 : BI Z3 P3 F3 σ := (hI2.sc w1 w4 (by decide)).p44 w2 w3
  have hv : ∀ v, quoS kk (gRow σ ia) (gRow σ ib) = some v → v ≠ -1 ∧ -1000 ≤ v ∧ v ≤ 1000 := by
    have key : ∀ m x y, (∀ k, k < 6 → -200 ≤ x k ∧ x k ≤ 200) → (∀ k, k < 6 → -200 ≤ y k ∧ y k ≤ 200) → 0 < sgn x → 0 < sgn y → ∀ v, quoS m x y = some v → v ≠ -1 ∧ -1000 ≤ v ∧ v ≤ 1000 := by
      intro m
      induction m with
      | zero =>
        intro x y hx hy hx0 hy0 v hv
        obtain ⟨q1, q2, -, -⟩ := qf_facts hx hx0 hy0
        unfold quoS at hv
        split at hv
        · cases hv
        · simp only [Option.some.injEq] at hv
          omega
      | succ m ih =>
        intro x y hx hy hx0 hy0 v hv
        obtain ⟨q1, q2, q3, q4⟩ := qf_facts hx hx0 hy0
        unfold quoS at hv
        split at hv
        · cases hv
        · split at hv
          · simp only [Option.some.injEq] at hv
            omega
          · rename_i hz
            have hst : stB x y (qf x y - 1) = true := stB_iff.mpr (q4 _ (by omega))
            unfold stB at hst
            rw [show ((qf x y - 1 : Nat) : Int) = (qf x y : Int) - 1 by omega] at hst
            simp only [Bool.and_eq_true, Bool.not_eq_true', decide_eq_true_eq] at hst
            exact ih y _ hy (farV_false.mp hst.1) hy0 (by omega) v hv
    exact key kk _ _ (fun k hk => by have := (rA k hk).2; omega) (fun k hk => by have := (rB k hk).2; omega) (by omega) zb
  cases hqs : quoS kk (gRow σ ia) (gRow σ ib) with
  | none =>
    simp only [hqs] at h
    refine q_istore hK dX8_quotient_118 (by decide) ?_
    refine q_iload hK dX8_quotient_120 rfl ?_
    refine q_iconst (v := jI (-1)) hK dX8_quotient_122 (by decide) ?_
    refine q_icmp_ne hK 135 dX8_quotient_123 (by decide) (fun c123 => ?_) (fun c123 => ?_)
    · exact absurd rfl c123
    refine q_aload_n hK 0 dX8_quotient_126 rfl rfl ?_
    refine q_bipush (v := nI 9) hK dX8_quotient_127 (by decide) ?_
    refine q_cVi1 hK dX8_quotient_129 lX8_100 (by decide) (by decide) rfl (Nat.le_of_ble_eq_true rfl) (b_none ?_)
    refine q_goto hK 141 dX8_quotient_132 (by decide) ?_
    exact q_iret hR dX8_quotient_141 rfl ⟨_, rfl, h _ _ _ _ _ (hI3.st 9)⟩
  | some v =>
    simp only [hqs] at h
    have hvv := hv v hqs
    refine q_istore hK dX8_quotient_118 (by decide) ?_
    refine q_iload hK dX8_quotient_120 rfl ?_
    refine q_iconst (v := jI (-1)) hK dX8_quotient_122 (by decide) ?_
    refine q_icmp_ne hK 135 dX8_quotient_123 (by decide) (fun c123 => ?_) (fun c123 => ?_)
    rotate_left
    · have := (jI_eq (b := -1) (by omega) (by omega) (by decide) (by decide)).mp c123
      omega
    refine q_aload_n hK 0 dX8_quotient_135 rfl rfl ?_
    refine q_iload hK dX8_quotient_136 rfl ?_
    refine q_cVi1 hK dX8_quotient_138 lX8_106 (by decide) (by decide) rfl (Nat.le_of_ble_eq_true rfl) (b_answer ?_)
    exact q_iret hR dX8_quotient_141 rfl ⟨_, rfl, h _ _ _ _ _ (hI3.st 0)⟩
theorem B_scale {σ : Sg} {w : Int32} {Q : Int32 → Mem → Prop} (hI : BI Z P F σ) (h : ∀ Z' V' P' F' L', BI Z' P' F' (sp_scale σ w).2 → Q (sp_scale σ w).1 (BB X Z' V' P' F' L' g)) : CallI X 9 yX8_scale [rf X 19, .int w] (BB X Z V P F L g) Q := by
  refine CallM_intro (own := RX8) [some (rf X 19), some (.int w)] wX8_scale (by decide) (by decide) rfl (Nat.le_of_ble_eq_true rfl) rfl (fun K hK hR => ?_)
  obtain ⟨n1, n2, n3, n4⟩ := hI.2.2.2.2.1
  have hO := hI.2.2.2.2.2.2
  have hl := hO.2.2.2.1
  refine q_aload_n hK 0 dX8_scale_0 rfl rfl ?_
  refine q_getf hK dX8_scale_1 fX8_45 (by decide) rfl rfl ?_
  refine q_cVi0 hK dX8_scale_4 lX8_158 (by decide) (by decide) rfl (Nat.le_of_ble_eq_true rfl) (b_exists hl.1 n2 n1 ?_)
  refine q_if_ne hK 17 dX8_scale_7 (by decide) (fun c7 => ?_) (fun c7 => ?_)
  rotate_left
  · have q : gN σ = 0 := by have := (b2i_eq0 _).mp c7; simp at this; omega
    simp only [sp_scale, q, if_true] at h
    refine q_aload_n hK 0 dX8_scale_10 rfl rfl ?_
    refine q_bipush (v := nI 7) hK dX8_scale_11 (by decide) ?_
    refine q_cVi1 hK dX8_scale_13 lX8_100 (by decide) (by decide) rfl (Nat.le_of_ble_eq_true rfl) (b_none ?_)
    exact q_iret hR dX8_scale_16 rfl ⟨_, rfl, h _ _ _ _ _ (hI.st 7)⟩
  have q : ¬ gN σ = 0 := by have := (b2i_ne0 _).mp c7; simp at this; omega
  simp only [sp_scale, q, if_false] at h
  have hS := n3 (by omega)
  refine q_iload_n hK 1 dX8_scale_17 rfl rfl ?_
  by_cases hw : isIn w 5 = true
  rotate_left
  · have hw := Bool.eq_false_iff.mpr hw
    simp only [hw] at h
    refine q_tabO hK 149 dX8_scale_18 (by simp [isIn] at hw; omega) (by decide) ?_
    refine q_aload_n hK 0 dX8_scale_149 rfl rfl ?_
    refine q_iconst (v := nI 3) hK dX8_scale_150 (by decide) ?_
    refine q_cVi1 hK dX8_scale_151 lX8_100 (by decide) (by decide) rfl (Nat.le_of_ble_eq_true rfl) (b_none ?_)
    exact q_iret hR dX8_scale_154 rfl ⟨_, rfl, h _ _ _ _ _ (hI.st 3)⟩
  obtain ⟨iw, hw1, rfl, hw2⟩ := isIn_ex hw (by decide)
  simp only [hw, hw2, if_true] at h
  have h5 : iw = 0 ∨ iw = 1 ∨ iw = 2 ∨ iw = 3 ∨ iw = 4 := by omega
  rcases h5 with rfl | rfl | rfl | rfl | rfl
  · refine q_tabI hK 52 dX8_scale_18 (by decide) (by decide) rfl (by decide) ?_
    refine q_aload_n hK 0 dX8_scale_52 rfl rfl ?_
    refine q_aload_n hK 0 dX8_scale_53 rfl rfl ?_
    refine q_getf hK dX8_scale_54 fX8_45 (by decide) rfl rfl ?_
    refine q_getf hK dX8_scale_57 fX8_164 (by decide) rfl rfl ?_
    refine q_getf hK dX8_scale_60 fX8_188 (nl_lt hl.1) (BB_nl hl.1) rfl ?_
    rw [n2]
    refine q_cVi1 hK dX8_scale_63 lX8_106 (by decide) (by decide) rfl (Nat.le_of_ble_eq_true rfl) (b_answer ?_)
    exact q_iret hR dX8_scale_66 rfl ⟨_, rfl, h _ _ _ _ _ (hI.st 0)⟩
  · refine q_tabI hK 67 dX8_scale_18 (by decide) (by decide) rfl (by decide) ?_
    refine q_aload_n hK 0 dX8_scale_67 rfl rfl ?_
    refine q_aload_n hK 0 dX8_scale_68 rfl rfl ?_
    refine q_getf hK dX8_scale_69 fX8_45 (by decide) rfl rfl ?_
    refine q_cVi0 hK dX8_scale_72 lX8_193 (by decide) (by decide) rfl (Nat.le_of_ble_eq_true rfl) (b_isMoment hS hO.2.1 (fun F' hf => ?_))
    have h := h _ V P F' L ((hI.scS eqo.rf hf).st 0)
    rw [if_neg (by decide), if_pos rfl] at h
    generalize decide ((kS (gN σ) (gNt σ) 1 (gN σ)).1 ≤ 2) = b at h
    refine q_if_eq hK 82 dX8_scale_75 (by decide) (fun c75 => ?_) (fun c75 => ?_)
    · rw [(b2i_eq0 _).mp c75] at h
      refine q_iconst (v := nI 0) hK dX8_scale_82 (by decide) ?_
      refine q_cVi1 hK dX8_scale_83 lX8_106 (by decide) (by decide) rfl (Nat.le_of_ble_eq_true rfl) (b_answer ?_)
      exact q_iret hR dX8_scale_86 rfl ⟨_, rfl, h⟩
    · rw [(b2i_ne0 _).mp c75] at h
      refine q_iconst (v := nI 1) hK dX8_scale_78 (by decide) ?_
      refine q_goto hK 83 dX8_scale_79 (by decide) ?_
      refine q_cVi1 hK dX8_scale_83 lX8_106 (by decide) (by decide) rfl (Nat.le_of_ble_eq_true rfl) (b_answer ?_)
      exact q_iret hR dX8_scale_86 rfl ⟨_, rfl, h⟩
  · refine q_tabI hK 87 dX8_scale_18 (by decide) (by decide) rfl (by decide) ?_
    refine q_aload_n hK 0 dX8_scale_87 rfl rfl ?_
    refine q_aload_n hK 0 dX8_scale_88 rfl rfl ?_
    refine q_getf hK dX8_scale_89 fX8_45 (by decide) rfl rfl ?_
    refine q_cVi0 hK dX8_scale_92 lX8_196 (by decide) (by decide) rfl (Nat.le_of_ble_eq_true rfl) (b_isMyth hS hO.2.1 (fun F' hf => ?_))
    have h := h _ V P F' L ((hI.scS eqo.rf hf).st 0)
    rw [if_neg (by decide), if_neg (by decide), if_pos rfl] at h
    generalize myth (gN σ) (gNt σ) = b at h
    refine q_if_eq hK 102 dX8_scale_95 (by decide) (fun c95 => ?_) (fun c95 => ?_)
    · rw [(b2i_eq0 _).mp c95] at h
      refine q_iconst (v := nI 0) hK dX8_scale_102 (by decide) ?_
      refine q_cVi1 hK dX8_scale_103 lX8_106 (by decide) (by decide) rfl (Nat.le_of_ble_eq_true rfl) (b_answer ?_)
      exact q_iret hR dX8_scale_106 rfl ⟨_, rfl, h⟩
    · rw [(b2i_ne0 _).mp c95] at h
      refine q_iconst (v := nI 1) hK dX8_scale_98 (by decide) ?_
      refine q_goto hK 103 dX8_scale_99 (by decide) ?_
      refine q_cVi1 hK dX8_scale_103 lX8_106 (by decide) (by decide) rfl (Nat.le_of_ble_eq_true rfl) (b_answer ?_)
      exact q_iret hR dX8_scale_106 rfl ⟨_, rfl, h⟩
  · refine q_tabI hK 107 dX8_scale_18 (by decide) (by decide) rfl (by decide) ?_
    refine q_aload_n hK 0 dX8_scale_107 rfl rfl ?_
    refine q_aload_n hK 0 dX8_scale_108 rfl rfl ?_
    refine q_getf hK dX8_scale_109 fX8_45 (by decide) rfl rfl ?_
    refine q_iconst (v := nI 0) hK dX8_scale_112 (by decide) ?_
    refine q_cVi1 hK dX8_scale_113 lX8_199 (by decide) (by decide) rfl (Nat.le_of_ble_eq_true rfl) (b_isOrderly (st := false) hS hO.2.1 (fun Z1 V1 F' hz hf => ?_))
    have h := h _ V1 P F' L ((hI.scS hz hf).st 0)
    rw [if_neg (by decide), if_neg (by decide), if_neg (by decide), show decide (3 = 4) = false from rfl] at h
    generalize prop false (gN σ) (gNt σ) = b at h
    refine q_if_eq hK 123 dX8_scale_116 (by decide) (fun c116 => ?_) (fun c116 => ?_)
    · rw [(b2i_eq0 _).mp c116] at h
      refine q_iconst (v := nI 0) hK dX8_scale_123 (by decide) ?_
      refine q_cVi1 hK dX8_scale_124 lX8_106 (by decide) (by decide) rfl (Nat.le_of_ble_eq_true rfl) (b_answer ?_)
      exact q_iret hR dX8_scale_127 rfl ⟨_, rfl, h⟩
    · rw [(b2i_ne0 _).mp c116] at h
      refine q_iconst (v := nI 1) hK dX8_scale_119 (by decide) ?_
      refine q_goto hK 124 dX8_scale_120 (by decide) ?_
      refine q_cVi1 hK dX8_scale_124 lX8_106 (by decide) (by decide) rfl (Nat.le_of_ble_eq_true rfl) (b_answer ?_)
      exact q_iret hR dX8_scale_127 rfl ⟨_, rfl, h⟩
  · refine q_tabI hK 128 dX8_scale_18 (by decide) (by decide) rfl (by decide) ?_
    refine q_aload_n hK 0 dX8_scale_128 rfl rfl ?_
    refine q_aload_n hK 0 dX8_scale_129 rfl rfl ?_
    refine q_getf hK dX8_scale_130 fX8_45 (by decide) rfl rfl ?_
    refine q_iconst (v := nI 1) hK dX8_scale_133 (by decide) ?_
    refine q_cVi1 hK dX8_scale_134 lX8_199 (by decide) (by decide) rfl (Nat.le_of_ble_eq_true rfl) (b_isOrderly (st := true) hS hO.2.1 (fun Z1 V1 F' hz hf => ?_))
    have h := h _ V1 P F' L ((hI.scS hz hf).st 0)
    rw [if_neg (by decide), if_neg (by decide), if_neg (by decide), show decide (4 = 4) = true from rfl] at h
    generalize prop true (gN σ) (gNt σ) = b at h
    refine q_if_eq hK 144 dX8_scale_137 (by decide) (fun c137 => ?_) (fun c137 => ?_)
    · rw [(b2i_eq0 _).mp c137] at h
      refine q_iconst (v := nI 0) hK dX8_scale_144 (by decide) ?_
      refine q_cVi1 hK dX8_scale_145 lX8_106 (by decide) (by decide) rfl (Nat.le_of_ble_eq_true rfl) (b_answer ?_)
      exact q_iret hR dX8_scale_148 rfl ⟨_, rfl, h⟩
    · rw [(b2i_ne0 _).mp c137] at h
      refine q_iconst (v := nI 1) hK dX8_scale_140 (by decide) ?_
      refine q_goto hK 145 dX8_scale_141 (by decide) ?_
      refine q_cVi1 hK dX8_scale_145 lX8_106 (by decide) (by decide) rfl (Nat.le_of_ble_eq_true rfl) (b_answer ?_)
      exact q_iret hR dX8_scale_148 rfl ⟨_, rfl, h⟩
end BY
