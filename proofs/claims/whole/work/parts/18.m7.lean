noncomputable def sp_fold (σ : Sg) (a b t : Int32) : Int32 × Sg :=
  if isIn a 16 && isIn b 16 && isIn t 16 then
    if onS σ a && onS σ b then
      if 0 < sgn (rowS σ b) then
        match foldv (rowS σ a) (rowS σ b) with
        | some r => sp_put σ t.toInt.toNat r
        | none => (0, sSt σ 4)
      else (0, sSt σ 5)
    else (0, sSt σ 2)
  else (0, sSt σ 1)
def sp_clear (σ : Sg) : Int32 × Sg := (nI (gC σ), (0, gOn σ, gRow σ, 0, σ.2.2.2.2))
def sp_begin (σ : Sg) (s : Int32) : Int32 × Sg :=
  if isIn s 16 then
    if onS σ s then
      if 0 < sgn (rowS σ s) then (1, (0, gOn σ, gRow σ, gC σ, gCr σ, 1, (fun i => if i = 0 then (fun _ => 0) else rowS σ s), σ.2.2.2.2.2.2.2))
      else (0, sSt σ 5)
    else (0, sSt σ 2)
  else (0, sSt σ 1)
theorem foldv_near {a p r : Vec} (hp : 0 < sgn p) (h : foldv a p = some r) : farV 24 r = false := by
  obtain ⟨k, hk, rfl⟩ := foldv_spec hp h
  exact hk.1
section M7
variable {X : Cx} {Z : Nat → Int32} {F : Nat → Nat → Int32} {L : Nat → Int64} {g : Mem}
theorem m_isPeriod {s : Nat} {e : Vec} {Q : Int32 → Mem → Prop} (hs : s < 16) (he : hasA (F 1) (6 * s) e 24) (h : ∀ Z' F', eqo [5, 6] Z Z' → eqo [3, 4, 5] F F' → Q (b2i (decide (0 < sgn e))) (MM X Z' F' L g)) : CallI X 3 yX9_isPeriod [rf X 0, .int (nI s)] (MM X Z F L g) Q := by
  refine CallM_intro (own := RX9) [some (rf X 0), some (.int (nI s))] wX9_isPeriod (by decide) (by decide) rfl (Nat.le_of_ble_eq_true rfl) rfl (fun K hK hR => ?_)
  refine q_aload_n hK 0 dX9_isPeriod_0 rfl rfl ?_
  refine q_aload_n hK 0 dX9_isPeriod_1 rfl rfl ?_
  refine q_getf hK dX9_isPeriod_2 fX9_7 (by decide) rfl rfl ?_
  refine q_bipush (v := nI 6) hK dX9_isPeriod_5 (by decide) ?_
  refine q_iload_n hK 1 dX9_isPeriod_7 rfl rfl ?_
  refine q_imul hK dX9_isPeriod_8 ?_
  rw [show nI 6 * nI s = nI (6 * s) from pk_mul 6 s]
  refine q_cVv2 hK dX9_isPeriod_9 lX9_89 (by decide) (by decide) rfl (Nat.le_of_ble_eq_true rfl) (m_hold (n := 1) (a := 6 * s) rfl (by decide) (by show 6 * s + 6 ≤ 96; omega) (fun f hf => ?_))
  refine q_aload_n hK 0 dX9_isPeriod_12 rfl rfl ?_
  refine q_cVi0 hK dX9_isPeriod_13 lX9_96 (by decide) (by decide) rfl (Nat.le_of_ble_eq_true rfl) (m_sign (e := e) (fun k hk => by rw [up_same, hf k hk]; have := he k hk; exact ⟨this.1, by omega, by omega⟩) (fits_of (fun k hk => by have := (he k hk).2; omega)) (fun Z' F' z1 z2 => ?_))
  have sr := sgn_range e
  have hh := h Z' F' z1 (fun j hj => by rw [z2 j (by simp at hj ⊢; omega), up_ne (by simp at hj; omega)])
  refine q_if_le hK 23 dX9_isPeriod_16 (by decide) (fun c16 => ?_) (fun c16 => ?_)
  · have q := (jI_le0 (by omega) (by omega)).mp c16
    refine q_iconst (v := nI 0) hK dX9_isPeriod_23 (by decide) ?_
    rw [show decide (0 < sgn e) = false by simpa using q] at hh
    exact q_iret hR dX9_isPeriod_24 rfl ⟨_, rfl, hh⟩
  · have q := mt (jI_le0 (b := sgn e) (by omega) (by omega)).mpr c16
    refine q_iconst (v := nI 1) hK dX9_isPeriod_19 (by decide) ?_
    refine q_goto hK 24 dX9_isPeriod_20 (by decide) ?_
    rw [show decide (0 < sgn e) = true by simp; omega] at hh
    exact q_iret hR dX9_isPeriod_24 rfl ⟨_, rfl, hh⟩
theorem sc56 {Z Z' : Nat → Int32} (h : eqo [5, 6] Z Z') : eqo scZ Z Z' := h.mono (by decide)
theorem sc345 {F F' : Nat → Nat → Int32} (h : eqo [3, 4, 5] F F') : eqo scF F F' := h.mono (by decide)
theorem M_fold {σ : Sg} {a b t : Int32} {Q : Int32 → Mem → Prop} (hI : MI Z F σ) (h : ∀ Z' F' L', MI Z' F' (sp_fold σ a b t).2 → Q (sp_fold σ a b t).1 (MM X Z' F' L' g)) : CallI X 9 yX9_fold [rf X 0, .int a, .int b, .int t] (MM X Z F L g) Q := by
  refine CallM_intro (own := RX9) [some (rf X 0), some (.int a), some (.int b), some (.int t)] wX9_fold (by decide) (by decide) rfl (Nat.le_of_ble_eq_true rfl) rfl (fun K hK hR => ?_)
  have bad1 : (isIn a 16 && isIn b 16 && isIn t 16) = false → K (MM X Z F L g) 21 [some (rf X 0), some (.int a), some (.int b), some (.int t)] [] := by
    intro hb
    simp only [sp_fold, hb] at h
    refine q_aload_n hK 0 dX9_fold_21 rfl rfl ?_
    refine q_iconst (v := nI 1) hK dX9_fold_22 (by decide) ?_
    refine q_cVi1 hK dX9_fold_23 lX9_104 (by decide) (by decide) rfl (Nat.le_of_ble_eq_true rfl) (m_ref (by decide) (by decide) ?_)
    exact q_iret hR dX9_fold_26 rfl ⟨_, rfl, h _ _ _ (hI.st 1)⟩
  refine q_iload_n hK 1 dX9_fold_0 rfl rfl ?_
  refine q_cSi1 hK dX9_fold_1 lX9_111 (by decide) (Nat.le_of_ble_eq_true rfl) (m_isShelf ?_)
  refine q_if_eq hK 21 dX9_fold_4 (by decide) (fun c4 => ?_) (fun c4 => ?_)
  · exact bad1 (by simp [(b2i_eq0 _).mp c4])
  have ha := (b2i_ne0 _).mp c4
  refine q_iload_n hK 2 dX9_fold_7 rfl rfl ?_
  refine q_cSi1 hK dX9_fold_8 lX9_111 (by decide) (Nat.le_of_ble_eq_true rfl) (m_isShelf ?_)
  refine q_if_eq hK 21 dX9_fold_11 (by decide) (fun c11 => ?_) (fun c11 => ?_)
  · exact bad1 (by simp [(b2i_eq0 _).mp c11])
  have hb := (b2i_ne0 _).mp c11
  refine q_iload_n hK 3 dX9_fold_14 rfl rfl ?_
  refine q_cSi1 hK dX9_fold_15 lX9_111 (by decide) (Nat.le_of_ble_eq_true rfl) (m_isShelf ?_)
  refine q_if_ne hK 27 dX9_fold_18 (by decide) (fun c18 => ?_) (fun c18 => ?_)
  rotate_left
  · exact bad1 (by simp [(b2i_eq0 _).mp c18])
  have ht := (b2i_ne0 _).mp c18
  clear bad1
  obtain ⟨ia, ha1, rfl, ha2⟩ := isIn_ex ha (by decide)
  obtain ⟨ib, hb1, rfl, hb2⟩ := isIn_ex hb (by decide)
  obtain ⟨it, ht1, rfl, ht2⟩ := isIn_ex ht (by decide)
  simp only [sp_fold, ha, hb, ht, onS, rowS, ha2, hb2, ht2, Bool.and_self, if_true] at h
  have bad2 : (gOn σ ia && gOn σ ib) = false → K (MM X Z F L g) 45 [some (rf X 0), some (.int (nI ia)), some (.int (nI ib)), some (.int (nI it))] [] := by
    intro hb
    simp only [hb] at h
    refine q_aload_n hK 0 dX9_fold_45 rfl rfl ?_
    refine q_iconst (v := nI 2) hK dX9_fold_46 (by decide) ?_
    refine q_cVi1 hK dX9_fold_47 lX9_104 (by decide) (by decide) rfl (Nat.le_of_ble_eq_true rfl) (m_ref (by decide) (by decide) ?_)
    exact q_iret hR dX9_fold_50 rfl ⟨_, rfl, h _ _ _ (hI.st 2)⟩
  refine q_aload_n hK 0 dX9_fold_27 rfl rfl ?_
  refine q_getf hK dX9_fold_28 fX9_13 (by decide) rfl rfl ?_
  refine q_iload_n hK 1 dX9_fold_31 rfl rfl ?_
  refine qm_zald hK dX9_fold_32 rfl ha1 ?_
  rw [hI.2.1 ia ha1]
  refine q_if_eq hK 45 dX9_fold_33 (by decide) (fun c33 => ?_) (fun c33 => ?_)
  · exact bad2 (by simp [(b2i_eq0 _).mp c33])
  have oa := (b2i_ne0 _).mp c33
  refine q_aload_n hK 0 dX9_fold_36 rfl rfl ?_
  refine q_getf hK dX9_fold_37 fX9_13 (by decide) rfl rfl ?_
  refine q_iload_n hK 2 dX9_fold_40 rfl rfl ?_
  refine qm_zald hK dX9_fold_41 rfl hb1 ?_
  rw [hI.2.1 ib hb1]
  refine q_if_ne hK 51 dX9_fold_42 (by decide) (fun c42 => ?_) (fun c42 => ?_)
  rotate_left
  · exact bad2 (by simp [(b2i_eq0 _).mp c42])
  have ob := (b2i_ne0 _).mp c42
  clear bad2
  simp only [oa, ob, Bool.and_self, if_true] at h
  have rA := hI.2.2.1 ia ha1 oa
  have rB := hI.2.2.1 ib hb1 ob
  refine q_aload_n hK 0 dX9_fold_51 rfl rfl ?_
  refine q_iload_n hK 2 dX9_fold_52 rfl rfl ?_
  refine q_cVi1 hK dX9_fold_53 lX9_126 (by decide) (by decide) rfl (Nat.le_of_ble_eq_true rfl) (m_isPeriod hb1 rB (fun Z1 F1 y1 y2 => ?_))
  have hI1 := hI.scr (sc56 y1) (sc345 y2)
  refine q_if_ne hK 65 dX9_fold_56 (by decide) (fun c56 => ?_) (fun c56 => ?_)
  rotate_left
  · have q := (b2i_eq0 _).mp c56
    have q2 : ¬ 0 < sgn (gRow σ ib) := by simpa using q
    simp only [q2, if_false] at h
    refine q_aload_n hK 0 dX9_fold_59 rfl rfl ?_
    refine q_iconst (v := nI 5) hK dX9_fold_60 (by decide) ?_
    refine q_cVi1 hK dX9_fold_61 lX9_104 (by decide) (by decide) rfl (Nat.le_of_ble_eq_true rfl) (m_ref (by decide) (by decide) ?_)
    exact q_iret hR dX9_fold_64 rfl ⟨_, rfl, h _ _ _ (hI1.st 5)⟩
  have q2 : 0 < sgn (gRow σ ib) := by simpa using (b2i_ne0 _).mp c56
  simp only [q2, if_true] at h
  refine q_aload_n hK 0 dX9_fold_65 rfl rfl ?_
  refine q_aload_n hK 0 dX9_fold_66 rfl rfl ?_
  refine q_getf hK dX9_fold_67 fX9_26 (by decide) rfl rfl ?_
  refine q_aload_n hK 0 dX9_fold_70 rfl rfl ?_
  refine q_getf hK dX9_fold_71 fX9_7 (by decide) rfl rfl ?_
  refine q_bipush (v := nI 6) hK dX9_fold_74 (by decide) ?_
  refine q_iload_n hK 1 dX9_fold_76 rfl rfl ?_
  refine q_imul hK dX9_fold_77 ?_
  rw [show nI 6 * nI ia = nI (6 * ia) from pk_mul 6 ia]
  refine q_cVv3 hK dX9_fold_78 lX9_129 (by decide) (by decide) rfl (Nat.le_of_ble_eq_true rfl) (m_set6 (n := 6) (n2 := 1) (a := 6 * ia) rfl rfl rfl (by decide) (by show 6 * ia + 6 ≤ 96; omega) (fun f6 h6 => ?_))
  refine q_aload_n hK 0 dX9_fold_81 rfl rfl ?_
  refine q_aload_n hK 0 dX9_fold_82 rfl rfl ?_
  refine q_getf hK dX9_fold_83 fX9_29 (by decide) rfl rfl ?_
  refine q_aload_n hK 0 dX9_fold_86 rfl rfl ?_
  refine q_getf hK dX9_fold_87 fX9_7 (by decide) rfl rfl ?_
  refine q_bipush (v := nI 6) hK dX9_fold_90 (by decide) ?_
  refine q_iload_n hK 2 dX9_fold_92 rfl rfl ?_
  refine q_imul hK dX9_fold_93 ?_
  rw [show nI 6 * nI ib = nI (6 * ib) from pk_mul 6 ib]
  refine q_cVv3 hK dX9_fold_94 lX9_129 (by decide) (by decide) rfl (Nat.le_of_ble_eq_true rfl) (m_set6 (n := 7) (n2 := 1) (a := 6 * ib) rfl rfl rfl (by decide) (by show 6 * ib + 6 ≤ 96; omega) (fun f7 h7 => ?_))
  refine q_aload_n hK 0 dX9_fold_97 rfl rfl ?_
  have e1 : F1 1 = F 1 := y2 1 (by decide)
  refine q_cVi0 hK dX9_fold_98 lX9_133 (by decide) (by decide) rfl (Nat.le_of_ble_eq_true rfl) (m_folds (a := gRow σ ia) (p := gRow σ ib) ?_ ?_ q2 (fun Z2 F2 x1 x2 => ⟨fun r hr hr5 => ?_, fun hr => ?_⟩))
  · intro k hk
    have := rA k hk
    rw [up_ne (by decide), up_same, h6 k hk, e1]
    exact ⟨this.1, by omega, by omega⟩
  · intro k hk
    have := rB k hk
    rw [up_same, h7 k hk, up_ne (by decide), e1]
    exact ⟨this.1, by omega, by omega⟩
  · have hI2 := (hI1.scr eqo.rf ((eqo.rf.up (k := 6) (v := f6) (by decide)).up (k := 7) (v := f7) (by decide))).scr (sc56 x1) (sc345 x2)
    refine q_if_eq hK 112 dX9_fold_101 (by decide) (fun c101 => ?_) (fun c101 => ?_)
    · exact absurd c101 (by decide)
    refine q_aload_n hK 0 dX9_fold_104 rfl rfl ?_
    refine q_iload_n hK 3 dX9_fold_105 rfl rfl ?_
    have hn := farV_false.mp (foldv_near q2 hr)
    simp only [hr] at h
    refine q_cVi1 hK dX9_fold_106 lX9_114 (by decide) (by decide) rfl (Nat.le_of_ble_eq_true rfl) (m_comes (e := r) hI2 ht1 (fun k hk => ⟨hr5 k hk, by have := hn k hk; omega, by have := hn k hk; omega⟩) (fun Z' F' hI' => ?_))
    refine q_goto hK 117 dX9_fold_109 (by decide) ?_
    exact q_iret hR dX9_fold_117 (nar_put ..) ⟨_, rfl, h Z' F' L hI'⟩
  · have hI2 := (hI1.scr eqo.rf ((eqo.rf.up (k := 6) (v := f6) (by decide)).up (k := 7) (v := f7) (by decide))).scr (sc56 x1) (sc345 x2)
    simp only [hr] at h
    refine q_if_eq hK 112 dX9_fold_101 (by decide) (fun c101 => ?_) (fun c101 => ?_)
    rotate_left
    · exact absurd rfl c101
    refine q_aload_n hK 0 dX9_fold_112 rfl rfl ?_
    refine q_iconst (v := nI 4) hK dX9_fold_113 (by decide) ?_
    refine q_cVi1 hK dX9_fold_114 lX9_104 (by decide) (by decide) rfl (Nat.le_of_ble_eq_true rfl) (m_ref (by decide) (by decide) ?_)
    exact q_iret hR dX9_fold_117 rfl ⟨_, rfl, h _ _ _ (hI2.st 4)⟩
theorem M_status {σ : Sg} {Q : Int32 → Mem → Prop} (hI : MI Z F σ) (h : Q σ.1 (MM X Z F L g)) : CallI X 9 yX9_status [rf X 0] (MM X Z F L g) Q := by
  refine CallM_intro (own := RX9) [some (rf X 0)] wX9_status (by decide) (by decide) rfl (Nat.le_of_ble_eq_true rfl) rfl (fun K hK hR => ?_)
  refine q_aload_n hK 0 dX9_status_0 rfl rfl ?_
  refine q_getf hK dX9_status_1 fX9_66 (by decide) rfl rfl ?_
  rw [hI.1]
  exact q_iret hR dX9_status_4 rfl ⟨_, rfl, h⟩
theorem M_clear {σ : Sg} {Q : Int32 → Mem → Prop} (hI : MI Z F σ) (h : ∀ Z' F' L', MI Z' F' (sp_clear σ).2 → Q (sp_clear σ).1 (MM X Z' F' L' g)) : CallI X 9 yX9_clear [rf X 0] (MM X Z F L g) Q := by
  refine CallM_intro (own := RX9) [some (rf X 0), none] wX9_clear (by decide) (by decide) rfl (Nat.le_of_ble_eq_true rfl) rfl (fun K hK hR => ?_)
  refine q_aload_n hK 0 dX9_clear_0 rfl rfl ?_
  refine q_iconst (v := nI 0) hK dX9_clear_1 (by decide) ?_
  refine qm_put0 hK dX9_clear_2 pX9_66 ?_
  refine q_aload_n hK 0 dX9_clear_5 rfl rfl ?_
  refine q_getf hK dX9_clear_6 fX9_162 (by decide) rfl rfl ?_
  refine q_istore_n hK 1 dX9_clear_9 rfl (by decide) ?_
  refine q_aload_n hK 0 dX9_clear_10 rfl rfl ?_
  refine q_iconst (v := nI 0) hK dX9_clear_11 (by decide) ?_
  refine qm_put14 hK dX9_clear_12 pX9_162 ?_
  refine q_iload_n hK 1 dX9_clear_15 rfl rfl ?_
  obtain ⟨a1, a2, a3, a4, a5, a6, a7⟩ := hI
  rw [up_ne (by decide : (14 : Nat) ≠ 0), a4.1]
  refine q_iret hR dX9_clear_16 rfl ⟨_, rfl, h _ _ _ ⟨?_, a2, a3, ⟨?_, Nat.zero_le _, fun i hi => absurd hi (Nat.not_lt_zero i)⟩, ?_, ?_, a7⟩⟩
  · rw [up_ne (by decide), up_same]; rfl
  · rw [up_same]; rfl
  · rw [up_ne (by decide), up_ne (by decide)]; exact a5
  · rw [up_ne (by decide), up_ne (by decide)]; exact a6
theorem M_drop {σ : Sg} {s : Int32} {Q : Int32 → Mem → Prop} (hI : MI Z F σ) (h : ∀ Z' F' L', MI Z' F' (sp_drop σ s).2 → Q (sp_drop σ s).1 (MM X Z' F' L' g)) : CallI X 9 yX9_drop [rf X 0, .int s] (MM X Z F L g) Q := by
  refine CallM_intro (own := RX9) [some (rf X 0), some (.int s)] wX9_drop (by decide) (by decide) rfl (Nat.le_of_ble_eq_true rfl) rfl (fun K hK hR => ?_)
  refine q_iload_n hK 1 dX9_drop_0 rfl rfl ?_
  refine q_cSi1 hK dX9_drop_1 lX9_111 (by decide) (Nat.le_of_ble_eq_true rfl) (m_isShelf ?_)
  refine q_if_ne hK 13 dX9_drop_4 (by decide) (fun c4 => ?_) (fun c4 => ?_)
  rotate_left
  · have hs := (b2i_eq0 _).mp c4
    simp only [sp_drop, hs] at h
    refine q_aload_n hK 0 dX9_drop_7 rfl rfl ?_
    refine q_iconst (v := nI 1) hK dX9_drop_8 (by decide) ?_
    refine q_cVi1 hK dX9_drop_9 lX9_104 (by decide) (by decide) rfl (Nat.le_of_ble_eq_true rfl) (m_ref (by decide) (by decide) ?_)
    exact q_iret hR dX9_drop_12 rfl ⟨_, rfl, h _ _ _ (hI.st 1)⟩
  have hs := (b2i_ne0 _).mp c4
  obtain ⟨ia, ha1, rfl, ha2⟩ := isIn_ex hs (by decide)
  simp only [sp_drop, hs, onS, rowS, ha2, if_true] at h
  refine q_aload_n hK 0 dX9_drop_13 rfl rfl ?_
  refine q_getf hK dX9_drop_14 fX9_13 (by decide) rfl rfl ?_
  refine q_iload_n hK 1 dX9_drop_17 rfl rfl ?_
  refine qm_zald hK dX9_drop_18 rfl ha1 ?_
  rw [hI.2.1 ia ha1]
  refine q_if_ne hK 28 dX9_drop_19 (by decide) (fun c19 => ?_) (fun c19 => ?_)
  rotate_left
  · have ho := (b2i_eq0 _).mp c19
    simp only [ho] at h
    refine q_aload_n hK 0 dX9_drop_22 rfl rfl ?_
    refine q_iconst (v := nI 2) hK dX9_drop_23 (by decide) ?_
    refine q_cVi1 hK dX9_drop_24 lX9_104 (by decide) (by decide) rfl (Nat.le_of_ble_eq_true rfl) (m_ref (by decide) (by decide) ?_)
    exact q_iret hR dX9_drop_27 rfl ⟨_, rfl, h _ _ _ (hI.st 2)⟩
  have oa := (b2i_ne0 _).mp c19
  simp only [oa, if_true] at h
  have rA := hI.2.2.1 ia ha1 oa
  refine q_aload_n hK 0 dX9_drop_28 rfl rfl ?_
  refine q_getf hK dX9_drop_29 fX9_13 (by decide) rfl rfl ?_
  refine q_iload_n hK 1 dX9_drop_32 rfl rfl ?_
  refine q_iconst (v := nI 0) hK dX9_drop_33 (by decide) ?_
  refine qm_zast hK dX9_drop_34 rfl ha1 rfl ?_
  refine q_aload_n hK 0 dX9_drop_35 rfl rfl ?_
  refine q_iconst (v := nI 0) hK dX9_drop_36 (by decide) ?_
  refine q_cVi1 hK dX9_drop_37 lX9_104 (by decide) (by decide) rfl (Nat.le_of_ble_eq_true rfl) (m_acc ?_)
  obtain ⟨a1, a2, a3, a4, a5, a6, a7⟩ := hI
  refine q_iret hR dX9_drop_40 rfl ⟨_, rfl, h _ _ _ ⟨up_same _ _ _, fun i hi => ?_, fun i hi ho => ?_, ?_, ?_, ?_, ?_⟩⟩
  · rw [up_same]
    by_cases q : i = ia
    · subst q
      rw [upd_same]
      simp [gOn, up_same, b2i]; rfl
    · rw [upd_ne q, a2 i hi]
      simp [gOn, up_ne q]
  · rw [up_ne (by decide)]
    by_cases q : i = ia
    · subst q
      simp [gOn, up_same] at ho
    · exact a3 i hi (by simpa [gOn, up_ne q] using ho)
  · rw [up_ne (by decide), up_ne (by decide)]; exact a4
  · rw [up_ne (by decide), up_ne (by decide)]; exact a5
  · rw [up_ne (by decide), up_ne (by decide)]; exact a6
  · rw [up_ne (by decide)]; exact a7
theorem M_exponent {σ : Sg} {s k : Int32} {Q : Int32 → Mem → Prop} (hI : MI Z F σ) (h : ∀ Z' F' L', MI Z' F' (sp_exponent σ s k).2 → Q (sp_exponent σ s k).1 (MM X Z' F' L' g)) : CallI X 9 yX9_exponent [rf X 0, .int s, .int k] (MM X Z F L g) Q := by
  refine CallM_intro (own := RX9) [some (rf X 0), some (.int s), some (.int k)] wX9_exponent (by decide) (by decide) rfl (Nat.le_of_ble_eq_true rfl) rfl (fun K hK hR => ?_)
  refine q_iload_n hK 1 dX9_exponent_0 rfl rfl ?_
  refine q_cSi1 hK dX9_exponent_1 lX9_111 (by decide) (Nat.le_of_ble_eq_true rfl) (m_isShelf ?_)
  refine q_if_ne hK 13 dX9_exponent_4 (by decide) (fun c4 => ?_) (fun c4 => ?_)
  rotate_left
  · have hs := (b2i_eq0 _).mp c4
    simp only [sp_exponent, hs] at h
    refine q_aload_n hK 0 dX9_exponent_7 rfl rfl ?_
    refine q_iconst (v := nI 1) hK dX9_exponent_8 (by decide) ?_
    refine q_cVi1 hK dX9_exponent_9 lX9_136 (by decide) (by decide) rfl (Nat.le_of_ble_eq_true rfl) (m_none ?_)
    exact q_iret hR dX9_exponent_12 rfl ⟨_, rfl, h _ _ _ (hI.st 1)⟩
  have hs := (b2i_ne0 _).mp c4
  obtain ⟨ia, ha1, rfl, ha2⟩ := isIn_ex hs (by decide)
  simp only [sp_exponent, hs, onS, rowS, ha2, if_true] at h
  refine q_aload_n hK 0 dX9_exponent_13 rfl rfl ?_
  refine q_getf hK dX9_exponent_14 fX9_13 (by decide) rfl rfl ?_
  refine q_iload_n hK 1 dX9_exponent_17 rfl rfl ?_
  refine qm_zald hK dX9_exponent_18 rfl ha1 ?_
  rw [hI.2.1 ia ha1]
  refine q_if_ne hK 28 dX9_exponent_19 (by decide) (fun c19 => ?_) (fun c19 => ?_)
  rotate_left
  · have ho := (b2i_eq0 _).mp c19
    simp only [ho] at h
    refine q_aload_n hK 0 dX9_exponent_22 rfl rfl ?_
    refine q_iconst (v := nI 2) hK dX9_exponent_23 (by decide) ?_
    refine q_cVi1 hK dX9_exponent_24 lX9_136 (by decide) (by decide) rfl (Nat.le_of_ble_eq_true rfl) (m_none ?_)
    exact q_iret hR dX9_exponent_27 rfl ⟨_, rfl, h _ _ _ (hI.st 2)⟩
  have oa := (b2i_ne0 _).mp c19
  simp only [oa, if_true] at h
  have rA := hI.2.2.1 ia ha1 oa
  have bad : isIn k 6 = false → K (MM X Z F L g) 37 [some (rf X 0), some (.int (nI ia)), some (.int k)] [] := by
    intro hb
    simp only [hb] at h
    refine q_aload_n hK 0 dX9_exponent_37 rfl rfl ?_
    refine q_iconst (v := nI 3) hK dX9_exponent_38 (by decide) ?_
    refine q_cVi1 hK dX9_exponent_39 lX9_136 (by decide) (by decide) rfl (Nat.le_of_ble_eq_true rfl) (m_none ?_)
    exact q_iret hR dX9_exponent_42 rfl ⟨_, rfl, h _ _ _ (hI.st 3)⟩
  refine q_iload_n hK 2 dX9_exponent_28 rfl rfl ?_
  refine q_if_lt hK 37 dX9_exponent_29 (by decide) (fun c29 => ?_) (fun c29 => ?_)
  · exact bad (by have := lt0_iff.mp c29; simp [isIn]; omega)
  refine q_iload_n hK 2 dX9_exponent_32 rfl rfl ?_
  refine q_iconst (v := nI 5) hK dX9_exponent_33 (by decide) ?_
  refine q_icmp_le hK 43 dX9_exponent_34 (by decide) (fun c34 => ?_) (fun c34 => ?_)
  rotate_left
  · exact bad (by have := mt (Int32.le_iff_toInt_le (x := k) (y := nI 5)).mpr c34; rw [nI_toInt (by decide)] at this; simp [isIn]; omega)
  have hk : isIn k 6 = true := by
    have h1 := mt lt0_iff.mpr c29
    have h2 := Int32.le_iff_toInt_le.mp c34
    rw [nI_toInt (by decide)] at h2
    simp [isIn]
    omega
  obtain ⟨ik, hk1, rfl, hk2⟩ := isIn_ex hk (by decide)
  simp only [hk, hk2, if_true] at h
  refine q_aload_n hK 0 dX9_exponent_43 rfl rfl ?_
  refine q_iconst (v := nI 0) hK dX9_exponent_44 (by decide) ?_
  refine qm_put0 hK dX9_exponent_45 pX9_66 ?_
  refine q_aload_n hK 0 dX9_exponent_48 rfl rfl ?_
  refine q_getf hK dX9_exponent_49 fX9_7 (by decide) rfl rfl ?_
  refine q_bipush (v := nI 6) hK dX9_exponent_52 (by decide) ?_
  refine q_iload_n hK 1 dX9_exponent_54 rfl rfl ?_
  refine q_imul hK dX9_exponent_55 ?_
  refine q_iload_n hK 2 dX9_exponent_56 rfl rfl ?_
  refine q_iadd hK dX9_exponent_57 ?_
  refine qm_iald hK dX9_exponent_58 (n := 1) (k := 6 * ia + ik) rfl (by rw [pk_mul, nI_add]) (by show _ < 96; omega) ?_
  rw [(rA ik hk1).1]
  exact q_iret hR dX9_exponent_59 rfl ⟨_, rfl, h _ _ _ (hI.st 0)⟩
theorem M_order {σ : Sg} {a b : Int32} {Q : Int32 → Mem → Prop} (hI : MI Z F σ) (h : ∀ Z' F' L', MI Z' F' (sp_order σ a b).2 → Q (sp_order σ a b).1 (MM X Z' F' L' g)) : CallI X 9 yX9_order [rf X 0, .int a, .int b] (MM X Z F L g) Q := by
  refine CallM_intro (own := RX9) [some (rf X 0), some (.int a), some (.int b), none] wX9_order (by decide) (by decide) rfl (Nat.le_of_ble_eq_true rfl) rfl (fun K hK hR => ?_)
  have bad1 : (isIn a 16 && isIn b 16) = false → K (MM X Z F L g) 14 [some (rf X 0), some (.int a), some (.int b), none] [] := by
    intro hb
    simp only [sp_order, hb] at h
    refine q_aload_n hK 0 dX9_order_14 rfl rfl ?_
    refine q_iconst (v := nI 1) hK dX9_order_15 (by decide) ?_
    refine q_cVi1 hK dX9_order_16 lX9_136 (by decide) (by decide) rfl (Nat.le_of_ble_eq_true rfl) (m_none ?_)
    exact q_iret hR dX9_order_19 rfl ⟨_, rfl, h _ _ _ (hI.st 1)⟩
  refine q_iload_n hK 1 dX9_order_0 rfl rfl ?_
  refine q_cSi1 hK dX9_order_1 lX9_111 (by decide) (Nat.le_of_ble_eq_true rfl) (m_isShelf ?_)
  refine q_if_eq hK 14 dX9_order_4 (by decide) (fun c4 => ?_) (fun c4 => ?_)
  · exact bad1 (by simp [(b2i_eq0 _).mp c4])
  have ha := (b2i_ne0 _).mp c4
  refine q_iload_n hK 2 dX9_order_7 rfl rfl ?_
  refine q_cSi1 hK dX9_order_8 lX9_111 (by decide) (Nat.le_of_ble_eq_true rfl) (m_isShelf ?_)
  refine q_if_ne hK 20 dX9_order_11 (by decide) (fun c11 => ?_) (fun c11 => ?_)
  rotate_left
  · exact bad1 (by simp [(b2i_eq0 _).mp c11])
  have hb := (b2i_ne0 _).mp c11
  clear bad1
  obtain ⟨ia, ha1, rfl, ha2⟩ := isIn_ex ha (by decide)
  obtain ⟨ib, hb1, rfl, hb2⟩ := isIn_ex hb (by decide)
  simp only [sp_order, ha, hb, onS, rowS, ha2, hb2, Bool.and_self, if_true] at h
  have bad2 : (gOn σ ia && gOn σ ib) = false → K (MM X Z F L g) 38 [some (rf X 0), some (.int (nI ia)), some (.int (nI ib)), none] [] := by
    intro hb
    simp only [hb] at h
    refine q_aload_n hK 0 dX9_order_38 rfl rfl ?_
    refine q_iconst (v := nI 2) hK dX9_order_39 (by decide) ?_
    refine q_cVi1 hK dX9_order_40 lX9_136 (by decide) (by decide) rfl (Nat.le_of_ble_eq_true rfl) (m_none ?_)
    exact q_iret hR dX9_order_43 rfl ⟨_, rfl, h _ _ _ (hI.st 2)⟩
  refine q_aload_n hK 0 dX9_order_20 rfl rfl ?_
  refine q_getf hK dX9_order_21 fX9_13 (by decide) rfl rfl ?_
  refine q_iload_n hK 1 dX9_order_24 rfl rfl ?_
  refine qm_zald hK dX9_order_25 rfl ha1 ?_
  rw [hI.2.1 ia ha1]
  refine q_if_eq hK 38 dX9_order_26 (by decide) (fun c26 => ?_) (fun c26 => ?_)
  · exact bad2 (by simp [(b2i_eq0 _).mp c26])
  have oa := (b2i_ne0 _).mp c26
  refine q_aload_n hK 0 dX9_order_29 rfl rfl ?_
  refine q_getf hK dX9_order_30 fX9_13 (by decide) rfl rfl ?_
  refine q_iload_n hK 2 dX9_order_33 rfl rfl ?_
  refine qm_zald hK dX9_order_34 rfl hb1 ?_
  rw [hI.2.1 ib hb1]
  refine q_if_ne hK 44 dX9_order_35 (by decide) (fun c35 => ?_) (fun c35 => ?_)
  rotate_left
  · exact bad2 (by simp [(b2i_eq0 _).mp c35])
  have ob := (b2i_ne0 _).mp c35
  clear bad2
  simp only [oa, ob, Bool.and_self, if_true] at h
  have rA := hI.2.2.1 ia ha1 oa
  have rB := hI.2.2.1 ib hb1 ob
  refine q_aload_n hK 0 dX9_order_44 rfl rfl ?_
  refine q_iconst (v := nI 0) hK dX9_order_45 (by decide) ?_
  refine qm_put0 hK dX9_order_46 pX9_66 ?_
  refine q_aload_n hK 0 dX9_order_49 rfl rfl ?_
  refine q_aload_n hK 0 dX9_order_50 rfl rfl ?_
  refine q_getf hK dX9_order_51 fX9_7 (by decide) rfl rfl ?_
  refine q_bipush (v := nI 6) hK dX9_order_54 (by decide) ?_
  refine q_iload_n hK 1 dX9_order_56 rfl rfl ?_
  refine q_imul hK dX9_order_57 ?_
  refine q_aload_n hK 0 dX9_order_58 rfl rfl ?_
  refine q_getf hK dX9_order_59 fX9_7 (by decide) rfl rfl ?_
  refine q_bipush (v := nI 6) hK dX9_order_62 (by decide) ?_
  refine q_iload_n hK 2 dX9_order_64 rfl rfl ?_
  refine q_imul hK dX9_order_65 ?_
  rw [show nI 6 * nI ia = nI (6 * ia) from pk_mul 6 ia, show nI 6 * nI ib = nI (6 * ib) from pk_mul 6 ib]
  refine q_cVi4 hK dX9_order_66 lX9_139 (by decide) (by decide) rfl (Nat.le_of_ble_eq_true rfl) (m_compare (n := 1) (a := 6 * ia) (n2 := 1) (a2 := 6 * ib) (e := gRow σ ia) (e2 := gRow σ ib) rfl (by decide) (by show 6 * ia + 6 ≤ 96; omega) rfl (by decide) (by show 6 * ib + 6 ≤ 96; omega) (fun k hk => by have := rA k hk; exact ⟨this.1, by omega, by omega⟩) (fun k hk => by have := rB k hk; exact ⟨this.1, by omega, by omega⟩) (fun Z' F' z1 z2 => ?_))
  have sr := sgn_range (fun k => gRow σ ia k - gRow σ ib k)
  have hM : MI Z' F' (sSt σ 0) := (hI.st 0).scr (sc56 z1) (sc345 z2)
  refine q_istore_n hK 3 dX9_order_69 rfl (by decide) ?_
  refine q_iload_n hK 3 dX9_order_70 rfl rfl ?_
  refine q_if_ge hK 79 dX9_order_71 (by decide) (fun c71 => ?_) (fun c71 => ?_)
  · have q := (jI_0le (by omega) (by omega)).mp c71
    have q2 : ¬ sgn (fun k => gRow σ ia k - gRow σ ib k) < 0 := by omega
    simp only [q2, if_false] at h
    refine q_iload_n hK 3 dX9_order_79 rfl rfl ?_
    exact q_iret hR dX9_order_80 rfl ⟨_, rfl, h _ _ _ hM⟩
  · have q := mt (jI_0le (b := sgn (fun k => gRow σ ia k - gRow σ ib k)) (by omega) (by omega)).mpr c71
    have q2 : sgn (fun k => gRow σ ia k - gRow σ ib k) < 0 := by omega
    simp only [q2, if_true] at h
    refine q_bipush (v := jI (-2)) hK dX9_order_74 (by decide) ?_
    refine q_goto hK 80 dX9_order_76 (by decide) ?_
    exact q_iret hR dX9_order_80 rfl ⟨_, rfl, h _ _ _ hM⟩
end M7
