-- ===== the class's calls, I
theorem bR_sh {i : Nat} (h : i < 16) : bR (48 + i) = true := by
  simp only [bR, Bool.or_eq_true, Bool.and_eq_true, decide_eq_true_eq]
  left
  right
  omega
def scA (j : Nat) : Bool := [22, 26, 28, 29, 35, 36, 37, 39, 45, 46, 47].contains j
theorem scA_B {c j : Nat} (h : scA j = true) : scB c j := by
  simp [scA] at h
  unfold scB
  omega
theorem BI.sc {Z Z' : Nat → Int32} {P : Nat → Nat → Nat} {F F' : Nat → Nat → Int32} {σ : Sg} {S : List Nat} (h : BI Z P F σ) (hz : eqo [2, 3] Z Z') (hf : eqo S F F') (hS : ∀ j ∈ S, scA j = true) : BI Z' P F' σ := h.fr (hz.mono (by simp)) (frB_e hf (fun j hj => scA_B (hS j hj))) h.2.2.2.2.2.2 rfl rfl
theorem BI.sc22 {Z : Nat → Int32} {P : Nat → Nat → Nat} {F : Nat → Nat → Int32} {σ : Sg} {f : Nat → Int32} (h : BI Z P F σ) : BI Z P (va_up F 22 f) σ := h.sc (S := [22]) eqo.rf (eqo.rf.up (by decide)) (by decide)
theorem BI.scS {Z Z' : Nat → Int32} {P : Nat → Nat → Nat} {F F' : Nat → Nat → Int32} {σ : Sg} (h : BI Z P F σ) (hz : eqo [2, 3] Z Z') (hf : frS F F') : BI Z' P F' σ := h.fr (hz.mono (by simp)) (frB_S hf) h.2.2.2.2.2.2 rfl rfl
theorem BI.p32 {Z : Nat → Int32} {P P' : Nat → Nat → Nat} {F : Nat → Nat → Int32} {σ : Sg} (h : BI Z P F σ) (he : eqo [32] P P') (hp : tPo P') : BI Z P' F σ := by
  have hn := h.2.2.2.2.2.2.2.2.2.1.1
  exact h.fr eqo.rf frB.rf (h.2.2.2.2.2.2.of32 he hp) (he 33 (by decide)) (he _ (by simp; rcases hn with z | z <;> omega))
theorem BI.p38 {Z : Nat → Int32} {P P' : Nat → Nat → Nat} {F : Nat → Nat → Int32} {σ : Sg} (h : BI Z P F σ) (he : eqo [38] P P') (hp : kPo P') : BI Z P' F σ := by
  have hn := h.2.2.2.2.2.2.2.2.2.1.1
  exact h.fr eqo.rf frB.rf (h.2.2.2.2.2.2.of38 he hp) (he 33 (by decide)) (he _ (by simp; rcases hn with z | z <;> omega))
theorem BI.p44 {Z : Nat → Int32} {P P' : Nat → Nat → Nat} {F : Nat → Nat → Int32} {σ : Sg} (h : BI Z P F σ) (he : eqo [44] P P') (hp : isXY P') : BI Z P' F σ := by
  have hn := h.2.2.2.2.2.2.2.2.2.1.1
  exact h.fr eqo.rf frB.rf (h.2.2.2.2.2.2.of44 he hp) (he 33 (by decide)) (he _ (by simp; rcases hn with z | z <;> omega))
theorem BI.put {Z : Nat → Int32} {P : Nat → Nat → Nat} {F : Nat → Nat → Int32} {σ : Sg} {s : Nat} {e : Vec} {f : Nat → Int32} (h : BI Z P F σ) (hs : s < 16) (hf : farV 24 e = false) (h1 : ∀ k, k < 6 → f k = jI (e k)) : BI (va_up Z 1 0) P (va_up (va_up F (48 + s) f) 21 (upd (F 21) s 1)) (0, va_up (gOn σ) s true, va_up (gRow σ) s e, σ.2.2.2) := by
  obtain ⟨b1, b2, b3, b4, b5, b6, b7⟩ := h
  have hb := farV_false.mp hf
  have hi := nlZ_in (a := P 33 7)
  have hoth : ∀ j, j ≠ 21 → j ≠ 48 + s → va_up (va_up F (48 + s) f) 21 (upd (F 21) s 1) j = F j := fun j j1 j2 => by rw [up_ne j1, up_ne j2]
  refine ⟨up_same _ _ _, fun i hi => ?_, fun i hi ho => ?_, ?_, ?_, ?_, b7⟩
  · rw [up_same]
    by_cases q : i = s
    · subst q
      rw [upd_same]
      simp [gOn, up_same, b2i]
    · rw [upd_ne q, b2 i hi]
      simp [gOn, up_ne q]
  · rw [up_ne (by omega)]
    by_cases q : i = s
    · subst q
      intro k hk
      have := hb k hk
      simp only [gRow, up_same]
      exact ⟨h1 k hk, by omega, by omega⟩
    · have ho' : gOn σ i = true := by simpa [gOn, up_ne q] using ho
      rw [up_ne (by omega)]
      simp only [gRow, up_ne q]
      exact b3 i hi ho'
  · refine ⟨by rw [up_ne (by decide)]; exact b4.1, b4.2.1, fun i hi2 => ?_⟩
    have := b4.2.1
    rw [hoth _ (by omega) (by omega)]
    exact b4.2.2 i hi2
  · refine ⟨b5.1, by rw [up_ne (by omega)]; exact b5.2.1, fun h0 => ?_, b5.2.2.2⟩
    obtain ⟨s1, s2, s3, s4, s5, s6⟩ := b5.2.2.1 h0
    refine ⟨s1, s2, by rw [up_ne (by omega)]; exact s3, s4, fun i hi2 => ?_, ?_⟩
    · have hi2 : i < gN σ := hi2
      have := s2.rng (show i < 24 by omega)
      rw [hoth _ (by omega) (by omega)]
      exact s5 i hi2
    · rw [hoth 34 (by omega) (by omega)]; exact s6
  · rw [up_ne (by decide), hoth 23 (by omega) (by omega)]; exact b6
def fltN (σ : Sg) (s : Int32) : Nat := if isIn s 16 then (if onS σ s then 0 else 2) else 1
section BW
variable {X : Cx} {Z : Nat → Int32} {V : Nat → Int64} {P : Nat → Nat → Nat} {F : Nat → Nat → Int32} {L : Nat → Nat → Int64} {g : Mem}
theorem b_refuse {w : Int32} {Q : Int32 → Mem → Prop} (h : Q 0 (BB X (va_up Z 1 w) V P F L g)) : CallI X 0 yX8_refuse [rf X 19, .int w] (BB X Z V P F L g) Q := by
  refine CallM_intro (own := RX8) [some (rf X 19), some (.int w)] wX8_refuse (by decide) (by decide) rfl (Nat.le_of_ble_eq_true rfl) rfl (fun K hK hR => ?_)
  refine q_aload_n hK 0 dX8_refuse_0 rfl rfl ?_
  refine q_iload_n hK 1 dX8_refuse_1 rfl rfl ?_
  refine qb_put19_9 hK dX8_refuse_2 pX8_60 ?_
  refine q_iconst (v := nI 0) hK dX8_refuse_5 (by decide) ?_
  exact q_iret hR dX8_refuse_6 rfl ⟨_, rfl, h⟩
theorem b_none {w : Int32} {Q : Int32 → Mem → Prop} (h : Q (-1) (BB X (va_up Z 1 w) V P F L g)) : CallI X 0 yX8_none [rf X 19, .int w] (BB X Z V P F L g) Q := by
  refine CallM_intro (own := RX8) [some (rf X 19), some (.int w)] wX8_none (by decide) (by decide) rfl (Nat.le_of_ble_eq_true rfl) rfl (fun K hK hR => ?_)
  refine q_aload_n hK 0 dX8_none_0 rfl rfl ?_
  refine q_iload_n hK 1 dX8_none_1 rfl rfl ?_
  refine qb_put19_9 hK dX8_none_2 pX8_60 ?_
  refine q_iconst (v := jI (-1)) hK dX8_none_5 (by decide) ?_
  exact q_iret hR dX8_none_6 rfl ⟨_, rfl, h⟩
theorem b_accept {Q : Int32 → Mem → Prop} (h : Q 1 (BB X (va_up Z 1 0) V P F L g)) : CallI X 0 yX8_accept [rf X 19] (BB X Z V P F L g) Q := by
  refine CallM_intro (own := RX8) [some (rf X 19)] wX8_accept (by decide) (by decide) rfl (Nat.le_of_ble_eq_true rfl) rfl (fun K hK hR => ?_)
  refine q_aload_n hK 0 dX8_accept_0 rfl rfl ?_
  refine q_iconst (v := nI 0) hK dX8_accept_1 (by decide) ?_
  refine qb_put19_9 hK dX8_accept_2 pX8_60 ?_
  refine q_iconst (v := nI 1) hK dX8_accept_5 (by decide) ?_
  exact q_iret hR dX8_accept_6 rfl ⟨_, rfl, h⟩
theorem b_answer {w : Int32} {Q : Int32 → Mem → Prop} (h : Q w (BB X (va_up Z 1 0) V P F L g)) : CallI X 0 yX8_answer [rf X 19, .int w] (BB X Z V P F L g) Q := by
  refine CallM_intro (own := RX8) [some (rf X 19), some (.int w)] wX8_answer (by decide) (by decide) rfl (Nat.le_of_ble_eq_true rfl) rfl (fun K hK hR => ?_)
  refine q_aload_n hK 0 dX8_answer_0 rfl rfl ?_
  refine q_iconst (v := nI 0) hK dX8_answer_1 (by decide) ?_
  refine qb_put19_9 hK dX8_answer_2 pX8_60 ?_
  refine q_iload_n hK 1 dX8_answer_5 rfl rfl ?_
  exact q_iret hR dX8_answer_6 rfl ⟨_, rfl, h⟩
theorem b_faultOf {σ : Sg} {s : Int32} {v : Nat} {Q : Int32 → Mem → Prop} (hI : BI Z P F σ) (hv : fltN σ s = v) (h : Q (nI v) (BB X Z V P F L g)) : CallI X 1 yX8_faultOf [rf X 19, .int s] (BB X Z V P F L g) Q := by
  subst hv
  refine CallM_intro (own := RX8) [some (rf X 19), some (.int s)] wX8_faultOf (by decide) (by decide) rfl (Nat.le_of_ble_eq_true rfl) rfl (fun K hK hR => ?_)
  refine q_iload_n hK 1 dX8_faultOf_0 rfl rfl ?_
  refine q_cSi1 hK dX8_faultOf_1 lX8_63 (by decide) (Nat.le_of_ble_eq_true rfl) (b_isShelf ?_)
  refine q_if_ne hK 9 dX8_faultOf_4 (by decide) (fun c4 => ?_) (fun c4 => ?_)
  rotate_left
  · have hs := (b2i_eq0 _).mp c4
    rw [show fltN σ s = 1 by simp [fltN, hs]] at h
    refine q_iconst (v := nI 1) hK dX8_faultOf_7 (by decide) ?_
    exact q_iret hR dX8_faultOf_8 rfl ⟨_, rfl, h⟩
  have hs := (b2i_ne0 _).mp c4
  obtain ⟨ia, ha1, rfl, ha2⟩ := isIn_ex hs (by decide)
  refine q_aload_n hK 0 dX8_faultOf_9 rfl rfl ?_
  refine q_getf hK dX8_faultOf_10 fX8_14 (by decide) rfl rfl ?_
  refine q_iload_n hK 1 dX8_faultOf_13 rfl rfl ?_
  refine qb_zald hK dX8_faultOf_14 rfl ha1 ?_
  rw [hI.2.1 ia ha1]
  refine q_if_eq hK 22 dX8_faultOf_15 (by decide) (fun c15 => ?_) (fun c15 => ?_)
  · have ho := (b2i_eq0 _).mp c15
    rw [show fltN σ (nI ia) = 2 by simp [fltN, hs, onS, ha2, ho]] at h
    refine q_iconst (v := nI 2) hK dX8_faultOf_22 (by decide) ?_
    exact q_iret hR dX8_faultOf_23 rfl ⟨_, rfl, h⟩
  · have ho := (b2i_ne0 _).mp c15
    rw [show fltN σ (nI ia) = 0 by simp [fltN, hs, onS, ha2, ho]] at h
    refine q_iconst (v := nI 0) hK dX8_faultOf_18 (by decide) ?_
    refine q_goto hK 23 dX8_faultOf_19 (by decide) ?_
    exact q_iret hR dX8_faultOf_23 rfl ⟨_, rfl, h⟩
theorem b_putMade {σ : Sg} {s : Nat} {e : Vec} {Q : Int32 → Mem → Prop} (hI : BI Z P F σ) (hs : s < 16) (he : hasX (F 22) e) (h : ∀ Z' F', BI Z' P F' (sp_put σ s e).2 → Q (sp_put σ s e).1 (BB X Z' V P F' L g)) : CallI X 2 yX8_putMade [rf X 19, .int (nI s)] (BB X Z V P F L g) Q := by
  refine CallM_intro (own := RX8) [some (rf X 19), some (.int (nI s))] wX8_putMade (by decide) (by decide) rfl (Nat.le_of_ble_eq_true rfl) rfl (fun K hK hR => ?_)
  refine q_iload_n hK 1 dX8_putMade_0 rfl rfl ?_
  refine q_cSi1 hK dX8_putMade_1 lX8_63 (by decide) (Nat.le_of_ble_eq_true rfl) (b_isShelf ?_)
  rw [isIn_nI hs (by decide)]
  refine q_if_ne hK 13 dX8_putMade_4 (by decide) (fun c4 => ?_) (fun c4 => ?_)
  rotate_left
  · exact absurd c4 (by decide)
  refine q_aload_n hK 0 dX8_putMade_13 rfl rfl ?_
  refine q_getf hK dX8_putMade_14 fX8_18 (by decide) rfl rfl ?_
  refine q_bipush (v := nI 24) hK dX8_putMade_17 (by decide) ?_
  refine q_cSi2 hK dX8_putMade_19 lX8_219 (by decide) (Nat.le_of_ble_eq_true rfl) (b_isWithin (n := 22) (t := 24) rfl ?_)
  rw [farN_V (by decide) he]
  refine q_if_ne hK 31 dX8_putMade_22 (by decide) (fun c22 => ?_) (fun c22 => ?_)
  rotate_left
  · have hf : farV 24 e = true := by simpa using (b2i_eq0 _).mp c22
    simp only [sp_put, hf, if_true] at h
    refine q_aload_n hK 0 dX8_putMade_25 rfl rfl ?_
    refine q_iconst (v := nI 4) hK dX8_putMade_26 (by decide) ?_
    refine q_cVi1 hK dX8_putMade_27 lX8_67 (by decide) (by decide) rfl (Nat.le_of_ble_eq_true rfl) (b_refuse ?_)
    exact q_iret hR dX8_putMade_30 rfl ⟨_, rfl, h _ _ (hI.st 4)⟩
  have hf : farV 24 e = false := by simpa using (b2i_ne0 _).mp c22
  simp only [sp_put, hf, Bool.false_eq_true, if_false] at h
  refine q_aload_n hK 0 dX8_putMade_31 rfl rfl ?_
  refine q_getf hK dX8_putMade_32 fX8_18 (by decide) rfl rfl ?_
  refine q_aload_n hK 0 dX8_putMade_35 rfl rfl ?_
  refine q_getf hK dX8_putMade_36 fX8_11 (by decide) rfl rfl ?_
  refine q_iload_n hK 1 dX8_putMade_39 rfl rfl ?_
  refine qb_aald20 hK dX8_putMade_40 rfl hs ?_
  refine q_cSv2 hK dX8_putMade_41 lX8_223 (by decide) (Nat.le_of_ble_eq_true rfl) (b_copy (n := 22) rfl (bR_sh hs) (fun f hff => ?_))
  refine q_aload_n hK 0 dX8_putMade_44 rfl rfl ?_
  refine q_getf hK dX8_putMade_45 fX8_14 (by decide) rfl rfl ?_
  refine q_iload_n hK 1 dX8_putMade_48 rfl rfl ?_
  refine q_iconst (v := nI 1) hK dX8_putMade_49 (by decide) ?_
  refine qb_zast hK dX8_putMade_50 rfl hs rfl ?_
  refine q_aload_n hK 0 dX8_putMade_51 rfl rfl ?_
  refine q_cVi0 hK dX8_putMade_52 lX8_96 (by decide) (by decide) rfl (Nat.le_of_ble_eq_true rfl) (b_accept ?_)
  rw [up_ne (by omega : (21 : Nat) ≠ 48 + s)]
  exact q_iret hR dX8_putMade_55 rfl ⟨_, rfl, h _ _ (hI.put hs hf (fun k hk => by rw [hff k hk]; exact (he k hk).1))⟩
theorem B_status {σ : Sg} {Q : Int32 → Mem → Prop} (hI : BI Z P F σ) (h : Q σ.1 (BB X Z V P F L g)) : CallI X 9 yX8_status [rf X 19] (BB X Z V P F L g) Q := by
  refine CallM_intro (own := RX8) [some (rf X 19)] wX8_status (by decide) (by decide) rfl (Nat.le_of_ble_eq_true rfl) rfl (fun K hK hR => ?_)
  refine q_aload_n hK 0 dX8_status_0 rfl rfl ?_
  refine q_getf hK dX8_status_1 fX8_60 (by decide) rfl rfl ?_
  rw [hI.1]
  exact q_iret hR dX8_status_4 rfl ⟨_, rfl, h⟩
theorem B_set {σ : Sg} {s a0 a1 a2 a3 a4 a5 : Int32} {Q : Int32 → Mem → Prop} (hI : BI Z P F σ) (h : ∀ Z' V' P' F' L', BI Z' P' F' (sp_set σ s a0 a1 a2 a3 a4 a5).2 → Q (sp_set σ s a0 a1 a2 a3 a4 a5).1 (BB X Z' V' P' F' L' g)) : CallI X 9 yX8_set [rf X 19, .int s, .int a0, .int a1, .int a2, .int a3, .int a4, .int a5] (BB X Z V P F L g) Q := by
  refine CallM_intro (own := RX8) [some (rf X 19), some (.int s), some (.int a0), some (.int a1), some (.int a2), some (.int a3), some (.int a4), some (.int a5)] wX8_set (by decide) (by decide) rfl (Nat.le_of_ble_eq_true rfl) rfl (fun K hK hR => ?_)
  refine q_iload_n hK 1 dX8_set_0 rfl rfl ?_
  refine q_cSi1 hK dX8_set_1 lX8_63 (by decide) (Nat.le_of_ble_eq_true rfl) (b_isShelf ?_)
  refine q_if_ne hK 13 dX8_set_4 (by decide) (fun c4 => ?_) (fun c4 => ?_)
  rotate_left
  · have hs := (b2i_eq0 _).mp c4
    simp only [sp_set, hs] at h
    refine q_aload_n hK 0 dX8_set_7 rfl rfl ?_
    refine q_iconst (v := nI 1) hK dX8_set_8 (by decide) ?_
    refine q_cVi1 hK dX8_set_9 lX8_67 (by decide) (by decide) rfl (Nat.le_of_ble_eq_true rfl) (b_refuse ?_)
    exact q_iret hR dX8_set_12 rfl ⟨_, rfl, h _ _ _ _ _ (hI.st 1)⟩
  have hs := (b2i_ne0 _).mp c4
  simp only [sp_set, hs, if_true] at h
  obtain ⟨k, hk, rfl, hk2⟩ := isIn_ex hs (by decide)
  rw [hk2] at h
  refine q_aload_n hK 0 dX8_set_13 rfl rfl ?_
  refine q_getf hK dX8_set_14 fX8_18 (by decide) rfl rfl ?_
  refine q_iconst (v := nI 0) hK dX8_set_17 (by decide) ?_
  refine q_iload_n hK 2 dX8_set_18 rfl rfl ?_
  refine qb_iastR hK dX8_set_19 (n := 22) (k := 0) rfl rfl (by decide) ?_
  refine q_aload_n hK 0 dX8_set_20 rfl rfl ?_
  refine q_getf hK dX8_set_21 fX8_18 (by decide) rfl rfl ?_
  refine q_iconst (v := nI 1) hK dX8_set_24 (by decide) ?_
  refine q_iload_n hK 3 dX8_set_25 rfl rfl ?_
  refine qb_iastR hK dX8_set_26 (n := 22) (k := 1) rfl rfl (by decide) ?_
  refine q_aload_n hK 0 dX8_set_27 rfl rfl ?_
  refine q_getf hK dX8_set_28 fX8_18 (by decide) rfl rfl ?_
  refine q_iconst (v := nI 2) hK dX8_set_31 (by decide) ?_
  refine q_iload hK dX8_set_32 rfl ?_
  refine qb_iastR hK dX8_set_34 (n := 22) (k := 2) rfl rfl (by decide) ?_
  refine q_aload_n hK 0 dX8_set_35 rfl rfl ?_
  refine q_getf hK dX8_set_36 fX8_18 (by decide) rfl rfl ?_
  refine q_iconst (v := nI 3) hK dX8_set_39 (by decide) ?_
  refine q_iload hK dX8_set_40 rfl ?_
  refine qb_iastR hK dX8_set_42 (n := 22) (k := 3) rfl rfl (by decide) ?_
  refine q_aload_n hK 0 dX8_set_43 rfl rfl ?_
  refine q_getf hK dX8_set_44 fX8_18 (by decide) rfl rfl ?_
  refine q_iconst (v := nI 4) hK dX8_set_47 (by decide) ?_
  refine q_iload hK dX8_set_48 rfl ?_
  refine qb_iastR hK dX8_set_50 (n := 22) (k := 4) rfl rfl (by decide) ?_
  refine q_aload_n hK 0 dX8_set_51 rfl rfl ?_
  refine q_getf hK dX8_set_52 fX8_18 (by decide) rfl rfl ?_
  refine q_iconst (v := nI 5) hK dX8_set_55 (by decide) ?_
  refine q_iload hK dX8_set_56 rfl ?_
  refine qb_iastR hK dX8_set_58 (n := 22) (k := 5) rfl rfl (by decide) ?_
  refine q_aload_n hK 0 dX8_set_59 rfl rfl ?_
  refine q_iload_n hK 1 dX8_set_60 rfl rfl ?_
  simp only [up_up, up_same]
  refine q_cVi1 hK dX8_set_61 lX8_70 (by decide) (by decide) rfl (Nat.le_of_ble_eq_true rfl) (b_putMade (e := vec6 a0 a1 a2 a3 a4 a5) hI.sc22 hk (by rw [up_same]; exact hasX_vec6 a0 a1 a2 a3 a4 a5 (F 22)) (fun Z' F' hI' => ?_))
  exact q_iret hR dX8_set_64 (nar_put ..) ⟨_, rfl, h Z' V P F' L hI'⟩
theorem B_ratio {σ : Sg} {s n d : Int32} {Q : Int32 → Mem → Prop} (hI : BI Z P F σ) (h : ∀ Z' V' P' F' L', BI Z' P' F' (sp_ratio σ s n d).2 → Q (sp_ratio σ s n d).1 (BB X Z' V' P' F' L' g)) : CallI X 9 yX8_ratio [rf X 19, .int s, .int n, .int d] (BB X Z V P F L g) Q := by
  refine CallM_intro (own := RX8) [some (rf X 19), some (.int s), some (.int n), some (.int d)] wX8_ratio (by decide) (by decide) rfl (Nat.le_of_ble_eq_true rfl) rfl (fun K hK hR => ?_)
  refine q_iload_n hK 1 dX8_ratio_0 rfl rfl ?_
  refine q_cSi1 hK dX8_ratio_1 lX8_63 (by decide) (Nat.le_of_ble_eq_true rfl) (b_isShelf ?_)
  refine q_if_ne hK 13 dX8_ratio_4 (by decide) (fun c4 => ?_) (fun c4 => ?_)
  rotate_left
  · have hs := (b2i_eq0 _).mp c4
    simp only [sp_ratio, hs] at h
    refine q_aload_n hK 0 dX8_ratio_7 rfl rfl ?_
    refine q_iconst (v := nI 1) hK dX8_ratio_8 (by decide) ?_
    refine q_cVi1 hK dX8_ratio_9 lX8_67 (by decide) (by decide) rfl (Nat.le_of_ble_eq_true rfl) (b_refuse ?_)
    exact q_iret hR dX8_ratio_12 rfl ⟨_, rfl, h _ _ _ _ _ (hI.st 1)⟩
  have hs := (b2i_ne0 _).mp c4
  obtain ⟨is, hs1, rfl, hs2⟩ := isIn_ex hs (by decide)
  simp only [sp_ratio, hs, hs2, if_true] at h
  have bad : ¬ (1 ≤ n.toInt ∧ n.toInt ≤ 1000000000 ∧ 1 ≤ d.toInt ∧ d.toInt ≤ 1000000000) → K (BB X Z V P F L g) 35 [some (rf X 19), some (.int (nI is)), some (.int n), some (.int d)] [] := by
    intro hb
    simp only [show (decide (1 ≤ n.toInt) && decide (n.toInt ≤ 1000000000) && (decide (1 ≤ d.toInt) && decide (d.toInt ≤ 1000000000))) = false by simp; omega] at h
    refine q_aload_n hK 0 dX8_ratio_35 rfl rfl ?_
    refine q_iconst (v := nI 3) hK dX8_ratio_36 (by decide) ?_
    refine q_cVi1 hK dX8_ratio_37 lX8_67 (by decide) (by decide) rfl (Nat.le_of_ble_eq_true rfl) (b_refuse ?_)
    exact q_iret hR dX8_ratio_40 rfl ⟨_, rfl, h _ _ _ _ _ (hI.st 3)⟩
  have hc9 : (1000000000 : Int32).toInt = 1000000000 := by decide
  refine q_iload_n hK 2 dX8_ratio_13 rfl rfl ?_
  refine q_iconst (v := nI 1) hK dX8_ratio_14 (by decide) ?_
  refine q_icmp_lt hK 35 dX8_ratio_15 (by decide) (fun c15 => ?_) (fun c15 => ?_)
  · exact bad (by have := Int32.lt_iff_toInt_lt.mp c15; rw [nI_toInt (by decide)] at this; omega)
  have d1 := mt (Int32.lt_iff_toInt_lt (x := n) (y := nI 1)).mpr c15
  rw [nI_toInt (by decide)] at d1
  refine q_iload_n hK 2 dX8_ratio_18 rfl rfl ?_
  refine q_ldc hK dX8_ratio_19 nX8_73 ?_
  refine q_icmp_gt hK 35 dX8_ratio_21 (by decide) (fun c21 => ?_) (fun c21 => ?_)
  · exact bad (by have := Int32.lt_iff_toInt_lt.mp c21; rw [hc9] at this; omega)
  have d2 := mt (Int32.lt_iff_toInt_lt (x := 1000000000) (y := n)).mpr c21
  rw [hc9] at d2
  refine q_iload_n hK 3 dX8_ratio_24 rfl rfl ?_
  refine q_iconst (v := nI 1) hK dX8_ratio_25 (by decide) ?_
  refine q_icmp_lt hK 35 dX8_ratio_26 (by decide) (fun c26 => ?_) (fun c26 => ?_)
  · exact bad (by have := Int32.lt_iff_toInt_lt.mp c26; rw [nI_toInt (by decide)] at this; omega)
  have d3 := mt (Int32.lt_iff_toInt_lt (x := d) (y := nI 1)).mpr c26
  rw [nI_toInt (by decide)] at d3
  refine q_iload_n hK 3 dX8_ratio_29 rfl rfl ?_
  refine q_ldc hK dX8_ratio_30 nX8_73 ?_
  refine q_icmp_le hK 41 dX8_ratio_32 (by decide) (fun c32 => ?_) (fun c32 => ?_)
  rotate_left
  · exact bad (by have := mt (Int32.le_iff_toInt_le (x := d) (y := 1000000000)).mpr c32; rw [hc9] at this; omega)
  have d4 := Int32.le_iff_toInt_le.mp c32
  rw [hc9] at d4
  clear bad
  simp only [show (decide (1 ≤ n.toInt) && decide (n.toInt ≤ 1000000000) && (decide (1 ≤ d.toInt) && decide (d.toInt ≤ 1000000000))) = true by simp; omega, if_true] at h
  obtain ⟨vn, n1, n2, rfl, n3⟩ := big_ex (by omega) (by omega : n.toInt ≤ _)
  obtain ⟨vd, m1, m2, rfl, m3⟩ := big_ex (by omega) (by omega : d.toInt ≤ _)
  rw [n3, m3] at h
  have hg1 : 1 ≤ Nat.gcd vn vd := Nat.gcd_pos_of_pos_left _ n1
  have hu1 : 1 ≤ vn / Nat.gcd vn vd := Nat.div_pos (Nat.gcd_le_left _ n1) hg1
  have hl1 : 1 ≤ vd / Nat.gcd vn vd := Nat.div_pos (Nat.gcd_le_right _ m1) hg1
  refine q_iload_n hK 2 dX8_ratio_41 rfl rfl ?_
  refine q_iload_n hK 3 dX8_ratio_42 rfl rfl ?_
  refine q_aload_n hK 0 dX8_ratio_43 rfl rfl ?_
  refine q_getf hK dX8_ratio_44 fX8_18 (by decide) rfl rfl ?_
  refine q_cSi3 hK dX8_ratio_47 lX8_74 (by decide) (Nat.le_of_ble_eq_true rfl) (b_factor (t := 22) rfl n1 n2 m1 m2 (fun f hf => ?_))
  generalize vn / Nat.gcd vn vd = U at *
  generalize vd / Nat.gcd vn vd = W at *
  have ub := upR_bd hu1 6
  have lb := upR_bd hl1 6
  refine q_if_ne hK 59 dX8_ratio_50 (by decide) (fun c50 => ?_) (fun c50 => ?_)
  rotate_left
  · have hq := (b2i_eq0 _).mp c50
    simp only [Bool.and_eq_false_iff, decide_eq_false_iff_not] at hq
    simp only [show (decide (1 < upR U 6) || decide (1 < upR W 6)) = true by simp; omega, if_true] at h
    refine q_aload_n hK 0 dX8_ratio_53 rfl rfl ?_
    refine q_iconst (v := nI 4) hK dX8_ratio_54 (by decide) ?_
    refine q_cVi1 hK dX8_ratio_55 lX8_67 (by decide) (by decide) rfl (Nat.le_of_ble_eq_true rfl) (b_refuse ?_)
    exact q_iret hR dX8_ratio_58 rfl ⟨_, rfl, h _ _ _ _ _ (hI.sc22.st 4)⟩
  have hq := (b2i_ne0 _).mp c50
  simp only [Bool.and_eq_true, decide_eq_true_eq] at hq
  simp only [show (decide (1 < upR U 6) || decide (1 < upR W 6)) = false by simp; omega] at h
  have hX : hasX (va_up F 22 f 22) (ratE U W) := fun j hj => by
    rw [up_same, hf j hj]
    have b1 := (vpF_ge (prN j) 64 (upR U j) (upR_bd hu1 j).1).2.2
    have b2 := (vpF_ge (prN j) 64 (upR W j) (upR_bd hl1 j).1).2.2
    exact ⟨rfl, by unfold ratE cntR; omega, by unfold ratE cntR; omega⟩
  refine q_aload_n hK 0 dX8_ratio_59 rfl rfl ?_
  refine q_iload_n hK 1 dX8_ratio_60 rfl rfl ?_
  refine q_cVi1 hK dX8_ratio_61 lX8_70 (by decide) (by decide) rfl (Nat.le_of_ble_eq_true rfl) (b_putMade hI.sc22 hs1 hX (fun Z' F' hI' => ?_))
  exact q_iret hR dX8_ratio_64 (nar_put ..) ⟨_, rfl, h Z' V P F' L hI'⟩
theorem B_drop {σ : Sg} {s : Int32} {Q : Int32 → Mem → Prop} (hI : BI Z P F σ) (h : ∀ Z' V' P' F' L', BI Z' P' F' (sp_drop σ s).2 → Q (sp_drop σ s).1 (BB X Z' V' P' F' L' g)) : CallI X 9 yX8_drop [rf X 19, .int s] (BB X Z V P F L g) Q := by
  refine CallM_intro (own := RX8) [some (rf X 19), some (.int s), none] wX8_drop (by decide) (by decide) rfl (Nat.le_of_ble_eq_true rfl) rfl (fun K hK hR => ?_)
  by_cases hs : isIn s 16 = true
  rotate_left
  · have hs := Bool.eq_false_iff.mpr hs
    simp only [sp_drop, hs] at h
    refine q_aload_n hK 0 dX8_drop_0 rfl rfl ?_
    refine q_iload_n hK 1 dX8_drop_1 rfl rfl ?_
    refine q_cVi1 hK dX8_drop_2 lX8_92 (by decide) (by decide) rfl (Nat.le_of_ble_eq_true rfl) (b_faultOf (v := 1) hI (by simp [fltN, hs]) ?_)
    refine q_istore_n hK 2 dX8_drop_5 rfl (by decide) ?_
    refine q_iload_n hK 2 dX8_drop_6 rfl rfl ?_
    refine q_if_eq hK 16 dX8_drop_7 (by decide) (fun c7 => ?_) (fun c7 => ?_)
    · exact absurd c7 (by decide)
    refine q_aload_n hK 0 dX8_drop_10 rfl rfl ?_
    refine q_iload_n hK 2 dX8_drop_11 rfl rfl ?_
    refine q_cVi1 hK dX8_drop_12 lX8_67 (by decide) (by decide) rfl (Nat.le_of_ble_eq_true rfl) (b_refuse ?_)
    exact q_iret hR dX8_drop_15 rfl ⟨_, rfl, h _ _ _ _ _ (hI.st 1)⟩
  obtain ⟨ia, ha1, rfl, ha2⟩ := isIn_ex hs (by decide)
  simp only [sp_drop, hs, onS, rowS, ha2, if_true] at h
  by_cases oa : gOn σ ia = true
  rotate_left
  · have oa := Bool.eq_false_iff.mpr oa
    simp only [oa] at h
    refine q_aload_n hK 0 dX8_drop_0 rfl rfl ?_
    refine q_iload_n hK 1 dX8_drop_1 rfl rfl ?_
    refine q_cVi1 hK dX8_drop_2 lX8_92 (by decide) (by decide) rfl (Nat.le_of_ble_eq_true rfl) (b_faultOf (v := 2) hI (by simp [fltN, hs, onS, ha2, oa]) ?_)
    refine q_istore_n hK 2 dX8_drop_5 rfl (by decide) ?_
    refine q_iload_n hK 2 dX8_drop_6 rfl rfl ?_
    refine q_if_eq hK 16 dX8_drop_7 (by decide) (fun c7 => ?_) (fun c7 => ?_)
    · exact absurd c7 (by decide)
    refine q_aload_n hK 0 dX8_drop_10 rfl rfl ?_
    refine q_iload_n hK 2 dX8_drop_11 rfl rfl ?_
    refine q_cVi1 hK dX8_drop_12 lX8_67 (by decide) (by decide) rfl (Nat.le_of_ble_eq_true rfl) (b_refuse ?_)
    exact q_iret hR dX8_drop_15 rfl ⟨_, rfl, h _ _ _ _ _ (hI.st 2)⟩
  simp only [oa, if_true] at h
  have rA := hI.2.2.1 ia ha1 oa
  have bA := bR_sh ha1
  refine q_aload_n hK 0 dX8_drop_0 rfl rfl ?_
  refine q_iload_n hK 1 dX8_drop_1 rfl rfl ?_
  refine q_cVi1 hK dX8_drop_2 lX8_92 (by decide) (by decide) rfl (Nat.le_of_ble_eq_true rfl) (b_faultOf (v := 0) hI (by simp [fltN, hs, onS, ha2, oa]) ?_)
  refine q_istore_n hK 2 dX8_drop_5 rfl (by decide) ?_
  refine q_iload_n hK 2 dX8_drop_6 rfl rfl ?_
  refine q_if_eq hK 16 dX8_drop_7 (by decide) (fun c7 => ?_) (fun c7 => ?_)
  rotate_left
  · exact absurd rfl c7
  refine q_aload_n hK 0 dX8_drop_16 rfl rfl ?_
  refine q_getf hK dX8_drop_17 fX8_14 (by decide) rfl rfl ?_
  refine q_iload_n hK 1 dX8_drop_20 rfl rfl ?_
  refine q_iconst (v := nI 0) hK dX8_drop_21 (by decide) ?_
  refine qb_zast hK dX8_drop_22 rfl ha1 rfl ?_
  refine q_aload_n hK 0 dX8_drop_23 rfl rfl ?_
  refine q_cVi0 hK dX8_drop_24 lX8_96 (by decide) (by decide) rfl (Nat.le_of_ble_eq_true rfl) (b_accept ?_)
  obtain ⟨b1, b2, b3, b4, b5, b6, b7⟩ := hI
  have hi := nlZ_in (a := P 33 7)
  have ho : ∀ j, j ≠ 21 → va_up F 21 (upd (F 21) ia (nI 0)) j = F j := fun j hj => up_ne hj
  refine q_iret hR dX8_drop_27 rfl ⟨_, rfl, h _ _ _ _ _ ⟨up_same _ _ _, fun i hi => ?_, fun i hi ho2 => ?_, ?_, ?_, ?_, b7⟩⟩
  · rw [up_same]
    by_cases q : i = ia
    · rw [q, upd_same]
      simp [gOn, up_same, b2i]
      rfl
    · rw [upd_ne q, b2 i hi]
      simp [gOn, up_ne q]
  · by_cases q : i = ia
    · rw [q] at ho2
      simp [gOn, up_same] at ho2
    · rw [ho _ (by omega)]
      exact b3 i hi (by simpa [gOn, up_ne q] using ho2)
  · refine ⟨by rw [up_ne (by decide)]; exact b4.1, b4.2.1, fun i hi2 => ?_⟩
    rw [ho _ (by omega)]
    exact b4.2.2 i hi2
  · refine ⟨b5.1, by rw [up_ne (by omega)]; exact b5.2.1, fun h0 => ?_, b5.2.2.2⟩
    obtain ⟨s1, s2, s3, s4, s5, s6⟩ := b5.2.2.1 h0
    refine ⟨s1, s2, by rw [up_ne (by omega)]; exact s3, s4, fun i hi2 => ?_, ?_⟩
    · have hi2 : i < gN σ := hi2
      have := s2.rng (show i < 24 by omega)
      rw [ho _ (by omega)]
      exact s5 i hi2
    · rw [ho 34 (by omega)]; exact s6
  · rw [up_ne (by decide), ho 23 (by omega)]; exact b6
theorem B_exponent {σ : Sg} {s k : Int32} {Q : Int32 → Mem → Prop} (hI : BI Z P F σ) (h : ∀ Z' V' P' F' L', BI Z' P' F' (sp_exponent σ s k).2 → Q (sp_exponent σ s k).1 (BB X Z' V' P' F' L' g)) : CallI X 9 yX8_exponent [rf X 19, .int s, .int k] (BB X Z V P F L g) Q := by
  refine CallM_intro (own := RX8) [some (rf X 19), some (.int s), some (.int k), none] wX8_exponent (by decide) (by decide) rfl (Nat.le_of_ble_eq_true rfl) rfl (fun K hK hR => ?_)
  by_cases hs : isIn s 16 = true
  rotate_left
  · have hs := Bool.eq_false_iff.mpr hs
    simp only [sp_exponent, hs] at h
    refine q_aload_n hK 0 dX8_exponent_0 rfl rfl ?_
    refine q_iload_n hK 1 dX8_exponent_1 rfl rfl ?_
    refine q_cVi1 hK dX8_exponent_2 lX8_92 (by decide) (by decide) rfl (Nat.le_of_ble_eq_true rfl) (b_faultOf (v := 1) hI (by simp [fltN, hs]) ?_)
    refine q_istore_n hK 3 dX8_exponent_5 rfl (by decide) ?_
    refine q_iload_n hK 3 dX8_exponent_6 rfl rfl ?_
    refine q_if_eq hK 16 dX8_exponent_7 (by decide) (fun c7 => ?_) (fun c7 => ?_)
    · exact absurd c7 (by decide)
    refine q_aload_n hK 0 dX8_exponent_10 rfl rfl ?_
    refine q_iload_n hK 3 dX8_exponent_11 rfl rfl ?_
    refine q_cVi1 hK dX8_exponent_12 lX8_100 (by decide) (by decide) rfl (Nat.le_of_ble_eq_true rfl) (b_none ?_)
    exact q_iret hR dX8_exponent_15 rfl ⟨_, rfl, h _ _ _ _ _ (hI.st 1)⟩
  obtain ⟨ia, ha1, rfl, ha2⟩ := isIn_ex hs (by decide)
  simp only [sp_exponent, hs, onS, rowS, ha2, if_true] at h
  by_cases oa : gOn σ ia = true
  rotate_left
  · have oa := Bool.eq_false_iff.mpr oa
    simp only [oa] at h
    refine q_aload_n hK 0 dX8_exponent_0 rfl rfl ?_
    refine q_iload_n hK 1 dX8_exponent_1 rfl rfl ?_
    refine q_cVi1 hK dX8_exponent_2 lX8_92 (by decide) (by decide) rfl (Nat.le_of_ble_eq_true rfl) (b_faultOf (v := 2) hI (by simp [fltN, hs, onS, ha2, oa]) ?_)
    refine q_istore_n hK 3 dX8_exponent_5 rfl (by decide) ?_
    refine q_iload_n hK 3 dX8_exponent_6 rfl rfl ?_
    refine q_if_eq hK 16 dX8_exponent_7 (by decide) (fun c7 => ?_) (fun c7 => ?_)
    · exact absurd c7 (by decide)
    refine q_aload_n hK 0 dX8_exponent_10 rfl rfl ?_
    refine q_iload_n hK 3 dX8_exponent_11 rfl rfl ?_
    refine q_cVi1 hK dX8_exponent_12 lX8_100 (by decide) (by decide) rfl (Nat.le_of_ble_eq_true rfl) (b_none ?_)
    exact q_iret hR dX8_exponent_15 rfl ⟨_, rfl, h _ _ _ _ _ (hI.st 2)⟩
  simp only [oa, if_true] at h
  have rA := hI.2.2.1 ia ha1 oa
  have bA := bR_sh ha1
  refine q_aload_n hK 0 dX8_exponent_0 rfl rfl ?_
  refine q_iload_n hK 1 dX8_exponent_1 rfl rfl ?_
  refine q_cVi1 hK dX8_exponent_2 lX8_92 (by decide) (by decide) rfl (Nat.le_of_ble_eq_true rfl) (b_faultOf (v := 0) hI (by simp [fltN, hs, onS, ha2, oa]) ?_)
  refine q_istore_n hK 3 dX8_exponent_5 rfl (by decide) ?_
  refine q_iload_n hK 3 dX8_exponent_6 rfl rfl ?_
  refine q_if_eq hK 16 dX8_exponent_7 (by decide) (fun c7 => ?_) (fun c7 => ?_)
  rotate_left
  · exact absurd rfl c7
  refine q_iload_n hK 2 dX8_exponent_16 rfl rfl ?_
  refine q_cSi1 hK dX8_exponent_17 lX8_103 (by decide) (Nat.le_of_ble_eq_true rfl) (b_isPrimeNumber ?_)
  refine q_if_ne hK 29 dX8_exponent_20 (by decide) (fun c20 => ?_) (fun c20 => ?_)
  rotate_left
  · have hk := (b2i_eq0 _).mp c20
    simp only [hk] at h
    refine q_aload_n hK 0 dX8_exponent_23 rfl rfl ?_
    refine q_iconst (v := nI 3) hK dX8_exponent_24 (by decide) ?_
    refine q_cVi1 hK dX8_exponent_25 lX8_100 (by decide) (by decide) rfl (Nat.le_of_ble_eq_true rfl) (b_none ?_)
    exact q_iret hR dX8_exponent_28 rfl ⟨_, rfl, h _ _ _ _ _ (hI.st 3)⟩
  have hk := (b2i_ne0 _).mp c20
  obtain ⟨ik, hk1, rfl, hk2⟩ := isIn_ex hk (by decide)
  simp only [hk, hk2, if_true] at h
  refine q_aload_n hK 0 dX8_exponent_29 rfl rfl ?_
  refine q_aload_n hK 0 dX8_exponent_30 rfl rfl ?_
  refine q_getf hK dX8_exponent_31 fX8_11 (by decide) rfl rfl ?_
  refine q_iload_n hK 1 dX8_exponent_34 rfl rfl ?_
  refine qb_aald20 hK dX8_exponent_35 rfl ha1 ?_
  refine q_iload_n hK 2 dX8_exponent_36 rfl rfl ?_
  refine qb_ialdR hK dX8_exponent_37 bA rfl hk1 ?_
  rw [(rA ik hk1).1]
  refine q_cVi1 hK dX8_exponent_38 lX8_106 (by decide) (by decide) rfl (Nat.le_of_ble_eq_true rfl) (b_answer ?_)
  exact q_iret hR dX8_exponent_41 rfl ⟨_, rfl, h _ _ _ _ _ (hI.st 0)⟩
theorem B_show {σ : Sg} {s : Int32} {Q : Int32 → Mem → Prop} (hI : BI Z P F σ) (h : ∀ Z' V' P' F' L', BI Z' P' F' (sp_show σ s).2 → Q (sp_show σ s).1 (BB X Z' V' P' F' L' g)) : CallI X 9 yX8_show [rf X 19, .int s] (BB X Z V P F L g) Q := by
  refine CallM_intro (own := RX8) [some (rf X 19), some (.int s), none] wX8_show (by decide) (by decide) rfl (Nat.le_of_ble_eq_true rfl) rfl (fun K hK hR => ?_)
  by_cases hs : isIn s 16 = true
  rotate_left
  · have hs := Bool.eq_false_iff.mpr hs
    simp only [sp_show, hs] at h
    refine q_aload_n hK 0 dX8_show_0 rfl rfl ?_
    refine q_iload_n hK 1 dX8_show_1 rfl rfl ?_
    refine q_cVi1 hK dX8_show_2 lX8_92 (by decide) (by decide) rfl (Nat.le_of_ble_eq_true rfl) (b_faultOf (v := 1) hI (by simp [fltN, hs]) ?_)
    refine q_istore_n hK 2 dX8_show_5 rfl (by decide) ?_
    refine q_iload_n hK 2 dX8_show_6 rfl rfl ?_
    refine q_if_eq hK 16 dX8_show_7 (by decide) (fun c7 => ?_) (fun c7 => ?_)
    · exact absurd c7 (by decide)
    refine q_aload_n hK 0 dX8_show_10 rfl rfl ?_
    refine q_iload_n hK 2 dX8_show_11 rfl rfl ?_
    refine q_cVi1 hK dX8_show_12 lX8_100 (by decide) (by decide) rfl (Nat.le_of_ble_eq_true rfl) (b_none ?_)
    exact q_iret hR dX8_show_15 rfl ⟨_, rfl, h _ _ _ _ _ (hI.st 1)⟩
  obtain ⟨ia, ha1, rfl, ha2⟩ := isIn_ex hs (by decide)
  simp only [sp_show, hs, onS, rowS, ha2, if_true] at h
  by_cases oa : gOn σ ia = true
  rotate_left
  · have oa := Bool.eq_false_iff.mpr oa
    simp only [oa] at h
    refine q_aload_n hK 0 dX8_show_0 rfl rfl ?_
    refine q_iload_n hK 1 dX8_show_1 rfl rfl ?_
    refine q_cVi1 hK dX8_show_2 lX8_92 (by decide) (by decide) rfl (Nat.le_of_ble_eq_true rfl) (b_faultOf (v := 2) hI (by simp [fltN, hs, onS, ha2, oa]) ?_)
    refine q_istore_n hK 2 dX8_show_5 rfl (by decide) ?_
    refine q_iload_n hK 2 dX8_show_6 rfl rfl ?_
    refine q_if_eq hK 16 dX8_show_7 (by decide) (fun c7 => ?_) (fun c7 => ?_)
    · exact absurd c7 (by decide)
    refine q_aload_n hK 0 dX8_show_10 rfl rfl ?_
    refine q_iload_n hK 2 dX8_show_11 rfl rfl ?_
    refine q_cVi1 hK dX8_show_12 lX8_100 (by decide) (by decide) rfl (Nat.le_of_ble_eq_true rfl) (b_none ?_)
    exact q_iret hR dX8_show_15 rfl ⟨_, rfl, h _ _ _ _ _ (hI.st 2)⟩
  simp only [oa, if_true] at h
  have rA := hI.2.2.1 ia ha1 oa
  have bA := bR_sh ha1
  refine q_aload_n hK 0 dX8_show_0 rfl rfl ?_
  refine q_iload_n hK 1 dX8_show_1 rfl rfl ?_
  refine q_cVi1 hK dX8_show_2 lX8_92 (by decide) (by decide) rfl (Nat.le_of_ble_eq_true rfl) (b_faultOf (v := 0) hI (by simp [fltN, hs, onS, ha2, oa]) ?_)
  refine q_istore_n hK 2 dX8_show_5 rfl (by decide) ?_
  refine q_iload_n hK 2 dX8_show_6 rfl rfl ?_
  refine q_if_eq hK 16 dX8_show_7 (by decide) (fun c7 => ?_) (fun c7 => ?_)
  rotate_left
  · exact absurd rfl c7
  have l108 := P24 (fun k hk => (rA k hk).2)
  refine q_aload_n hK 0 dX8_show_16 rfl rfl ?_
  refine q_aload_n hK 0 dX8_show_17 rfl rfl ?_
  refine q_getf hK dX8_show_18 fX8_29 (by decide) rfl rfl ?_
  refine q_aload_n hK 0 dX8_show_21 rfl rfl ?_
  refine q_getf hK dX8_show_22 fX8_11 (by decide) rfl rfl ?_
  refine q_iload_n hK 1 dX8_show_25 rfl rfl ?_
  refine qb_aald20 hK dX8_show_26 rfl ha1 ?_
  refine q_aload_n hK 0 dX8_show_27 rfl rfl ?_
  refine q_getf hK dX8_show_28 fX8_22 (by decide) rfl rfl ?_
  refine q_cVi2 hK dX8_show_31 lX8_113 (by decide) (by decide) rfl (Nat.le_of_ble_eq_true rfl) (b_writeRatio bA rA (fun Z1 V1 F1 z1 z2 z3 => ?_))
  refine qb_put19_8 hK dX8_show_34 pX8_56 ?_
  refine q_aload_n hK 0 dX8_show_37 rfl rfl ?_
  refine q_aload_n hK 0 dX8_show_38 rfl rfl ?_
  refine q_getf hK dX8_show_39 fX8_56 (by decide) rfl rfl ?_
  rw [up_same]
  refine q_cVi1 hK dX8_show_42 lX8_106 (by decide) (by decide) rfl (Nat.le_of_ble_eq_true rfl) (b_answer ?_)
  have hI1 : BI Z1 P (va_up F1 23 (F 23)) σ := hI.sc (S := [26, 28]) z1 (fun j hj => by
    by_cases e : j = 23
    · rw [e, up_same]
    · rw [up_ne e]
      exact z2 j (by simp at hj ⊢; omega)) (by decide)
  obtain ⟨b1, b2, b3, b4, b5, b6, b7⟩ := hI1
  have hi := nlZ_in (a := P 33 7)
  have ho : ∀ j, j ≠ 23 → va_up F1 23 (F 23) j = F1 j := fun j hj => up_ne hj
  refine q_iret hR dX8_show_45 rfl ⟨_, rfl, h _ _ _ _ _ ⟨up_same _ _ _, ?_, fun i hi ho2 => ?_, ?_, ?_, ?_, b7⟩⟩
  · rw [← ho 21 (by decide)]; exact b2
  · rw [← ho _ (by omega)]; exact b3 i hi ho2
  · refine ⟨by rw [up_ne (by decide), up_ne (by decide)]; exact b4.1, b4.2.1, fun i hi2 => ?_⟩
    rw [← ho _ (by omega)]
    exact b4.2.2 i hi2
  · refine ⟨b5.1, by rw [up_ne (by omega), up_ne (by omega)]; exact b5.2.1, fun h0 => ?_, b5.2.2.2⟩
    obtain ⟨s1, s2, s3, s4, s5, s6⟩ := b5.2.2.1 h0
    refine ⟨s1, s2, by rw [up_ne (by omega), up_ne (by omega)]; exact s3, s4, fun i hi2 => ?_, ?_⟩
    · have hi2 : i < gN σ := hi2
      have := s2.rng (show i < 24 by omega)
      rw [← ho _ (by omega)]
      exact s5 i hi2
    · rw [← ho 34 (by omega)]; exact s6
  · refine ⟨by rw [up_ne (by decide), up_same], by show _ + _ + _ ≤ 256; omega, fun k hk => z3 k hk⟩
theorem B_out {σ : Sg} {k : Int32} {Q : Int32 → Mem → Prop} (hI : BI Z P F σ) (h : Q (sp_out σ k) (BB X Z V P F L g)) : CallI X 9 yX8_out [rf X 19, .int k] (BB X Z V P F L g) Q := by
  obtain ⟨o1, o2, o3⟩ := hI.2.2.2.2.2.1
  refine CallM_intro (own := RX8) [some (rf X 19), some (.int k)] wX8_out (by decide) (by decide) rfl (Nat.le_of_ble_eq_true rfl) rfl (fun K hK hR => ?_)
  have bad : isIn k (gOl σ) = false → K (BB X Z V P F L g) 21 [some (rf X 19), some (.int k)] [] := by
    intro hb
    simp only [sp_out, hb] at h
    refine q_iconst (v := jI (-1)) hK dX8_out_21 (by decide) ?_
    exact q_iret hR dX8_out_22 rfl ⟨_, rfl, h⟩
  refine q_iload_n hK 1 dX8_out_0 rfl rfl ?_
  refine q_if_lt hK 21 dX8_out_1 (by decide) (fun c1 => ?_) (fun c1 => ?_)
  · exact bad (by have := lt0_iff.mp c1; simp [isIn]; omega)
  refine q_iload_n hK 1 dX8_out_4 rfl rfl ?_
  refine q_aload_n hK 0 dX8_out_5 rfl rfl ?_
  refine q_getf hK dX8_out_6 fX8_56 (by decide) rfl rfl ?_
  rw [o1]
  refine q_icmp_ge hK 21 dX8_out_9 (by decide) (fun c9 => ?_) (fun c9 => ?_)
  · exact bad (by have := (nle_iff (by omega)).mp c9; simp [isIn]; omega)
  have hk : isIn k (gOl σ) = true := by
    have h1 := mt lt0_iff.mpr c1
    have h2 := mt (nle_iff (x := k) (n := gOl σ) (by omega)).mpr c9
    simp [isIn]
    omega
  obtain ⟨ik, hk1, rfl, hk2⟩ := isIn_ex hk (by omega)
  simp only [sp_out, hk, hk2, if_true] at h
  refine q_iload_n hK 1 dX8_out_12 rfl rfl ?_
  refine q_aload_n hK 0 dX8_out_13 rfl rfl ?_
  refine q_getf hK dX8_out_14 fX8_22 (by decide) rfl rfl ?_
  refine q_alen hK dX8_out_17 (t0 := 2) (v := nI 256) (by decide) rfl rfl rfl ?_
  refine q_icmp_lt hK 23 dX8_out_18 (by decide) (fun c18 => ?_) (fun c18 => ?_)
  rotate_left
  · exact absurd ((nI_ltI (by omega) (by decide)).mpr (by omega)) c18
  refine q_aload_n hK 0 dX8_out_23 rfl rfl ?_
  refine q_getf hK dX8_out_24 fX8_22 (by decide) rfl rfl ?_
  refine q_iload_n hK 1 dX8_out_27 rfl rfl ?_
  refine qb_bald hK dX8_out_28 rfl (by omega) ?_
  rw [o3 ik hk1]
  exact q_iret hR dX8_out_29 rfl ⟨_, rfl, h⟩
theorem B_map {σ : Sg} {d k : Int32} {Q : Int32 → Mem → Prop} (hI : BI Z P F σ) (h : ∀ Z' V' P' F' L', BI Z' P' F' (sp_map σ d k).2 → Q (sp_map σ d k).1 (BB X Z' V' P' F' L' g)) : CallI X 9 yX8_map [rf X 19, .int d, .int k] (BB X Z V P F L g) Q := by
  refine CallM_intro (own := RX8) [some (rf X 19), some (.int d), some (.int k)] wX8_map (by decide) (by decide) rfl (Nat.le_of_ble_eq_true rfl) rfl (fun K hK hR => ?_)
  have bad : (isDiv d && isIn k 6) = false → K (BB X Z V P F L g) 14 [some (rf X 19), some (.int d), some (.int k)] [] := by
    intro hb
    simp only [sp_map, hb] at h
    refine q_aload_n hK 0 dX8_map_14 rfl rfl ?_
    refine q_iconst (v := nI 3) hK dX8_map_15 (by decide) ?_
    refine q_cVi1 hK dX8_map_16 lX8_100 (by decide) (by decide) rfl (Nat.le_of_ble_eq_true rfl) (b_none ?_)
    exact q_iret hR dX8_map_19 rfl ⟨_, rfl, h _ _ _ _ _ (hI.st 3)⟩
  refine q_iload_n hK 1 dX8_map_0 rfl rfl ?_
  refine q_cSi1 hK dX8_map_1 lX8_117 (by decide) (Nat.le_of_ble_eq_true rfl) (b_isDivision ?_)
  refine q_if_eq hK 14 dX8_map_4 (by decide) (fun c4 => ?_) (fun c4 => ?_)
  · exact bad (by simp [(b2i_eq0 _).mp c4])
  have hd := (b2i_ne0 _).mp c4
  refine q_iload_n hK 2 dX8_map_7 rfl rfl ?_
  refine q_cSi1 hK dX8_map_8 lX8_103 (by decide) (Nat.le_of_ble_eq_true rfl) (b_isPrimeNumber ?_)
  refine q_if_ne hK 20 dX8_map_11 (by decide) (fun c11 => ?_) (fun c11 => ?_)
  rotate_left
  · exact bad (by simp [(b2i_eq0 _).mp c11])
  have hk := (b2i_ne0 _).mp c11
  clear bad
  obtain ⟨n0, hn1, hn2, rfl, hn3⟩ := isDiv_ex hd
  obtain ⟨ik, hk1, rfl, hk2⟩ := isIn_ex hk (by decide)
  simp only [sp_map, hd, hk, hn3, hk2, Bool.and_self, if_true] at h
  refine q_aload_n hK 0 dX8_map_20 rfl rfl ?_
  refine q_iload_n hK 1 dX8_map_21 rfl rfl ?_
  refine q_iload_n hK 2 dX8_map_22 rfl rfl ?_
  refine q_cSi2 hK dX8_map_23 lX8_122 (by decide) (Nat.le_of_ble_eq_true rfl) (b_nearest hn2 hk1 ?_)
  refine q_cVi1 hK dX8_map_26 lX8_106 (by decide) (by decide) rfl (Nat.le_of_ble_eq_true rfl) (b_answer ?_)
  exact q_iret hR dX8_map_29 rfl ⟨_, rfl, h _ _ _ _ _ (hI.st 0)⟩
theorem B_steps {σ : Sg} {s d : Int32} {Q : Int32 → Mem → Prop} (hI : BI Z P F σ) (h : ∀ Z' V' P' F' L', BI Z' P' F' (sp_steps σ s d).2 → Q (sp_steps σ s d).1 (BB X Z' V' P' F' L' g)) : CallI X 9 yX8_steps [rf X 19, .int s, .int d] (BB X Z V P F L g) Q := by
  refine CallM_intro (own := RX8) [some (rf X 19), some (.int s), some (.int d), none] wX8_steps (by decide) (by decide) rfl (Nat.le_of_ble_eq_true rfl) rfl (fun K hK hR => ?_)
  by_cases hs : isIn s 16 = true
  rotate_left
  · have hs := Bool.eq_false_iff.mpr hs
    simp only [sp_steps, hs] at h
    refine q_aload_n hK 0 dX8_steps_0 rfl rfl ?_
    refine q_iload_n hK 1 dX8_steps_1 rfl rfl ?_
    refine q_cVi1 hK dX8_steps_2 lX8_92 (by decide) (by decide) rfl (Nat.le_of_ble_eq_true rfl) (b_faultOf (v := 1) hI (by simp [fltN, hs]) ?_)
    refine q_istore_n hK 3 dX8_steps_5 rfl (by decide) ?_
    refine q_iload_n hK 3 dX8_steps_6 rfl rfl ?_
    refine q_if_eq hK 16 dX8_steps_7 (by decide) (fun c7 => ?_) (fun c7 => ?_)
    · exact absurd c7 (by decide)
    refine q_aload_n hK 0 dX8_steps_10 rfl rfl ?_
    refine q_iload_n hK 3 dX8_steps_11 rfl rfl ?_
    refine q_cVi1 hK dX8_steps_12 lX8_100 (by decide) (by decide) rfl (Nat.le_of_ble_eq_true rfl) (b_none ?_)
    exact q_iret hR dX8_steps_15 rfl ⟨_, rfl, h _ _ _ _ _ (hI.st 1)⟩
  obtain ⟨ia, ha1, rfl, ha2⟩ := isIn_ex hs (by decide)
  simp only [sp_steps, hs, onS, rowS, ha2, if_true] at h
  by_cases oa : gOn σ ia = true
  rotate_left
  · have oa := Bool.eq_false_iff.mpr oa
    simp only [oa] at h
    refine q_aload_n hK 0 dX8_steps_0 rfl rfl ?_
    refine q_iload_n hK 1 dX8_steps_1 rfl rfl ?_
    refine q_cVi1 hK dX8_steps_2 lX8_92 (by decide) (by decide) rfl (Nat.le_of_ble_eq_true rfl) (b_faultOf (v := 2) hI (by simp [fltN, hs, onS, ha2, oa]) ?_)
    refine q_istore_n hK 3 dX8_steps_5 rfl (by decide) ?_
    refine q_iload_n hK 3 dX8_steps_6 rfl rfl ?_
    refine q_if_eq hK 16 dX8_steps_7 (by decide) (fun c7 => ?_) (fun c7 => ?_)
    · exact absurd c7 (by decide)
    refine q_aload_n hK 0 dX8_steps_10 rfl rfl ?_
    refine q_iload_n hK 3 dX8_steps_11 rfl rfl ?_
    refine q_cVi1 hK dX8_steps_12 lX8_100 (by decide) (by decide) rfl (Nat.le_of_ble_eq_true rfl) (b_none ?_)
    exact q_iret hR dX8_steps_15 rfl ⟨_, rfl, h _ _ _ _ _ (hI.st 2)⟩
  simp only [oa, if_true] at h
  have rA := hI.2.2.1 ia ha1 oa
  have bA := bR_sh ha1
  refine q_aload_n hK 0 dX8_steps_0 rfl rfl ?_
  refine q_iload_n hK 1 dX8_steps_1 rfl rfl ?_
  refine q_cVi1 hK dX8_steps_2 lX8_92 (by decide) (by decide) rfl (Nat.le_of_ble_eq_true rfl) (b_faultOf (v := 0) hI (by simp [fltN, hs, onS, ha2, oa]) ?_)
  refine q_istore_n hK 3 dX8_steps_5 rfl (by decide) ?_
  refine q_iload_n hK 3 dX8_steps_6 rfl rfl ?_
  refine q_if_eq hK 16 dX8_steps_7 (by decide) (fun c7 => ?_) (fun c7 => ?_)
  rotate_left
  · exact absurd rfl c7
  refine q_iload_n hK 2 dX8_steps_16 rfl rfl ?_
  refine q_cSi1 hK dX8_steps_17 lX8_117 (by decide) (Nat.le_of_ble_eq_true rfl) (b_isDivision ?_)
  refine q_if_ne hK 29 dX8_steps_20 (by decide) (fun c20 => ?_) (fun c20 => ?_)
  rotate_left
  · have hd := (b2i_eq0 _).mp c20
    simp only [hd] at h
    refine q_aload_n hK 0 dX8_steps_23 rfl rfl ?_
    refine q_iconst (v := nI 3) hK dX8_steps_24 (by decide) ?_
    refine q_cVi1 hK dX8_steps_25 lX8_100 (by decide) (by decide) rfl (Nat.le_of_ble_eq_true rfl) (b_none ?_)
    exact q_iret hR dX8_steps_28 rfl ⟨_, rfl, h _ _ _ _ _ (hI.st 3)⟩
  have hd := (b2i_ne0 _).mp c20
  obtain ⟨n0, hn1, hn2, rfl, hn3⟩ := isDiv_ex hd
  simp only [hd, hn3, if_true] at h
  refine q_aload_n hK 0 dX8_steps_29 rfl rfl ?_
  refine q_aload_n hK 0 dX8_steps_30 rfl rfl ?_
  refine q_getf hK dX8_steps_31 fX8_11 (by decide) rfl rfl ?_
  refine q_iload_n hK 1 dX8_steps_34 rfl rfl ?_
  refine qb_aald20 hK dX8_steps_35 rfl ha1 ?_
  refine q_iload_n hK 2 dX8_steps_36 rfl rfl ?_
  refine q_cSi2 hK dX8_steps_37 lX8_126 (by decide) (Nat.le_of_ble_eq_true rfl) (b_stepsOf (e := gRow σ ia) bA (fun k hk => ⟨(rA k hk).1, by have := (rA k hk).2; omega, by have := (rA k hk).2; omega⟩) hn2 ?_)
  refine q_cVi1 hK dX8_steps_40 lX8_106 (by decide) (by decide) rfl (Nat.le_of_ble_eq_true rfl) (b_answer ?_)
  exact q_iret hR dX8_steps_43 rfl ⟨_, rfl, h _ _ _ _ _ (hI.st 0)⟩
end BW
