section M15
variable {X : Cx} {Z : Nat → Int32} {F : Nat → Nat → Int32} {L : Nat → Int64} {g : Mem}
theorem layS_mono {p b : Vec} {m t : Nat} (h : layS p b m = none) : layS p b (m + t) = none := by
  induction t with
  | zero => exact h
  | succ t ih =>
    show (match layS p b (m + t) with | none => none | some s => _) = none
    rw [ih]
theorem M_lay {σ : Sg} {p b m : Int32} {Q : Int32 → Mem → Prop} (hI : MI Z F σ) (h : ∀ Z' F' L', MI Z' F' (sp_lay σ p b m).2 → Q (sp_lay σ p b m).1 (MM X Z' F' L' g)) : CallI X 9 yX9_lay [rf X 0, .int p, .int b, .int m] (MM X Z F L g) Q := by
  refine CallM_intro (own := RX9) [some (rf X 0), some (.int p), some (.int b), some (.int m), none, none, none, none] wX9_lay (by decide) (by decide) rfl (Nat.le_of_ble_eq_true rfl) rfl (fun K hK hR => ?_)
  have bad1 : (isIn p 16 && isIn b 16) = false → K (MM X Z F L g) 14 [some (rf X 0), some (.int p), some (.int b), some (.int m), none, none, none, none] [] := by
    intro hb
    simp only [sp_lay, hb] at h
    refine q_aload_n hK 0 dX9_lay_14 rfl rfl ?_
    refine q_iconst (v := nI 1) hK dX9_lay_15 (by decide) ?_
    refine q_cVi1 hK dX9_lay_16 lX9_104 (by decide) (by decide) rfl (Nat.le_of_ble_eq_true rfl) (m_ref (by decide) (by decide) ?_)
    exact q_iret hR dX9_lay_19 rfl ⟨_, rfl, h _ _ _ (hI.st 1)⟩
  refine q_iload_n hK 1 dX9_lay_0 rfl rfl ?_
  refine q_cSi1 hK dX9_lay_1 lX9_111 (by decide) (Nat.le_of_ble_eq_true rfl) (m_isShelf ?_)
  refine q_if_eq hK 14 dX9_lay_4 (by decide) (fun c4 => ?_) (fun c4 => ?_)
  · exact bad1 (by simp [(b2i_eq0 _).mp c4])
  have ha := (b2i_ne0 _).mp c4
  refine q_iload_n hK 2 dX9_lay_7 rfl rfl ?_
  refine q_cSi1 hK dX9_lay_8 lX9_111 (by decide) (Nat.le_of_ble_eq_true rfl) (m_isShelf ?_)
  refine q_if_ne hK 20 dX9_lay_11 (by decide) (fun c11 => ?_) (fun c11 => ?_)
  rotate_left
  · exact bad1 (by simp [(b2i_eq0 _).mp c11])
  have hb := (b2i_ne0 _).mp c11
  clear bad1
  obtain ⟨ia, ha1, rfl, ha2⟩ := isIn_ex ha (by decide)
  obtain ⟨ib, hb1, rfl, hb2⟩ := isIn_ex hb (by decide)
  simp only [sp_lay, ha, hb, onS, rowS, ha2, hb2, Bool.and_self, if_true] at h
  have bad2 : (gOn σ ia && gOn σ ib) = false → K (MM X Z F L g) 38 [some (rf X 0), some (.int (nI ia)), some (.int (nI ib)), some (.int m), none, none, none, none] [] := by
    intro hb
    simp only [hb] at h
    refine q_aload_n hK 0 dX9_lay_38 rfl rfl ?_
    refine q_iconst (v := nI 2) hK dX9_lay_39 (by decide) ?_
    refine q_cVi1 hK dX9_lay_40 lX9_104 (by decide) (by decide) rfl (Nat.le_of_ble_eq_true rfl) (m_ref (by decide) (by decide) ?_)
    exact q_iret hR dX9_lay_43 rfl ⟨_, rfl, h _ _ _ (hI.st 2)⟩
  refine q_aload_n hK 0 dX9_lay_20 rfl rfl ?_
  refine q_getf hK dX9_lay_21 fX9_13 (by decide) rfl rfl ?_
  refine q_iload_n hK 1 dX9_lay_24 rfl rfl ?_
  refine qm_zald hK dX9_lay_25 rfl ha1 ?_
  rw [hI.2.1 ia ha1]
  refine q_if_eq hK 38 dX9_lay_26 (by decide) (fun c26 => ?_) (fun c26 => ?_)
  · exact bad2 (by simp [(b2i_eq0 _).mp c26])
  have oa := (b2i_ne0 _).mp c26
  refine q_aload_n hK 0 dX9_lay_29 rfl rfl ?_
  refine q_getf hK dX9_lay_30 fX9_13 (by decide) rfl rfl ?_
  refine q_iload_n hK 2 dX9_lay_33 rfl rfl ?_
  refine qm_zald hK dX9_lay_34 rfl hb1 ?_
  rw [hI.2.1 ib hb1]
  refine q_if_ne hK 44 dX9_lay_35 (by decide) (fun c35 => ?_) (fun c35 => ?_)
  rotate_left
  · exact bad2 (by simp [(b2i_eq0 _).mp c35])
  have ob := (b2i_ne0 _).mp c35
  clear bad2
  simp only [oa, ob, Bool.and_self, if_true] at h
  have rA := hI.2.2.1 ia ha1 oa
  have rB := hI.2.2.1 ib hb1 ob
  have bad3 : (decide (1 ≤ m.toInt) && decide (m.toInt ≤ 24)) = false → K (MM X Z F L g) 55 [some (rf X 0), some (.int (nI ia)), some (.int (nI ib)), some (.int m), none, none, none, none] [] := by
    intro hb
    simp only [hb] at h
    refine q_aload_n hK 0 dX9_lay_55 rfl rfl ?_
    refine q_iconst (v := nI 3) hK dX9_lay_56 (by decide) ?_
    refine q_cVi1 hK dX9_lay_57 lX9_104 (by decide) (by decide) rfl (Nat.le_of_ble_eq_true rfl) (m_ref (by decide) (by decide) ?_)
    exact q_iret hR dX9_lay_60 rfl ⟨_, rfl, h _ _ _ (hI.st 3)⟩
  refine q_iload_n hK 3 dX9_lay_44 rfl rfl ?_
  refine q_iconst (v := nI 1) hK dX9_lay_45 (by decide) ?_
  refine q_icmp_lt hK 55 dX9_lay_46 (by decide) (fun c46 => ?_) (fun c46 => ?_)
  · exact bad3 (by have := Int32.lt_iff_toInt_lt.mp c46; rw [nI_toInt (by decide)] at this; simp; omega)
  refine q_iload_n hK 3 dX9_lay_49 rfl rfl ?_
  refine q_bipush (v := nI 24) hK dX9_lay_50 (by decide) ?_
  refine q_icmp_le hK 61 dX9_lay_52 (by decide) (fun c52 => ?_) (fun c52 => ?_)
  rotate_left
  · exact bad3 (by have := mt (Int32.le_iff_toInt_le (x := m) (y := nI 24)).mpr c52; rw [nI_toInt (by omega)] at this; simp; omega)
  have hk : (decide (1 ≤ m.toInt) && decide (m.toInt ≤ 24)) = true := by
    have h1 := mt (Int32.lt_iff_toInt_lt (x := m) (y := nI 1)).mpr c46
    have h2 := Int32.le_iff_toInt_le.mp c52
    rw [nI_toInt (by decide)] at h1
    rw [nI_toInt (by decide)] at h2
    simp
    omega
  clear bad3
  obtain ⟨im, hm1, hm2, rfl, hm3⟩ := rng_ex (n := 24) hk (by decide)
  simp only [hk, hm3, if_true] at h
  refine q_aload_n hK 0 dX9_lay_61 rfl rfl ?_
  refine q_iload_n hK 1 dX9_lay_62 rfl rfl ?_
  refine q_cVi1 hK dX9_lay_63 lX9_126 (by decide) (by decide) rfl (Nat.le_of_ble_eq_true rfl) (m_isPeriod ha1 rA (fun Z1 F1 y1 y2 => ?_))
  have hI1 := hI.scr (sc56 y1) (sc345 y2)
  refine q_if_ne hK 75 dX9_lay_66 (by decide) (fun c66 => ?_) (fun c66 => ?_)
  rotate_left
  · have q2 : ¬ 0 < sgn (gRow σ ia) := by simpa using (b2i_eq0 _).mp c66
    simp only [q2, if_false] at h
    refine q_aload_n hK 0 dX9_lay_69 rfl rfl ?_
    refine q_iconst (v := nI 5) hK dX9_lay_70 (by decide) ?_
    refine q_cVi1 hK dX9_lay_71 lX9_104 (by decide) (by decide) rfl (Nat.le_of_ble_eq_true rfl) (m_ref (by decide) (by decide) ?_)
    exact q_iret hR dX9_lay_74 rfl ⟨_, rfl, h _ _ _ (hI1.st 5)⟩
  have q2 : 0 < sgn (gRow σ ia) := by simpa using (b2i_ne0 _).mp c66
  simp only [q2, if_true] at h
  generalize hres : layS (gRow σ ia) (gRow σ ib) (im - 1) = res at h
  have e1 : F1 1 = F 1 := y2 1 (by decide)
  clear hI
  -- the rows laid so far
  have main : ∀ t i Z' F' s w7, i + t = im → 1 ≤ i → eqo scZ Z1 Z' → eqo scF F1 F' → layS (gRow σ ia) (gRow σ ib) (i - 1) = some s → hasR (F' 13) s.1 s.2.1 24 → K (MM X Z' F' L g) 108 [some (rf X 0), some (.int (nI ia)), some (.int (nI ib)), some (.int (nI im)), some (.int (b2i s.2.2)), some (.int (nI s.1)), some (.int (nI i)), w7] [] := by
    intro t
    induction t with
    | zero =>
      intro i Z' F' s w7 hi hi1 z1 z2 hs hR13
      have him : i = im := by omega
      subst him
      rw [hs] at hres
      subst hres
      have hM := hI1.scr z1 z2
      obtain ⟨l1, l2, l3, l4, l5⟩ := layS_ok q2 hs
      refine q_iload hK dX9_lay_108 rfl ?_
      refine q_iload_n hK 3 dX9_lay_110 rfl rfl ?_
      refine q_icmp_ge hK 225 dX9_lay_111 (by decide) (fun c111 => ?_) (fun c111 => ?_)
      rotate_left
      · exact absurd ((nI_leI (by omega) (by omega)).mpr (by omega)) c111
      refine q_iload hK dX9_lay_225 rfl ?_
      refine q_if_eq hK 237 dX9_lay_227 (by decide) (fun c227 => ?_) (fun c227 => ?_)
      rotate_left
      · have htw := (b2i_ne0 _).mp c227
        simp only [htw, if_true] at h
        refine q_aload_n hK 0 dX9_lay_230 rfl rfl ?_
        refine q_bipush (v := nI 8) hK dX9_lay_231 (by decide) ?_
        refine q_cVi1 hK dX9_lay_233 lX9_104 (by decide) (by decide) rfl (Nat.le_of_ble_eq_true rfl) (m_ref (by decide) (by decide) ?_)
        exact q_iret hR dX9_lay_236 rfl ⟨_, rfl, h _ _ _ (hM.st 8)⟩
      have htw := (b2i_eq0 _).mp c227
      simp only [htw] at h
      refine q_iconst (v := nI 0) hK dX9_lay_237 (by decide) ?_
      refine q_istore hK dX9_lay_238 (by decide) ?_
      have e1' : F' 1 = F 1 := by rw [z2 1 (by decide)]; exact e1
      have cp2 : ∀ t j f, j + t = 6 → (∀ a, a < 6 * s.1 → f a = F' 13 a) → (∀ k, k < j → f (6 * s.1 + k) = jI (gRow σ ia k)) → K (MM X Z' (va_up F' 12 f) L g) 273 [some (rf X 0), some (.int (nI ia)), some (.int (nI ib)), some (.int (nI i)), some (.int (b2i s.2.2)), some (.int (nI s.1)), some (.int (nI j)), w7] [] := by
        intro t
        induction t with
        | zero =>
          intro j f hj p1 p2
          refine q_iload hK dX9_lay_273 rfl ?_
          refine q_bipush (v := nI 6) hK dX9_lay_275 (by decide) ?_
          refine q_icmp_ge hK 311 dX9_lay_277 (by decide) (fun c277 => ?_) (fun c277 => ?_)
          rotate_left
          · exact absurd ((nI_leI (by decide) (by omega)).mpr (by omega)) c277
          refine q_aload_n hK 0 dX9_lay_311 rfl rfl ?_
          refine q_iload hK dX9_lay_312 rfl ?_
          refine qm_put18 hK dX9_lay_314 pX9_182 ?_
          refine q_aload_n hK 0 dX9_lay_317 rfl rfl ?_
          refine q_iconst (v := nI 0) hK dX9_lay_318 (by decide) ?_
          refine q_cVi1 hK dX9_lay_319 lX9_104 (by decide) (by decide) rfl (Nat.le_of_ble_eq_true rfl) (m_acc ?_)
          obtain ⟨a1, a2, a3, a4, a5, a6, a7⟩ := hM
          refine q_iret hR dX9_lay_322 rfl ⟨_, rfl, h _ _ _ ⟨up_same _ _ _, ?_, ?_, ?_, ⟨?_, by show s.1 ≤ 24; omega, fun _ a ha k hk => ?_, l1⟩, ?_, ?_⟩⟩
          · rw [up_ne (by decide)]; exact a2
          · rw [up_ne (by decide)]; exact a3
          · rw [up_ne (by decide), up_ne (by decide), up_ne (by decide)]; exact a4
          · rw [up_ne (by decide), up_same]; rfl
          · have ha' : a ≤ s.1 := ha
            rw [up_same]
            show _ = jI (s.2.1 a k) ∧ -(24 : Int) ≤ s.2.1 a k ∧ s.2.1 a k ≤ 24
            by_cases e : a < s.1
            · rw [p1 _ (by omega)]
              exact hR13 a e k hk
            · have ea : a = s.1 := by omega
              rw [ea, l4, p2 k (by omega)]
              exact ⟨rfl, (rA k hk).2⟩
          · rw [up_ne (by decide), up_ne (by decide), up_ne (by decide)]; exact a6
          · rw [up_ne (by decide)]; exact a7
        | succ t iht =>
          intro j f hj p1 p2
          refine q_iload hK dX9_lay_273 rfl ?_
          refine q_bipush (v := nI 6) hK dX9_lay_275 (by decide) ?_
          refine q_icmp_ge hK 311 dX9_lay_277 (by decide) (fun c277 => ?_) (fun c277 => ?_)
          · have := (nI_leI (by decide) (by omega)).mp c277
            omega
          refine q_aload_n hK 0 dX9_lay_280 rfl rfl ?_
          refine q_getf hK dX9_lay_281 fX9_45 (by decide) rfl rfl ?_
          refine q_bipush (v := nI 6) hK dX9_lay_284 (by decide) ?_
          refine q_iload hK dX9_lay_286 rfl ?_
          refine q_imul hK dX9_lay_288 ?_
          refine q_iload hK dX9_lay_289 rfl ?_
          refine q_iadd hK dX9_lay_291 ?_
          refine q_aload_n hK 0 dX9_lay_292 rfl rfl ?_
          refine q_getf hK dX9_lay_293 fX9_7 (by decide) rfl rfl ?_
          refine q_bipush (v := nI 6) hK dX9_lay_296 (by decide) ?_
          refine q_iload_n hK 1 dX9_lay_298 rfl rfl ?_
          refine q_imul hK dX9_lay_299 ?_
          refine q_iload hK dX9_lay_300 rfl ?_
          refine q_iadd hK dX9_lay_302 ?_
          refine qm_iald hK dX9_lay_303 (n := 1) (k := 6 * ia + j) rfl (by rw [pk_mul, nI_add]) (by show _ < 96; omega) ?_
          refine qm_iast hK dX9_lay_304 (n := 12) (k := 6 * s.1 + j) rfl (by rw [pk_mul, nI_add]) (by show _ < 150; omega) ?_
          refine q_inc1 hK dX9_lay_305 rfl (by decide) ?_
          refine q_goto hK 273 dX9_lay_308 (by decide) ?_
          rw [up_up, up_same, up_ne (by decide : (1 : Nat) ≠ 12), e1', (rA j (by omega)).1]
          refine iht (j + 1) _ (by omega) (fun a ha => ?_) (fun k hk => ?_)
          · rw [upd_ne (by omega)]; exact p1 a ha
          · by_cases e : k = j
            · rw [e, upd_same]
            · rw [upd_ne (by omega)]; exact p2 k (by omega)
      have cp : ∀ t j f, j + t = 6 * s.1 → (∀ a, a < j → f a = F' 13 a) → K (MM X Z' (va_up F' 12 f) L g) 240 [some (rf X 0), some (.int (nI ia)), some (.int (nI ib)), some (.int (nI i)), some (.int (b2i s.2.2)), some (.int (nI s.1)), some (.int (nI j)), w7] [] := by
        intro t
        induction t with
        | zero =>
          intro j f hj p1
          refine q_iload hK dX9_lay_240 rfl ?_
          refine q_bipush (v := nI 6) hK dX9_lay_242 (by decide) ?_
          refine q_iload hK dX9_lay_244 rfl ?_
          refine q_imul hK dX9_lay_246 ?_
          rw [show nI 6 * nI s.1 = nI (6 * s.1) from pk_mul 6 _]
          refine q_icmp_ge hK 270 dX9_lay_247 (by decide) (fun c247 => ?_) (fun c247 => ?_)
          rotate_left
          · exact absurd ((nI_leI (by omega) (by omega)).mpr (by omega)) c247
          refine q_iconst (v := nI 0) hK dX9_lay_270 (by decide) ?_
          refine q_istore hK dX9_lay_271 (by decide) ?_
          exact cp2 6 0 f rfl (fun a ha => p1 a (by omega)) (fun k hk => by omega)
        | succ t iht =>
          intro j f hj p1
          refine q_iload hK dX9_lay_240 rfl ?_
          refine q_bipush (v := nI 6) hK dX9_lay_242 (by decide) ?_
          refine q_iload hK dX9_lay_244 rfl ?_
          refine q_imul hK dX9_lay_246 ?_
          rw [show nI 6 * nI s.1 = nI (6 * s.1) from pk_mul 6 _]
          refine q_icmp_ge hK 270 dX9_lay_247 (by decide) (fun c247 => ?_) (fun c247 => ?_)
          · have := (nI_leI (by omega) (by omega)).mp c247
            omega
          refine q_aload_n hK 0 dX9_lay_250 rfl rfl ?_
          refine q_getf hK dX9_lay_251 fX9_45 (by decide) rfl rfl ?_
          refine q_iload hK dX9_lay_254 rfl ?_
          refine q_aload_n hK 0 dX9_lay_256 rfl rfl ?_
          refine q_getf hK dX9_lay_257 fX9_48 (by decide) rfl rfl ?_
          refine q_iload hK dX9_lay_260 rfl ?_
          refine qm_iald hK dX9_lay_262 (n := 13) (k := j) rfl rfl (by show j < 150; omega) ?_
          refine qm_iast hK dX9_lay_263 (n := 12) (k := j) rfl rfl (by show j < 150; omega) ?_
          refine q_inc1 hK dX9_lay_264 rfl (by decide) ?_
          refine q_goto hK 240 dX9_lay_267 (by decide) ?_
          rw [up_up, up_same, up_ne (by decide : (13 : Nat) ≠ 12)]
          refine iht (j + 1) _ (by omega) (fun a ha => ?_)
          by_cases e : a = j
          · rw [e, upd_same]
          · rw [upd_ne e]; exact p1 a (by omega)
      have := cp (6 * s.1) 0 (F' 12) (by omega) (fun a ha => by omega)
      rw [up_id] at this
      exact this
    | succ t ih =>
      intro i Z' F' s w7 hi hi1 z1 z2 hs hR13
      obtain ⟨l1, l2, l3, l4, l5⟩ := layS_ok q2 hs
      have e1' : F' 1 = F 1 := by rw [z2 1 (by decide)]; exact e1
      refine q_iload hK dX9_lay_108 rfl ?_
      refine q_iload_n hK 3 dX9_lay_110 rfl rfl ?_
      refine q_icmp_ge hK 225 dX9_lay_111 (by decide) (fun c111 => ?_) (fun c111 => ?_)
      · have := (nI_leI (by omega) (by omega)).mp c111
        omega
      refine q_aload_n hK 0 dX9_lay_114 rfl rfl ?_
      refine q_aload_n hK 0 dX9_lay_115 rfl rfl ?_
      refine q_getf hK dX9_lay_116 fX9_29 (by decide) rfl rfl ?_
      refine q_aload_n hK 0 dX9_lay_119 rfl rfl ?_
      refine q_getf hK dX9_lay_120 fX9_7 (by decide) rfl rfl ?_
      refine q_bipush (v := nI 6) hK dX9_lay_123 (by decide) ?_
      refine q_iload_n hK 1 dX9_lay_125 rfl rfl ?_
      refine q_imul hK dX9_lay_126 ?_
      rw [show nI 6 * nI ia = nI (6 * ia) from pk_mul 6 ia]
      refine q_cVv3 hK dX9_lay_127 lX9_129 (by decide) (by decide) rfl (Nat.le_of_ble_eq_true rfl) (m_set6 (n := 7) (n2 := 1) (a := 6 * ia) rfl rfl rfl (by decide) (by show 6 * ia + 6 ≤ 96; omega) (fun f7 h7 => ?_))
      refine q_iconst (v := nI 0) hK dX9_lay_130 (by decide) ?_
      refine q_istore hK dX9_lay_131 (by decide) ?_
      have hstep : layS (gRow σ ia) (gRow σ ib) i = (match foldv (fun k => (i : Int) * gRow σ ib k) (gRow σ ia) with | none => none | some r => if plcv s.2.1 r s.1 < 0 then some (s.1, s.2.1, true) else some (s.1 + 1, insR s.2.1 (plcv s.2.1 r s.1).toNat r, s.2.2)) := by
        obtain ⟨i', rfl⟩ : ∃ i', i = i' + 1 := ⟨i - 1, by omega⟩
        rw [Nat.add_sub_cancel] at hs
        rw [layS, hs]
        rfl
      have wl : ∀ t j f, j + t = 6 → (∀ k, k < j → f k = jI ((i : Int) * gRow σ ib k)) → K (MM X Z' (va_up (va_up F' 7 f7) 6 f) L g) 133 [some (rf X 0), some (.int (nI ia)), some (.int (nI ib)), some (.int (nI im)), some (.int (b2i s.2.2)), some (.int (nI s.1)), some (.int (nI i)), some (.int (nI j))] [] := by
        intro u
        induction u with
        | zero =>
          intro j f hj hf
          refine q_iload hK dX9_lay_133 rfl ?_
          refine q_bipush (v := nI 6) hK dX9_lay_135 (by decide) ?_
          refine q_icmp_ge hK 168 dX9_lay_137 (by decide) (fun c137 => ?_) (fun c137 => ?_)
          rotate_left
          · exact absurd ((nI_leI (by decide) (by omega)).mpr (by omega)) c137
          refine q_aload_n hK 0 dX9_lay_168 rfl rfl ?_
          refine q_cVi0 hK dX9_lay_169 lX9_133 (by decide) (by decide) rfl (Nat.le_of_ble_eq_true rfl) (m_folds (a := fun k => (i : Int) * gRow σ ib k) (p := gRow σ ia) ?_ ?_ q2 (fun Z2 F2 x1 x2 => ⟨fun r hr hr5 => ?_, fun hr => ?_⟩))
          · intro k hk
            have b1 := rB k hk
            have b2 := mul_bd (x := (i : Int)) (y := gRow σ ib k) (s := 24) (t := 24) (by omega) (by omega) (by omega) (by omega)
            rw [up_same, hf k (by omega)]
            exact ⟨rfl, by dsimp only; omega, by dsimp only; omega⟩
          · intro k hk
            have := rA k hk
            rw [up_ne (by decide), up_same, h7 k hk, e1']
            exact ⟨this.1, by omega, by omega⟩
          · have w1 : eqo scZ Z1 Z2 := z1.tr (sc56 x1)
            have w2 : eqo scF F1 F2 := ((z2.up (k := 7) (v := f7) (by decide)).up (k := 6) (v := f) (by decide)).tr (sc345 x2)
            have e13 : F2 13 = F' 13 := by rw [x2 13 (by decide), up_ne (by decide), up_ne (by decide)]
            have hn := farV_false.mp (foldv_near q2 hr)
            simp only [hr] at hstep
            refine q_if_ne hK 181 dX9_lay_172 (by decide) (fun c172 => ?_) (fun c172 => ?_)
            rotate_left
            · exact absurd c172 (by decide)
            refine q_aload_n hK 0 dX9_lay_181 rfl rfl ?_
            refine q_aload_n hK 0 dX9_lay_182 rfl rfl ?_
            refine q_getf hK dX9_lay_183 fX9_48 (by decide) rfl rfl ?_
            refine q_iload hK dX9_lay_186 rfl ?_
            refine q_cVi2 hK dX9_lay_188 lX9_185 (by decide) (by decide) rfl (Nat.le_of_ble_eq_true rfl) (m_placeIn (nm := 13) (many := s.1) (R := s.2.1) (e := r) rfl (by decide) (by show 6 * s.1 ≤ 150; omega) (by omega) (fun a ha k hk => by rw [e13]; have := hR13 a ha k hk; exact ⟨this.1, by omega, by omega⟩) (fun k hk => ⟨hr5 k hk, by have := hn k hk; omega, by have := hn k hk; omega⟩) (fun Z3 F3 u1 u2 u3 => ?_))
            have v1 : eqo scZ Z1 Z3 := w1.tr (sc56 u1)
            have v2 : eqo scF F1 F3 := w2.tr (u2.mono (by decide))
            have e13' : F3 13 = F' 13 := by rw [u2 13 (by decide)]; exact e13
            have hbd := plcv_bd s.2.1 r s.1
            refine q_istore hK dX9_lay_191 (by decide) ?_
            refine q_iload hK dX9_lay_193 rfl ?_
            refine q_if_ge hK 204 dX9_lay_195 (by decide) (fun c195 => ?_) (fun c195 => ?_)
            rotate_left
            · have hneg := mt (jI_0le (b := plcv s.2.1 r s.1) (by omega) (by omega)).mpr c195
              rw [if_pos (by omega)] at hstep
              refine q_iconst (v := nI 1) hK dX9_lay_198 (by decide) ?_
              refine q_istore hK dX9_lay_199 (by decide) ?_
              refine q_goto hK 219 dX9_lay_201 (by decide) ?_
              refine q_inc1 hK dX9_lay_219 rfl (by decide) ?_
              refine q_goto hK 108 dX9_lay_222 (by decide) ?_
              refine ih (i + 1) Z3 F3 (s.1, s.2.1, true) _ (by omega) (by omega) v1 v2 (by rw [Nat.add_sub_cancel]; exact hstep) (by rw [e13']; exact hR13)
            have hpos := (jI_0le (by omega) (by omega)).mp c195
            rw [if_neg (by omega)] at hstep
            obtain ⟨j', j1, j2, j3, j4⟩ := layI_ins q2 (layS_ok q2 hs) hr (by omega)
            rw [j1, Int.toNat_natCast] at hstep
            rw [j1, ← jI_nat]
            refine q_aload_n hK 0 dX9_lay_204 rfl rfl ?_
            refine q_aload_n hK 0 dX9_lay_205 rfl rfl ?_
            refine q_getf hK dX9_lay_206 fX9_48 (by decide) rfl rfl ?_
            refine q_iload hK dX9_lay_209 rfl ?_
            refine q_iload hK dX9_lay_211 rfl ?_
            refine q_cVv3 hK dX9_lay_213 lX9_189 (by decide) (by decide) rfl (Nat.le_of_ble_eq_true rfl) (m_insert (nm := 13) (many := s.1) (a := j') rfl (by decide) (by omega) (by show 6 * s.1 + 5 < 150; omega) (fun f13 g1 g2 => ?_))
            refine q_inc1 hK dX9_lay_216 rfl (by decide) ?_
            refine q_inc1 hK dX9_lay_219 rfl (by decide) ?_
            refine q_goto hK 108 dX9_lay_222 (by decide) ?_
            refine ih (i + 1) Z3 _ (s.1 + 1, insR s.2.1 j' r, s.2.2) _ (by omega) (by omega) v1 (v2.up (by decide)) (by rw [Nat.add_sub_cancel]; exact hstep) (fun a ha k hk => ?_)
            have ha' : a < s.1 + 1 := ha
            rw [up_same, g1 a k (by omega) hk]
            show _ = jI (insR s.2.1 j' r a k) ∧ -(24 : Int) ≤ insR s.2.1 j' r a k ∧ insR s.2.1 j' r a k ≤ 24
            unfold insR
            split
            · rw [e13']; exact hR13 a (by omega) k hk
            · split
              · exact ⟨(u3 k hk).1, (hn k hk).1, (hn k hk).2⟩
              · rw [e13']; exact hR13 (a - 1) (by omega) k hk
          · simp only [hr] at hstep
            have hnone := layS_mono (t := t) hstep
            rw [show i + t = im - 1 by omega, hres] at hnone
            subst hnone
            have hM := (hI1.scr z1 ((z2.up (k := 7) (v := f7) (by decide)).up (k := 6) (v := f) (by decide))).scr (sc56 x1) (sc345 x2)
            refine q_if_ne hK 181 dX9_lay_172 (by decide) (fun c172 => ?_) (fun c172 => ?_)
            · exact absurd rfl c172
            refine q_aload_n hK 0 dX9_lay_175 rfl rfl ?_
            refine q_iconst (v := nI 4) hK dX9_lay_176 (by decide) ?_
            refine q_cVi1 hK dX9_lay_177 lX9_104 (by decide) (by decide) rfl (Nat.le_of_ble_eq_true rfl) (m_ref (by decide) (by decide) ?_)
            exact q_iret hR dX9_lay_180 rfl ⟨_, rfl, h _ _ _ (hM.st 4)⟩
        | succ u ihu =>
          intro j f hj hf
          refine q_iload hK dX9_lay_133 rfl ?_
          refine q_bipush (v := nI 6) hK dX9_lay_135 (by decide) ?_
          refine q_icmp_ge hK 168 dX9_lay_137 (by decide) (fun c137 => ?_) (fun c137 => ?_)
          · have := (nI_leI (by decide) (by omega)).mp c137
            omega
          refine q_aload_n hK 0 dX9_lay_140 rfl rfl ?_
          refine q_getf hK dX9_lay_141 fX9_26 (by decide) rfl rfl ?_
          refine q_iload hK dX9_lay_144 rfl ?_
          refine q_iload hK dX9_lay_146 rfl ?_
          refine q_aload_n hK 0 dX9_lay_148 rfl rfl ?_
          refine q_getf hK dX9_lay_149 fX9_7 (by decide) rfl rfl ?_
          refine q_bipush (v := nI 6) hK dX9_lay_152 (by decide) ?_
          refine q_iload_n hK 2 dX9_lay_154 rfl rfl ?_
          refine q_imul hK dX9_lay_155 ?_
          refine q_iload hK dX9_lay_156 rfl ?_
          refine q_iadd hK dX9_lay_158 ?_
          refine qm_iald hK dX9_lay_159 (n := 1) (k := 6 * ib + j) rfl (by rw [pk_mul, nI_add]) (by show _ < 96; omega) ?_
          refine q_imul hK dX9_lay_160 ?_
          refine qm_iast hK dX9_lay_161 (n := 6) (k := j) rfl rfl (by show j < 6; omega) ?_
          refine q_inc1 hK dX9_lay_162 rfl (by decide) ?_
          refine q_goto hK 133 dX9_lay_165 (by decide) ?_
          rw [up_up, up_same, up_ne (by decide : (1 : Nat) ≠ 6), up_ne (by decide : (1 : Nat) ≠ 7), e1', (rB j (by omega)).1, jI_nat i, jI_mul, ← jI_nat i]
          refine ihu (j + 1) _ (by omega) (fun k hk => ?_)
          by_cases e : k = j
          · rw [e, upd_same]
          · rw [upd_ne e]; exact hf k (by omega)
      have := wl 6 0 (F' 6) rfl (fun k hk => by omega)
      rw [show va_up (va_up F' 7 f7) 6 (F' 6) = va_up F' 7 f7 by rw [show F' 6 = va_up F' 7 f7 6 by rw [up_ne (by decide)], up_id]] at this
      exact this
  refine q_iconst (v := nI 0) hK dX9_lay_75 (by decide) ?_
  refine q_istore hK dX9_lay_76 (by decide) ?_
  refine q_iconst (v := nI 0) hK dX9_lay_78 (by decide) ?_
  refine q_istore hK dX9_lay_79 (by decide) ?_
  have zl : ∀ t j f, j + t = 6 → (∀ k, k < j → f k = 0) → K (MM X Z1 (va_up F1 13 f) L g) 81 [some (rf X 0), some (.int (nI ia)), some (.int (nI ib)), some (.int (nI im)), some (.int (nI 0)), some (.int (nI j)), none, none] [] := by
    intro t
    induction t with
    | zero =>
      intro j f hj hf
      refine q_iload hK dX9_lay_81 rfl ?_
      refine q_bipush (v := nI 6) hK dX9_lay_83 (by decide) ?_
      refine q_icmp_ge hK 102 dX9_lay_85 (by decide) (fun c85 => ?_) (fun c85 => ?_)
      rotate_left
      · exact absurd ((nI_leI (by decide) (by omega)).mpr (by omega)) c85
      refine q_iconst (v := nI 1) hK dX9_lay_102 (by decide) ?_
      refine q_istore hK dX9_lay_103 (by decide) ?_
      refine q_iconst (v := nI 1) hK dX9_lay_105 (by decide) ?_
      refine q_istore hK dX9_lay_106 (by decide) ?_
      refine main (im - 1) 1 Z1 _ (1, (fun i => if i = 0 then (fun _ => 0) else gRow σ ia), false) none (by omega) (Nat.le_refl 1) eqo.rf (eqo.rf.up (by decide)) rfl (fun a ha k hk => ?_)
      have ha' : a < 1 := ha
      have : a = 0 := by omega
      subst this
      rw [up_same, Nat.mul_zero, Nat.zero_add, hf k (by omega)]
      exact ⟨rfl, by show -(24 : Int) ≤ 0; decide, by show (0 : Int) ≤ 24; decide⟩
    | succ t iht =>
      intro j f hj hf
      refine q_iload hK dX9_lay_81 rfl ?_
      refine q_bipush (v := nI 6) hK dX9_lay_83 (by decide) ?_
      refine q_icmp_ge hK 102 dX9_lay_85 (by decide) (fun c85 => ?_) (fun c85 => ?_)
      · have := (nI_leI (by decide) (by omega)).mp c85
        omega
      refine q_aload_n hK 0 dX9_lay_88 rfl rfl ?_
      refine q_getf hK dX9_lay_89 fX9_48 (by decide) rfl rfl ?_
      refine q_iload hK dX9_lay_92 rfl ?_
      refine q_iconst (v := nI 0) hK dX9_lay_94 (by decide) ?_
      refine qm_iast hK dX9_lay_95 (n := 13) (k := j) rfl rfl (by show j < 150; omega) ?_
      refine q_inc1 hK dX9_lay_96 rfl (by decide) ?_
      refine q_goto hK 81 dX9_lay_99 (by decide) ?_
      rw [up_up, up_same]
      refine iht (j + 1) _ (by omega) (fun k hk => ?_)
      by_cases e : k = j
      · rw [e, upd_same]; rfl
      · rw [upd_ne e]; exact hf k (by omega)
  have := zl 6 0 (F1 13) rfl (fun k hk => by omega)
  rw [up_id] at this
  exact this
end M15
