theorem sgn_flip {a b : Vec} (h : sgn (fun k => a k - b k) < 0) : 0 < sgn (fun k => b k - a k) := by
  have := sgn_opp (fun k => a k - b k)
  rw [sgn_congr (b := fun k => b k - a k) (fun k _ => by omega)] at this
  omega
theorem sgn_flip' {a b : Vec} (h : 0 < sgn (fun k => a k - b k)) : sgn (fun k => b k - a k) < 0 := by
  have := sgn_opp (fun k => a k - b k)
  rw [sgn_congr (b := fun k => b k - a k) (fun k _ => by omega)] at this
  omega
theorem wfS_ins {n a : Nat} {nt : Nat → Vec} {r : Vec} (hw : wfS n nt) (h0 : 0 < n) (ha : 1 ≤ a) (ha2 : a ≤ n) (h1 : 0 < sgn (fun k => r k - nt (a - 1) k)) (h2 : sgn (fun k => r k - nt a k) < 0) : wfS (n + 1) (insR nt a r) := by
  intro _
  obtain ⟨w1, w2⟩ := hw h0
  refine ⟨fun k hk => ?_, fun i hi => ?_⟩
  · simp only [insR, show 0 < a by omega, if_true]
    exact w1 k hk
  · by_cases e1 : i + 1 < a
    · simp only [insR, e1, show i < a by omega, if_true]
      exact w2 i (by omega)
    · by_cases e2 : i + 1 = a
      · simp only [insR, e1, e2, show i < a by omega, if_true, if_false, Nat.lt_irrefl]
        rw [← e2, Nat.add_sub_cancel] at h1
        exact h1
      · by_cases e3 : i = a
        · subst e3
          simp only [insR, e1, e2, if_true, if_false, Nat.lt_irrefl, Nat.add_sub_cancel]
          exact sgn_flip h2
        · simp only [insR, e1, e2, e3, show ¬ i < a by omega, if_false, Nat.add_sub_cancel]
          have := w2 (i - 1) (by omega)
          rw [show i - 1 + 1 = i by omega] at this
          exact this
/-- where a folded interval comes among the notes -/
theorem plc_pos {n : Nat} {nt : Nat → Vec} {a r : Vec} (hw : wfS n nt) (h0 : 0 < n) (hp : 0 < sgn (nt n)) (hf : foldv a (nt n) = some r) (hq : ¬ plcv nt r n < 0) : ∃ j : Nat, plcv nt r n = (j : Int) ∧ 1 ≤ j ∧ j ≤ n ∧ 0 < sgn (fun k => r k - nt (j - 1) k) ∧ sgn (fun k => r k - nt j k) < 0 := by
  obtain ⟨k, ⟨g1, g2, g3⟩, rfl⟩ := foldv_spec hp hf
  obtain ⟨w1, w2⟩ := hw h0
  have r0 : 0 ≤ sgn (fun j => (a j + k * nt n j) - nt 0 j) := by
    rw [sgn_congr (b := fun j => a j + k * nt n j) (fun j hj => by rw [w1 j hj]; omega)]
    exact g2
  have rn : sgn (fun j => (a j + k * nt n j) - nt n j) < 0 := by
    rw [sgn_congr (b := fun j => a j + (k - 1) * nt n j) (fun j hj => by rw [Int.sub_mul]; omega)]
    exact g3
  rcases plc_range (R := nt) (e := fun j => a j + k * nt n j) (f := n) (i := 0) with ⟨a1, -⟩ | ⟨j, a2, a3, a4, a5, a6⟩
  · exact absurd a1 hq
  · refine ⟨j, a4, ?_, by omega, ?_, ?_⟩
    · rcases Nat.eq_zero_or_pos j with z | z
      · subst z
        have := a6 (by omega)
        omega
      · exact z
    · refine a5 (j - 1) (by omega) ?_
      rcases Nat.eq_zero_or_pos j with z | z
      · subst z
        have := a6 (by omega)
        omega
      · omega
    · by_cases e : j = n
      · rw [e]; exact rn
      · exact a6 (by omega)
theorem wf_per {n : Nat} {nt : Nat → Vec} (hw : wfS n nt) (h0 : 0 < n) : ∀ i, 1 ≤ i → i ≤ n → 0 < sgn (nt i) := by
  obtain ⟨w1, w2⟩ := hw h0
  intro i
  induction i with
  | zero => intro h; omega
  | succ i ih =>
    intro _ hi
    have h1 := w2 i (by omega)
    by_cases e : i = 0
    · subst e
      rw [sgn_congr (b := nt 1) (fun k hk => by rw [w1 k hk]; simp)] at h1
      exact h1
    · have h2 := ih (by omega) (by omega)
      have := sgn_add (a := nt i) (b := fun k => nt (i + 1) k - nt i k) (by omega) h1
      rw [sgn_congr (b := nt (i + 1)) (fun k _ => by omega)] at this
      exact this
/-- the powers 1 to m of an interval, each folded, put among the notes one by one -/
noncomputable def layS (p b : Vec) : Nat → Option (Nat × (Nat → Vec) × Bool)
  | 0 => some (1, (fun i => if i = 0 then (fun _ => 0) else p), false)
  | m + 1 => match layS p b m with
    | none => none
    | some s => match foldv (fun k => ((m + 1 : Nat) : Int) * b k) p with
      | none => none
      | some r => if plcv s.2.1 r s.1 < 0 then some (s.1, s.2.1, true) else some (s.1 + 1, insR s.2.1 (plcv s.2.1 r s.1).toNat r, s.2.2)
noncomputable def sp_lay (σ : Sg) (p b m : Int32) : Int32 × Sg :=
  if isIn p 16 && isIn b 16 then
    if onS σ p && onS σ b then
      if decide (1 ≤ m.toInt) && decide (m.toInt ≤ 24) then
        if 0 < sgn (rowS σ p) then
          match layS (rowS σ p) (rowS σ b) (m.toInt.toNat - 1) with
          | none => (0, sSt σ 4)
          | some s => if s.2.2 then (0, sSt σ 8) else (1, (0, gOn σ, gRow σ, gC σ, gCr σ, s.1, s.2.1, σ.2.2.2.2.2.2.2))
        else (0, sSt σ 5)
      else (0, sSt σ 3)
    else (0, sSt σ 2)
  else (0, sSt σ 1)
/-- what holds of the notes laid so far -/
def layI (p : Vec) (m n : Nat) (R : Nat → Vec) : Prop := wfS n R ∧ 1 ≤ n ∧ n ≤ m + 1 ∧ R n = p ∧ ∀ i, i < n → farV 24 (R i) = false
theorem layI_0 {p : Vec} (hp : 0 < sgn p) : layI p 0 1 (fun i => if i = 0 then (fun _ => 0) else p) := by
  refine ⟨fun _ => ⟨fun k _ => rfl, fun i hi => ?_⟩, Nat.le_refl _, Nat.le_refl _, rfl, fun i hi => ?_⟩
  · have : i = 0 := by omega
    subst this
    show 0 < sgn (fun k => p k - 0)
    rw [sgn_congr (b := p) (fun k _ => by omega)]
    exact hp
  · have : i = 0 := by omega
    subst this
    rfl
theorem layI_ins {p b r : Vec} {m n : Nat} {R : Nat → Vec} (hp : 0 < sgn p) (h : layI p m n R) (hf : foldv b p = some r) (hq : ¬ plcv R r n < 0) : ∃ j : Nat, plcv R r n = (j : Int) ∧ 1 ≤ j ∧ j ≤ n ∧ layI p (m + 1) (n + 1) (insR R j r) := by
  obtain ⟨h1, h2, h3, h4, h5⟩ := h
  rw [← h4] at hf
  obtain ⟨j, j1, j2, j3, j4, j5⟩ := plc_pos h1 (by omega) (by rw [h4]; exact hp) hf hq
  refine ⟨j, j1, j2, j3, wfS_ins h1 (by omega) j2 j3 j4 j5, by omega, by omega, ?_, fun i hi => ?_⟩
  · simp only [insR, show ¬ n + 1 < j by omega, show ¬ n + 1 = j by omega, if_false, Nat.add_sub_cancel]
    exact h4
  · unfold insR
    split
    · exact h5 i (by omega)
    · split
      · exact foldv_near (by rw [h4]; exact hp) hf
      · exact h5 (i - 1) (by omega)
theorem layS_ok {p b : Vec} (hp : 0 < sgn p) : ∀ {m : Nat} {s : Nat × (Nat → Vec) × Bool}, layS p b m = some s → layI p m s.1 s.2.1
  | 0, s, h => by
    simp only [layS, Option.some.injEq] at h
    subst h
    exact layI_0 hp
  | m + 1, s, h => by
    unfold layS at h
    split at h
    · cases h
    · rename_i s0 hs0
      have ih := layS_ok hp hs0
      split at h
      · cases h
      · rename_i r hr
        split at h
        · simp only [Option.some.injEq] at h
          subst h
          exact ⟨ih.1, ih.2.1, by have := ih.2.2.1; show s0.1 ≤ m + 1 + 1; omega, ih.2.2.2⟩
        · rename_i hq
          obtain ⟨j, j1, -, -, j2⟩ := layI_ins hp ih hr hq
          simp only [Option.some.injEq] at h
          subst h
          show layI p (m + 1) (s0.1 + 1) (insR s0.2.1 (plcv s0.2.1 r s0.1).toNat r)
          rw [j1]
          exact j2
section M11
variable {X : Cx} {Z : Nat → Int32} {F : Nat → Nat → Int32} {L : Nat → Int64} {g : Mem}
theorem M_note {σ : Sg} {s : Int32} {Q : Int32 → Mem → Prop} (hI : MI Z F σ) (h : ∀ Z' F' L', MI Z' F' (sp_note σ s).2 → Q (sp_note σ s).1 (MM X Z' F' L' g)) : CallI X 9 yX9_note [rf X 0, .int s] (MM X Z F L g) Q := by
  obtain ⟨n1, n2, n3, n4⟩ := hI.2.2.2.2.1
  refine CallM_intro (own := RX9) [some (rf X 0), some (.int s), none] wX9_note (by decide) (by decide) rfl (Nat.le_of_ble_eq_true rfl) rfl (fun K hK hR => ?_)
  refine q_iload_n hK 1 dX9_note_0 rfl rfl ?_
  refine q_cSi1 hK dX9_note_1 lX9_111 (by decide) (Nat.le_of_ble_eq_true rfl) (m_isShelf ?_)
  refine q_if_ne hK 13 dX9_note_4 (by decide) (fun c4 => ?_) (fun c4 => ?_)
  rotate_left
  · have hs := (b2i_eq0 _).mp c4
    simp only [sp_note, hs] at h
    refine q_aload_n hK 0 dX9_note_7 rfl rfl ?_
    refine q_iconst (v := nI 1) hK dX9_note_8 (by decide) ?_
    refine q_cVi1 hK dX9_note_9 lX9_136 (by decide) (by decide) rfl (Nat.le_of_ble_eq_true rfl) (m_none ?_)
    exact q_iret hR dX9_note_12 rfl ⟨_, rfl, h _ _ _ (hI.st 1)⟩
  have hs := (b2i_ne0 _).mp c4
  obtain ⟨ia, ha1, rfl, ha2⟩ := isIn_ex hs (by decide)
  simp only [sp_note, hs, onS, rowS, ha2, if_true] at h
  refine q_aload_n hK 0 dX9_note_13 rfl rfl ?_
  refine q_getf hK dX9_note_14 fX9_13 (by decide) rfl rfl ?_
  refine q_iload_n hK 1 dX9_note_17 rfl rfl ?_
  refine qm_zald hK dX9_note_18 rfl ha1 ?_
  rw [hI.2.1 ia ha1]
  refine q_if_ne hK 28 dX9_note_19 (by decide) (fun c19 => ?_) (fun c19 => ?_)
  rotate_left
  · have ho := (b2i_eq0 _).mp c19
    simp only [ho] at h
    refine q_aload_n hK 0 dX9_note_22 rfl rfl ?_
    refine q_iconst (v := nI 2) hK dX9_note_23 (by decide) ?_
    refine q_cVi1 hK dX9_note_24 lX9_136 (by decide) (by decide) rfl (Nat.le_of_ble_eq_true rfl) (m_none ?_)
    exact q_iret hR dX9_note_27 rfl ⟨_, rfl, h _ _ _ (hI.st 2)⟩
  have oa := (b2i_ne0 _).mp c19
  simp only [oa, if_true] at h
  have rA := hI.2.2.1 ia ha1 oa
  refine q_aload_n hK 0 dX9_note_28 rfl rfl ?_
  refine q_getf hK dX9_note_29 fX9_182 (by decide) rfl rfl ?_
  rw [n1]
  refine q_if_ne hK 42 dX9_note_32 (by decide) (fun c32 => ?_) (fun c32 => ?_)
  rotate_left
  · have q : gN σ = 0 := (nI_eq (b := 0) (by omega) (by decide)).mp c32
    simp only [q, if_true] at h
    refine q_aload_n hK 0 dX9_note_35 rfl rfl ?_
    refine q_bipush (v := nI 7) hK dX9_note_36 (by decide) ?_
    refine q_cVi1 hK dX9_note_38 lX9_136 (by decide) (by decide) rfl (Nat.le_of_ble_eq_true rfl) (m_none ?_)
    exact q_iret hR dX9_note_41 rfl ⟨_, rfl, h _ _ _ (hI.st 7)⟩
  have q : ¬ gN σ = 0 := fun z => c32 (by rw [z]; rfl)
  simp only [q, if_false] at h
  have n3 := n3 (by omega)
  have hper := wf_per n4 (by omega) (gN σ) (by omega) (Nat.le_refl _)
  refine q_aload_n hK 0 dX9_note_42 rfl rfl ?_
  refine q_aload_n hK 0 dX9_note_43 rfl rfl ?_
  refine q_getf hK dX9_note_44 fX9_26 (by decide) rfl rfl ?_
  refine q_aload_n hK 0 dX9_note_47 rfl rfl ?_
  refine q_getf hK dX9_note_48 fX9_7 (by decide) rfl rfl ?_
  refine q_bipush (v := nI 6) hK dX9_note_51 (by decide) ?_
  refine q_iload_n hK 1 dX9_note_53 rfl rfl ?_
  refine q_imul hK dX9_note_54 ?_
  rw [show nI 6 * nI ia = nI (6 * ia) from pk_mul 6 ia]
  refine q_cVv3 hK dX9_note_55 lX9_129 (by decide) (by decide) rfl (Nat.le_of_ble_eq_true rfl) (m_set6 (n := 6) (n2 := 1) (a := 6 * ia) rfl rfl rfl (by decide) (by show 6 * ia + 6 ≤ 96; omega) (fun f6 h6 => ?_))
  refine q_aload_n hK 0 dX9_note_58 rfl rfl ?_
  refine q_aload_n hK 0 dX9_note_59 rfl rfl ?_
  refine q_getf hK dX9_note_60 fX9_29 (by decide) rfl rfl ?_
  refine q_aload_n hK 0 dX9_note_63 rfl rfl ?_
  refine q_getf hK dX9_note_64 fX9_45 (by decide) rfl rfl ?_
  refine q_bipush (v := nI 6) hK dX9_note_67 (by decide) ?_
  refine q_aload_n hK 0 dX9_note_69 rfl rfl ?_
  refine q_getf hK dX9_note_70 fX9_182 (by decide) rfl rfl ?_
  refine q_imul hK dX9_note_73 ?_
  rw [n1, show nI 6 * nI (gN σ) = nI (6 * gN σ) from pk_mul 6 _]
  refine q_cVv3 hK dX9_note_74 lX9_129 (by decide) (by decide) rfl (Nat.le_of_ble_eq_true rfl) (m_set6 (n := 7) (n2 := 12) (a := 6 * gN σ) rfl rfl rfl (by decide) (by show 6 * gN σ + 6 ≤ 150; omega) (fun f7 h7 => ?_))
  refine q_aload_n hK 0 dX9_note_77 rfl rfl ?_
  refine q_cVi0 hK dX9_note_78 lX9_133 (by decide) (by decide) rfl (Nat.le_of_ble_eq_true rfl) (m_folds (a := gRow σ ia) (p := gNt σ (gN σ)) ?_ ?_ hper (fun Z2 F2 x1 x2 => ⟨fun r hr hr5 => ?_, fun hr => ?_⟩))
  · intro k hk
    have := rA k hk
    rw [up_ne (by decide), up_same, h6 k hk]
    exact ⟨this.1, by omega, by omega⟩
  · intro k hk
    have := n3 (gN σ) (Nat.le_refl _) k hk
    rw [up_same, h7 k hk, up_ne (by decide)]
    exact ⟨this.1, by omega, by omega⟩
  · have e2 : eqo scF F F2 := (((eqo.rf.up (k := 6) (v := f6) (by decide)).up (k := 7) (v := f7) (by decide)) : eqo scF F _).tr (sc345 x2)
    have hI2 := hI.scr (sc56 x1) e2
    have hn := farV_false.mp (foldv_near hper hr)
    simp only [hr] at h
    refine q_if_ne hK 90 dX9_note_81 (by decide) (fun c81 => ?_) (fun c81 => ?_)
    rotate_left
    · exact absurd c81 (by decide)
    have z18 : Z2 18 = nI (gN σ) := by rw [x1 18 (by decide)]; exact n1
    refine q_aload_n hK 0 dX9_note_90 rfl rfl ?_
    refine q_aload_n hK 0 dX9_note_91 rfl rfl ?_
    refine q_getf hK dX9_note_92 fX9_45 (by decide) rfl rfl ?_
    refine q_aload_n hK 0 dX9_note_95 rfl rfl ?_
    refine q_getf hK dX9_note_96 fX9_182 (by decide) rfl rfl ?_
    rw [z18]
    refine q_cVi2 hK dX9_note_99 lX9_185 (by decide) (by decide) rfl (Nat.le_of_ble_eq_true rfl) (m_placeIn (nm := 12) (many := gN σ) (R := gNt σ) (e := r) rfl (by decide) (by show 6 * gN σ ≤ 150; omega) (by omega) (fun i hi k hk => by rw [e2 12 (by decide)]; have := n3 i (by omega) k hk; exact ⟨this.1, by omega, by omega⟩) (fun k hk => ⟨hr5 k hk, by have := hn k hk; omega, by have := hn k hk; omega⟩) (fun Z3 F3 y1 y2 y3 => ?_))
    have e3 : eqo scF F F3 := e2.tr (y2.mono (by decide))
    have hI3 := hI2.scr (sc56 y1) (y2.mono (by decide))
    have z18' : Z3 18 = nI (gN σ) := by rw [y1 18 (by decide)]; exact z18
    have hbd : -1000 ≤ plcv (gNt σ) r (gN σ) ∧ plcv (gNt σ) r (gN σ) ≤ 1000 := by
      unfold plcv
      rcases plc_range (R := gNt σ) (e := r) (f := gN σ) (i := 0) with ⟨-, j, a2, a3, a4, -⟩ | ⟨j, a2, a3, a4, -⟩ <;> rw [a4] <;> omega
    refine q_istore_n hK 2 dX9_note_102 rfl (by decide) ?_
    refine q_iload_n hK 2 dX9_note_103 rfl rfl ?_
    refine q_if_ge hK 114 dX9_note_104 (by decide) (fun c104 => ?_) (fun c104 => ?_)
    rotate_left
    · have q8 := mt (jI_0le (b := plcv (gNt σ) r (gN σ)) (by omega) (by omega)).mpr c104
      simp only [show plcv (gNt σ) r (gN σ) < 0 by omega, if_true] at h
      refine q_aload_n hK 0 dX9_note_107 rfl rfl ?_
      refine q_bipush (v := nI 8) hK dX9_note_108 (by decide) ?_
      refine q_cVi1 hK dX9_note_110 lX9_136 (by decide) (by decide) rfl (Nat.le_of_ble_eq_true rfl) (m_none ?_)
      exact q_iret hR dX9_note_113 rfl ⟨_, rfl, h _ _ _ (hI3.st 8)⟩
    have q8 := (jI_0le (by omega) (by omega)).mp c104
    have q8' : ¬ plcv (gNt σ) r (gN σ) < 0 := by omega
    simp only [q8', if_false] at h
    refine q_aload_n hK 0 dX9_note_114 rfl rfl ?_
    refine q_getf hK dX9_note_115 fX9_182 (by decide) rfl rfl ?_
    refine q_bipush (v := nI 24) hK dX9_note_118 (by decide) ?_
    rw [z18']
    refine q_icmp_ne hK 130 dX9_note_120 (by decide) (fun c120 => ?_) (fun c120 => ?_)
    rotate_left
    · have q9 : gN σ = 24 := (nI_eq (by omega) (by decide)).mp c120
      simp only [q9, if_true] at h
      refine q_aload_n hK 0 dX9_note_123 rfl rfl ?_
      refine q_bipush (v := nI 6) hK dX9_note_124 (by decide) ?_
      refine q_cVi1 hK dX9_note_126 lX9_136 (by decide) (by decide) rfl (Nat.le_of_ble_eq_true rfl) (m_none ?_)
      exact q_iret hR dX9_note_129 rfl ⟨_, rfl, h _ _ _ (hI3.st 6)⟩
    have q9 : ¬ gN σ = 24 := fun z => c120 (by rw [z])
    simp only [q9, if_false] at h
    obtain ⟨j, j1, j2, j3, j4, j5⟩ := plc_pos n4 (by omega) hper hr q8'
    rw [j1] at h ⊢
    rw [Int.toNat_natCast] at h
    refine q_aload_n hK 0 dX9_note_130 rfl rfl ?_
    refine q_iconst (v := nI 0) hK dX9_note_131 (by decide) ?_
    refine qm_put0 hK dX9_note_132 pX9_66 ?_
    refine q_aload_n hK 0 dX9_note_135 rfl rfl ?_
    refine q_aload_n hK 0 dX9_note_136 rfl rfl ?_
    refine q_getf hK dX9_note_137 fX9_45 (by decide) rfl rfl ?_
    refine q_aload_n hK 0 dX9_note_140 rfl rfl ?_
    refine q_getf hK dX9_note_141 fX9_182 (by decide) rfl rfl ?_
    refine q_iconst (v := nI 1) hK dX9_note_144 (by decide) ?_
    refine q_iadd hK dX9_note_145 ?_
    refine q_iload_n hK 2 dX9_note_146 rfl rfl ?_
    rw [up_ne (by decide : (18 : Nat) ≠ 0), z18', show nI (gN σ) + nI 1 = nI (gN σ + 1) from nI_add _ 1, ← jI_nat]
    refine q_cVv3 hK dX9_note_147 lX9_189 (by decide) (by decide) rfl (Nat.le_of_ble_eq_true rfl) (m_insert (nm := 12) (many := gN σ + 1) (a := j) rfl (by decide) (by omega) (by show 6 * (gN σ + 1) + 5 < 150; omega) (fun f12 k1 k2 => ?_))
    refine q_aload_n hK 0 dX9_note_150 rfl rfl ?_
    refine q_dup hK dX9_note_151 rfl ?_
    refine q_getf hK dX9_note_152 fX9_182 (by decide) rfl rfl ?_
    refine q_iconst (v := nI 1) hK dX9_note_155 (by decide) ?_
    refine q_iadd hK dX9_note_156 ?_
    refine qm_put18 hK dX9_note_157 pX9_182 ?_
    refine q_iload_n hK 2 dX9_note_160 rfl rfl ?_
    rw [up_ne (by decide : (18 : Nat) ≠ 0), z18', show nI (gN σ) + nI 1 = nI (gN σ + 1) from nI_add _ 1]
    obtain ⟨a1, a2, a3, a4, a5, a6, a7⟩ := hI3
    rw [← jI_nat] at h
    refine q_iret hR dX9_note_161 rfl ⟨_, rfl, h _ _ _ ⟨?_, ?_, ?_, ?_, ⟨?_, by show gN σ + 1 ≤ 24; omega, fun _ i hi => ?_, ?_⟩, ?_, ?_⟩⟩
    · rw [up_ne (by decide), up_same]; rfl
    · rw [up_ne (by decide)]; exact a2
    · rw [up_ne (by decide)]; exact a3
    · rw [up_ne (by decide), up_ne (by decide), up_ne (by decide)]; exact a4
    · rw [up_same]
    · intro k hk
      have hi' : i ≤ gN σ + 1 := hi
      rw [up_same, k1 i k hi' hk]
      show _ = jI (insR (gNt σ) j r i k) ∧ -(24 : Int) ≤ insR (gNt σ) j r i k ∧ insR (gNt σ) j r i k ≤ 24
      unfold insR
      split
      · rw [e3 12 (by decide)]
        exact n3 i (by omega) k hk
      · split
        · exact ⟨(y3 k hk).1, (hn k hk).1, (hn k hk).2⟩
        · rw [e3 12 (by decide)]
          exact n3 (i - 1) (by omega) k hk
    · exact wfS_ins n4 (by omega) j2 j3 j4 j5
    · rw [up_ne (by decide), up_ne (by decide), up_ne (by decide)]; exact a6
    · rw [up_ne (by decide)]; exact a7
  · have hI2 := (hI.scr eqo.rf ((eqo.rf.up (k := 6) (v := f6) (by decide)).up (k := 7) (v := f7) (by decide))).scr (sc56 x1) (sc345 x2)
    simp only [hr] at h
    refine q_if_ne hK 90 dX9_note_81 (by decide) (fun c81 => ?_) (fun c81 => ?_)
    · exact absurd rfl c81
    refine q_aload_n hK 0 dX9_note_84 rfl rfl ?_
    refine q_iconst (v := nI 4) hK dX9_note_85 (by decide) ?_
    refine q_cVi1 hK dX9_note_86 lX9_136 (by decide) (by decide) rfl (Nat.le_of_ble_eq_true rfl) (m_none ?_)
    exact q_iret hR dX9_note_89 rfl ⟨_, rfl, h _ _ _ (hI2.st 4)⟩
theorem M_begin {σ : Sg} {s : Int32} {Q : Int32 → Mem → Prop} (hI : MI Z F σ) (h : ∀ Z' F' L', MI Z' F' (sp_begin σ s).2 → Q (sp_begin σ s).1 (MM X Z' F' L' g)) : CallI X 9 yX9_begin [rf X 0, .int s] (MM X Z F L g) Q := by
  refine CallM_intro (own := RX9) [some (rf X 0), some (.int s), none] wX9_begin (by decide) (by decide) rfl (Nat.le_of_ble_eq_true rfl) rfl (fun K hK hR => ?_)
  refine q_iload_n hK 1 dX9_begin_0 rfl rfl ?_
  refine q_cSi1 hK dX9_begin_1 lX9_111 (by decide) (Nat.le_of_ble_eq_true rfl) (m_isShelf ?_)
  refine q_if_ne hK 13 dX9_begin_4 (by decide) (fun c4 => ?_) (fun c4 => ?_)
  rotate_left
  · have hs := (b2i_eq0 _).mp c4
    simp only [sp_begin, hs] at h
    refine q_aload_n hK 0 dX9_begin_7 rfl rfl ?_
    refine q_iconst (v := nI 1) hK dX9_begin_8 (by decide) ?_
    refine q_cVi1 hK dX9_begin_9 lX9_104 (by decide) (by decide) rfl (Nat.le_of_ble_eq_true rfl) (m_ref (by decide) (by decide) ?_)
    exact q_iret hR dX9_begin_12 rfl ⟨_, rfl, h _ _ _ (hI.st 1)⟩
  have hs := (b2i_ne0 _).mp c4
  obtain ⟨ia, ha1, rfl, ha2⟩ := isIn_ex hs (by decide)
  simp only [sp_begin, hs, onS, rowS, ha2, if_true] at h
  refine q_aload_n hK 0 dX9_begin_13 rfl rfl ?_
  refine q_getf hK dX9_begin_14 fX9_13 (by decide) rfl rfl ?_
  refine q_iload_n hK 1 dX9_begin_17 rfl rfl ?_
  refine qm_zald hK dX9_begin_18 rfl ha1 ?_
  rw [hI.2.1 ia ha1]
  refine q_if_ne hK 28 dX9_begin_19 (by decide) (fun c19 => ?_) (fun c19 => ?_)
  rotate_left
  · have ho := (b2i_eq0 _).mp c19
    simp only [ho] at h
    refine q_aload_n hK 0 dX9_begin_22 rfl rfl ?_
    refine q_iconst (v := nI 2) hK dX9_begin_23 (by decide) ?_
    refine q_cVi1 hK dX9_begin_24 lX9_104 (by decide) (by decide) rfl (Nat.le_of_ble_eq_true rfl) (m_ref (by decide) (by decide) ?_)
    exact q_iret hR dX9_begin_27 rfl ⟨_, rfl, h _ _ _ (hI.st 2)⟩
  have oa := (b2i_ne0 _).mp c19
  simp only [oa, if_true] at h
  have rA := hI.2.2.1 ia ha1 oa
  refine q_aload_n hK 0 dX9_begin_28 rfl rfl ?_
  refine q_iload_n hK 1 dX9_begin_29 rfl rfl ?_
  refine q_cVi1 hK dX9_begin_30 lX9_126 (by decide) (by decide) rfl (Nat.le_of_ble_eq_true rfl) (m_isPeriod ha1 rA (fun Z1 F1 y1 y2 => ?_))
  have hI1 := hI.scr (sc56 y1) (sc345 y2)
  refine q_if_ne hK 42 dX9_begin_33 (by decide) (fun c33 => ?_) (fun c33 => ?_)
  rotate_left
  · have q2 : ¬ 0 < sgn (gRow σ ia) := by simpa using (b2i_eq0 _).mp c33
    simp only [q2, if_false] at h
    refine q_aload_n hK 0 dX9_begin_36 rfl rfl ?_
    refine q_iconst (v := nI 5) hK dX9_begin_37 (by decide) ?_
    refine q_cVi1 hK dX9_begin_38 lX9_104 (by decide) (by decide) rfl (Nat.le_of_ble_eq_true rfl) (m_ref (by decide) (by decide) ?_)
    exact q_iret hR dX9_begin_41 rfl ⟨_, rfl, h _ _ _ (hI1.st 5)⟩
  have q2 : 0 < sgn (gRow σ ia) := by simpa using (b2i_ne0 _).mp c33
  simp only [q2, if_true] at h
  refine q_iconst (v := nI 0) hK dX9_begin_42 (by decide) ?_
  refine q_istore_n hK 2 dX9_begin_43 rfl (by decide) ?_
  have e1 : F1 1 = F 1 := y2 1 (by decide)
  have loop : ∀ m i f, i + m = 6 → (∀ k, k < i → f k = 0 ∧ f (6 + k) = jI (gRow σ ia k)) → K (MM X Z1 (va_up F1 12 f) L g) 44 [some (rf X 0), some (.int (nI ia)), some (.int (nI i))] [] := by
    intro m
    induction m with
    | zero =>
      intro i f hi hf
      refine q_iload_n hK 2 dX9_begin_44 rfl rfl ?_
      refine q_bipush (v := nI 6) hK dX9_begin_45 (by decide) ?_
      refine q_icmp_ge hK 83 dX9_begin_47 (by decide) (fun c47 => ?_) (fun c47 => ?_)
      · refine q_aload_n hK 0 dX9_begin_83 rfl rfl ?_
        refine q_iconst (v := nI 1) hK dX9_begin_84 (by decide) ?_
        refine qm_put18 hK dX9_begin_85 pX9_182 ?_
        refine q_aload_n hK 0 dX9_begin_88 rfl rfl ?_
        refine q_iconst (v := nI 0) hK dX9_begin_89 (by decide) ?_
        refine q_cVi1 hK dX9_begin_90 lX9_104 (by decide) (by decide) rfl (Nat.le_of_ble_eq_true rfl) (m_acc ?_)
        obtain ⟨a1, a2, a3, a4, a5, a6, a7⟩ := hI1
        refine q_iret hR dX9_begin_93 rfl ⟨_, rfl, h _ _ _ ⟨up_same _ _ _, ?_, ?_, ?_, ⟨?_, by show 1 ≤ 24; decide, fun _ t ht => ?_, fun _ => ⟨fun k _ => rfl, fun t ht => ?_⟩⟩, ?_, ?_⟩⟩
        · rw [up_ne (by decide)]; exact a2
        · rw [up_ne (by decide)]; exact a3
        · rw [up_ne (by decide), up_ne (by decide), up_ne (by decide)]; exact a4
        · rw [up_ne (by decide), up_same]
        · have ht' : t ≤ 1 := ht
          intro k hk
          rw [up_same]
          by_cases et : t = 0
          · subst et
            rw [Nat.mul_zero, Nat.zero_add, (hf k (by omega)).1]
            exact ⟨rfl, by show -(24 : Int) ≤ 0; decide, by show (0 : Int) ≤ 24; decide⟩
          · have et1 : t = 1 := by omega
            subst et1
            rw [Nat.mul_one, (hf k (by omega)).2]
            exact ⟨rfl, (rA k hk).2⟩
        · have ht' : t < 1 := ht
          have : t = 0 := by omega
          subst this
          show 0 < sgn (fun k => gRow σ ia k - 0)
          rw [sgn_congr (b := gRow σ ia) (fun k _ => by omega)]
          exact q2
        · rw [up_ne (by decide), up_ne (by decide), up_ne (by decide)]; exact a6
        · rw [up_ne (by decide)]; exact a7
      · exact absurd ((nI_leI (by decide) (by omega)).mpr (by omega)) c47
    | succ m ih =>
      intro i f hi hf
      refine q_iload_n hK 2 dX9_begin_44 rfl rfl ?_
      refine q_bipush (v := nI 6) hK dX9_begin_45 (by decide) ?_
      refine q_icmp_ge hK 83 dX9_begin_47 (by decide) (fun c47 => ?_) (fun c47 => ?_)
      · have := (nI_leI (by decide) (by omega)).mp c47
        omega
      · refine q_aload_n hK 0 dX9_begin_50 rfl rfl ?_
        refine q_getf hK dX9_begin_51 fX9_45 (by decide) rfl rfl ?_
        refine q_iload_n hK 2 dX9_begin_54 rfl rfl ?_
        refine q_iconst (v := nI 0) hK dX9_begin_55 (by decide) ?_
        refine qm_iast hK dX9_begin_56 (n := 12) (k := i) rfl rfl (by show i < 150; omega) ?_
        refine q_aload_n hK 0 dX9_begin_57 rfl rfl ?_
        refine q_getf hK dX9_begin_58 fX9_45 (by decide) rfl rfl ?_
        refine q_bipush (v := nI 6) hK dX9_begin_61 (by decide) ?_
        refine q_iload_n hK 2 dX9_begin_63 rfl rfl ?_
        refine q_iadd hK dX9_begin_64 ?_
        refine q_aload_n hK 0 dX9_begin_65 rfl rfl ?_
        refine q_getf hK dX9_begin_66 fX9_7 (by decide) rfl rfl ?_
        refine q_bipush (v := nI 6) hK dX9_begin_69 (by decide) ?_
        refine q_iload_n hK 1 dX9_begin_71 rfl rfl ?_
        refine q_imul hK dX9_begin_72 ?_
        refine q_iload_n hK 2 dX9_begin_73 rfl rfl ?_
        refine q_iadd hK dX9_begin_74 ?_
        refine qm_iald hK dX9_begin_75 (n := 1) (k := 6 * ia + i) rfl (by rw [pk_mul, nI_add]) (by show _ < 96; omega) ?_
        refine qm_iast hK dX9_begin_76 (n := 12) (k := 6 + i) rfl (nI_add 6 i) (by show _ < 150; omega) ?_
        refine q_inc1 hK dX9_begin_77 rfl (by decide) ?_
        refine q_goto hK 44 dX9_begin_80 (by decide) ?_
        simp only [up_up, up_same, up_ne (show (1 : Nat) ≠ 12 by decide)]
        rw [e1, (rA i (by omega)).1]
        refine ih (i + 1) _ (by omega) (fun k hk => ?_)
        by_cases e : k = i
        · subst e
          rw [upd_ne (by omega), upd_same, upd_same]
          exact ⟨rfl, rfl⟩
        · rw [upd_ne (by omega), upd_ne (by omega), upd_ne (by omega), upd_ne (by omega)]
          exact hf k (by omega)
  have := loop 6 0 (F1 12) rfl (fun k hk => by omega)
  rw [up_id] at this
  exact this
theorem M_supports {σ : Sg} {d : Int32} {Q : Int32 → Mem → Prop} (hI : MI Z F σ) (h : ∀ Z' F' L', MI Z' F' (sp_supports σ d).2 → Q (sp_supports σ d).1 (MM X Z' F' L' g)) : CallI X 9 yX9_supports [rf X 0, .int d] (MM X Z F L g) Q := by
  refine CallM_intro (own := RX9) [some (rf X 0), some (.int d), none, none, none] wX9_supports (by decide) (by decide) rfl (Nat.le_of_ble_eq_true rfl) rfl (fun K hK hR => ?_)
  refine q_iload_n hK 1 dX9_supports_0 rfl rfl ?_
  refine q_cSi1 hK dX9_supports_1 lX9_153 (by decide) (Nat.le_of_ble_eq_true rfl) (m_isDivision ?_)
  refine q_if_ne hK 13 dX9_supports_4 (by decide) (fun c4 => ?_) (fun c4 => ?_)
  rotate_left
  · have hd := (b2i_eq0 _).mp c4
    simp only [sp_supports, hd] at h
    refine q_aload_n hK 0 dX9_supports_7 rfl rfl ?_
    refine q_iconst (v := nI 3) hK dX9_supports_8 (by decide) ?_
    refine q_cVi1 hK dX9_supports_9 lX9_136 (by decide) (by decide) rfl (Nat.le_of_ble_eq_true rfl) (m_none ?_)
    exact q_iret hR dX9_supports_12 rfl ⟨_, rfl, h _ _ _ (hI.st 3)⟩
  have hd := (b2i_ne0 _).mp c4
  obtain ⟨n0, hn1, hn2, rfl, hn3⟩ := isDiv_ex hd
  simp only [sp_supports, hd, hn3, if_true] at h
  refine q_aload_n hK 0 dX9_supports_13 rfl rfl ?_
  refine q_iconst (v := nI 0) hK dX9_supports_14 (by decide) ?_
  refine qm_put0 hK dX9_supports_15 pX9_66 ?_
  refine q_iload_n hK 1 dX9_supports_18 rfl rfl ?_
  refine q_istore_n hK 2 dX9_supports_19 rfl (by decide) ?_
  have hI0 := hI.st 0
  generalize hs : supF (gC σ) (gCr σ) (100 - n0) n0 = res at h
  have loop : ∀ f n v3 v4 Z' F', n + f = 100 → 1 ≤ n → supF (gC σ) (gCr σ) f n = res → MI Z' F' (sSt σ 0) → K (MM X Z' F' L g) 20 [some (rf X 0), some (.int (nI n0)), some (.int (nI n)), v3, v4] [] := by
    intro f
    induction f with
    | zero =>
      intro n v3 v4 Z' F' hn hn0 hr hM
      refine q_iload_n hK 2 dX9_supports_20 rfl rfl ?_
      refine q_bipush (v := nI 99) hK dX9_supports_21 (by decide) ?_
      refine q_icmp_gt hK 85 dX9_supports_23 (by decide) (fun c23 => ?_) (fun c23 => ?_)
      · refine q_iconst (v := nI 0) hK dX9_supports_85 (by decide) ?_
        rw [← hr] at h
        exact q_iret hR dX9_supports_86 rfl ⟨_, rfl, h _ _ _ hM⟩
      · exact absurd ((nI_ltI (by decide) (by omega)).mpr (by omega)) c23
    | succ f ih =>
      intro n v3 v4 Z' F' hn hn0 hr hM
      refine q_iload_n hK 2 dX9_supports_20 rfl rfl ?_
      refine q_bipush (v := nI 99) hK dX9_supports_21 (by decide) ?_
      refine q_icmp_gt hK 85 dX9_supports_23 (by decide) (fun c23 => ?_) (fun c23 => ?_)
      · have := (nI_ltI (by decide) (by omega)).mp c23
        omega
      refine q_iconst (v := nI 1) hK dX9_supports_26 (by decide) ?_
      refine q_istore_n hK 3 dX9_supports_27 rfl (by decide) ?_
      refine q_iconst (v := nI 0) hK dX9_supports_28 (by decide) ?_
      refine q_istore hK dX9_supports_29 (by decide) ?_
      have fin : ∀ (b : Bool) v4 Z' F', allZ (gCr σ) n (gC σ) = b → MI Z' F' (sSt σ 0) → K (MM X Z' F' L g) 73 [some (rf X 0), some (.int (nI n0)), some (.int (nI n)), some (.int (b2i b)), v4] [] := by
        intro b v4 Z' F' hb hM
        unfold supF at hr
        rw [hb] at hr
        refine q_iload_n hK 3 dX9_supports_73 rfl rfl ?_
        refine q_if_eq hK 79 dX9_supports_74 (by decide) (fun c74 => ?_) (fun c74 => ?_)
        · rw [(b2i_eq0 _).mp c74] at hr
          simp only [Bool.false_eq_true, if_false] at hr
          refine q_inc1 hK dX9_supports_79 rfl (by decide) ?_
          refine q_goto hK 20 dX9_supports_82 (by decide) ?_
          exact ih (n + 1) _ _ Z' F' (by omega) (by omega) hr hM
        · rw [(b2i_ne0 _).mp c74] at hr
          simp only [if_true] at hr
          refine q_iload_n hK 2 dX9_supports_77 rfl rfl ?_
          rw [← hr] at h
          exact q_iret hR dX9_supports_78 rfl ⟨_, rfl, h _ _ _ hM⟩
      have inner : ∀ m i Z' F', i + m = gC σ → MI Z' F' (sSt σ 0) → K (MM X Z' F' L g) 31 [some (rf X 0), some (.int (nI n0)), some (.int (nI n)), some (.int (b2i (allZ (gCr σ) n i))), some (.int (nI i))] [] := by
        intro m
        induction m with
        | zero =>
          intro i Z' F' hi hM
          obtain ⟨b1, b2, b3⟩ := hM.2.2.2.1
          have b2' : gC σ ≤ 5 := b2
          refine q_iload hK dX9_supports_31 rfl ?_
          refine q_aload_n hK 0 dX9_supports_33 rfl rfl ?_
          refine q_getf hK dX9_supports_34 fX9_162 (by decide) rfl rfl ?_
          rw [b1]
          refine q_icmp_ge hK 73 dX9_supports_37 (by decide) (fun c37 => ?_) (fun c37 => ?_)
          · exact fin _ _ Z' F' (by rw [show i = gC σ by omega]) hM
          · exact absurd ((nI_leI (by show gC σ < _; omega) (by omega)).mpr (by show gC σ ≤ i; omega)) c37
        | succ m ihm =>
          intro i Z' F' hi hM
          obtain ⟨b1, b2, b3⟩ := hM.2.2.2.1
          have b2' : gC σ ≤ 5 := b2
          refine q_iload hK dX9_supports_31 rfl ?_
          refine q_aload_n hK 0 dX9_supports_33 rfl rfl ?_
          refine q_getf hK dX9_supports_34 fX9_162 (by decide) rfl rfl ?_
          rw [b1]
          refine q_icmp_ge hK 73 dX9_supports_37 (by decide) (fun c37 => ?_) (fun c37 => ?_)
          · have := (nI_leI (a := gC σ) (b := i) (by omega) (by omega)).mp c37
            omega
          refine q_iload_n hK 3 dX9_supports_40 rfl rfl ?_
          refine q_if_eq hK 73 dX9_supports_41 (by decide) (fun c41 => ?_) (fun c41 => ?_)
          · have ez := (b2i_eq0 _).mp c41
            have hall : ∀ t, allZ (gCr σ) n (i + t) = false := by
              intro t
              induction t with
              | zero => exact ez
              | succ t iht =>
                show (allZ (gCr σ) n (i + t) && _) = false
                rw [iht]
                rfl
            have := hall (gC σ - i)
            rw [show i + (gC σ - i) = gC σ by omega] at this
            rw [ez]
            exact fin false _ Z' F' this hM
          have ez := (b2i_ne0 _).mp c41
          refine q_aload_n hK 0 dX9_supports_44 rfl rfl ?_
          refine q_aload_n hK 0 dX9_supports_45 rfl rfl ?_
          refine q_getf hK dX9_supports_46 fX9_38 (by decide) rfl rfl ?_
          refine q_bipush (v := nI 6) hK dX9_supports_49 (by decide) ?_
          refine q_iload hK dX9_supports_51 rfl ?_
          refine q_imul hK dX9_supports_53 ?_
          refine q_iload_n hK 2 dX9_supports_54 rfl rfl ?_
          rw [show nI 6 * nI i = nI (6 * i) from pk_mul 6 i]
          refine q_cVi3 hK dX9_supports_55 lX9_159 (by decide) (by decide) rfl (Nat.le_of_ble_eq_true rfl) (m_stepsOf (nm := 10) (a := 6 * i) (e := gCr σ i) hM.mok rfl (by decide) (by show 6 * i + 6 ≤ 36; omega) (fun k hk => (b3 i (by show i < gC σ; omega) k hk).1) (by omega) (by omega) (fun Z2 F2 z1 z2 z3 => ?_))
          have hM2 := hM.scr9 (sc56 z1) (z2.mono (by decide)) z3
          have hst : ∀ e : Vec, (∀ k, k < 6 → -(24 : Int) ≤ e k ∧ e k ≤ 24) → ∀ t : Nat, t ≤ 6 → -(9504 * (t : Int)) ≤ stN e n t ∧ stN e n t ≤ 9504 * (t : Int) := by
            intro e he t
            induction t with
            | zero => intro _; simp [stN]
            | succ t iht =>
              intro ht
              have q1 := iht (by omega)
              have q2 := he t (by omega)
              have q3 := mapv_pos (n := n) (k := t) (by omega) (by omega) (by omega)
              have q4 := mul_bd (x := e t) (y := (mapv n t : Int)) (s := 24) (t := 396) (by omega) (by omega) (by omega) (by omega)
              unfold stN
              omega
          have hb6 := hst (gCr σ i) (fun k hk => (b3 i (by show i < gC σ; omega) k hk).2) 6 (Nat.le_refl 6)
          refine q_if_ne hK 65 dX9_supports_58 (by decide) (fun c58 => ?_) (fun c58 => ?_)
          · have hne : ¬ stN (gCr σ i) n 6 = 0 := fun q => c58 ((jI_eq0 (by omega) (by omega)).mpr q)
            refine q_iconst (v := nI 0) hK dX9_supports_65 (by decide) ?_
            refine q_istore_n hK 3 dX9_supports_66 rfl (by decide) ?_
            refine q_inc1 hK dX9_supports_67 rfl (by decide) ?_
            refine q_goto hK 31 dX9_supports_70 (by decide) ?_
            have := ihm (i + 1) Z2 F2 (by omega) hM2
            rw [show allZ (gCr σ) n (i + 1) = false by simp [allZ, hne]] at this
            exact this
          · have heq := (jI_eq0 (by omega) (by omega)).mp c58
            refine q_iconst (v := nI 1) hK dX9_supports_61 (by decide) ?_
            refine q_goto hK 66 dX9_supports_62 (by decide) ?_
            refine q_istore_n hK 3 dX9_supports_66 rfl (by decide) ?_
            refine q_inc1 hK dX9_supports_67 rfl (by decide) ?_
            refine q_goto hK 31 dX9_supports_70 (by decide) ?_
            have := ihm (i + 1) Z2 F2 (by omega) hM2
            rw [show allZ (gCr σ) n (i + 1) = true by simp [allZ, heq, ez]] at this
            exact this
      exact inner (gC σ) 0 Z' F' (by omega) hM
  exact loop (100 - n0) n0 none none _ _ (by omega) hn1 hs hI0
end M11
