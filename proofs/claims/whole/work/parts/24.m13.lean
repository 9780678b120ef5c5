theorem ntA_inc {n : Nat} {nt : Nat → Vec} (hw : wfS n nt) (h0 : 0 < n) (j : Nat) : 0 < sgn (fun k => ntA n nt (j + 1) k - ntA n nt j k) := by
  obtain ⟨w1, w2⟩ := hw h0
  have hm : j % n < n := Nat.mod_lt _ h0
  have hdm := Nat.div_add_mod j n
  by_cases e : j % n + 1 = n
  · have hj : j + 1 = n * (j / n + 1) := by rw [Nat.mul_add, Nat.mul_one]; omega
    have h1 : (j + 1) % n = 0 := by rw [hj]; exact Nat.mul_mod_right _ _
    have h2 : (j + 1) / n = j / n + 1 := by rw [hj]; exact Nat.mul_div_cancel_left _ h0
    have := w2 (j % n) hm
    rw [e] at this
    rw [sgn_congr (b := fun k => nt n k - nt (j % n) k) (fun k hk => ?_)]
    · exact this
    · unfold ntA
      rw [h1, h2, w1 k hk, Int.natCast_add, Int.add_mul]
      simp only [Int.natCast_one, Int.one_mul]
      omega
  · have hj : j + 1 = (j % n + 1) + n * (j / n) := by omega
    have h1 : (j + 1) % n = j % n + 1 := by rw [hj, Nat.add_mul_mod_self_left]; exact Nat.mod_eq_of_lt (by omega)
    have h2 : (j + 1) / n = j / n := by rw [hj, Nat.add_mul_div_left _ _ h0, Nat.div_eq_of_lt (by omega)]; omega
    have := w2 (j % n) hm
    rw [sgn_congr (b := fun k => nt (j % n + 1) k - nt (j % n) k) (fun k hk => ?_)]
    · exact this
    · unfold ntA
      rw [h1, h2]
      omega
theorem ntA_lt {n i : Nat} {nt : Nat → Vec} (h : i < n) (k : Nat) : ntA n nt i k = nt i k := by
  unfold ntA
  rw [Nat.mod_eq_of_lt h, Nat.div_eq_of_lt h]
  simp
theorem ntA_n {n i : Nat} {nt : Nat → Vec} (h : i < n) (k : Nat) : ntA n nt (i + n) k = nt i k + nt n k := by
  unfold ntA
  rw [Nat.add_mod_right, Nat.mod_eq_of_lt h, Nat.add_div_right _ (by omega), Nat.div_eq_of_lt h]
  simp
def farM (n : Nat) (nt : Nat → Vec) (i : Nat) : Nat → Bool
  | 0 => false
  | m + 1 => farM n nt i m || farV 24 (stV n nt m i)
theorem farM_false {n : Nat} {nt : Nat → Vec} {i : Nat} : ∀ {m : Nat}, farM n nt i m = false → ∀ t, t < m → farV 24 (stV n nt t i) = false
  | 0, _, t, ht => by omega
  | m + 1, h, t, ht => by
    simp only [farM, Bool.or_eq_false_iff] at h
    by_cases e : t = m
    · rw [e]; exact h.2
    · exact farM_false h.1 t (by omega)
theorem farM_true {n : Nat} {nt : Nat → Vec} {i t : Nat} (h : farV 24 (stV n nt t i) = true) : ∀ {m : Nat}, t < m → farM n nt i m = true
  | 0, ht => by omega
  | m + 1, ht => by
    unfold farM
    by_cases e : t = m
    · rw [← e, h]; simp
    · rw [farM_true h (m := m) (by omega)]; rfl
def sp_mode (σ : Sg) (i : Int32) : Int32 × Sg :=
  if gN σ = 0 then (0, sSt σ 7)
  else if isIn i (gN σ) then
    if farM (gN σ) (gNt σ) i.toInt.toNat (gN σ) then (0, sSt σ 4)
    else (1, (0, gOn σ, gRow σ, gC σ, gCr σ, gN σ, (fun m => if m < gN σ then stV (gN σ) (gNt σ) m i.toInt.toNat else gNt σ m), σ.2.2.2.2.2.2.2))
  else (0, sSt σ 3)
theorem wf_mode {n i : Nat} {nt : Nat → Vec} (hw : wfS n nt) (hi : i < n) : wfS n (fun m => if m < n then stV n nt m i else nt m) := by
  intro h0
  refine ⟨fun k hk => ?_, fun m hm => ?_⟩
  · dsimp only
    rw [if_pos h0]
    unfold stV
    rw [Nat.add_zero, ntA_lt hi]
    omega
  · have := ntA_inc hw h0 (i + m)
    dsimp only
    rw [if_pos hm]
    by_cases e : m + 1 < n
    · rw [if_pos e, sgn_congr (b := fun k => ntA n nt (i + m + 1) k - ntA n nt (i + m) k) (fun k _ => by unfold stV; rw [← Nat.add_assoc]; omega)]
      exact this
    · have e2 : m + 1 = n := by omega
      rw [if_neg e, sgn_congr (b := fun k => ntA n nt (i + m + 1) k - ntA n nt (i + m) k) (fun k _ => by
        unfold stV
        rw [Nat.add_assoc i m 1, e2, ntA_n hi]
        omega)]
      exact this
def folF (n : Nat) (nt : Nat → Vec) (d : Nat) : Nat → Nat → Bool
  | 0, _ => true
  | f + 1, i => if stN (nt i) d 6 = (i : Int) then folF n nt d f (i + 1) else false
def sp_follows (σ : Sg) (d : Int32) : Int32 × Sg :=
  if gN σ = 0 then (-1, sSt σ 7)
  else if isDiv d then (b2i (folF (gN σ) (gNt σ) d.toInt.toNat (gN σ + 1) 0), sSt σ 0)
  else (-1, sSt σ 3)
theorem stN_bd {n : Nat} {e : Vec} (hn : 1 ≤ n) (hn2 : n ≤ 99) (he : ∀ k, k < 6 → -(24 : Int) ≤ e k ∧ e k ≤ 24) : ∀ t : Nat, t ≤ 6 → -(9504 * (t : Int)) ≤ stN e n t ∧ stN e n t ≤ 9504 * (t : Int)
  | 0, _ => by simp [stN]
  | t + 1, ht => by
    have q1 := stN_bd hn hn2 he t (by omega)
    have q2 := he t (by omega)
    have q3 := mapv_pos (n := n) (k := t) (by omega) (by omega) (by omega)
    have q4 := mul_bd (x := e t) (y := (mapv n t : Int)) (s := 24) (t := 396) (by omega) (by omega) (by omega) (by omega)
    unfold stN
    omega
-- ===== quotients
def qP (x y : Vec) (q : Nat) : Prop := farV 200 (fun k => x k - (q : Int) * y k) = true ∨ sgn (fun k => x k - (q : Int) * y k) < 0
noncomputable def qf (x y : Vec) : Nat := @dite _ (∃ k, qP x y k) (Classical.propDecidable _) (fun h => (pk_least _ h).choose) (fun _ => 0)
theorem qf_spec {x y : Vec} (h : ∃ k, qP x y k) : qP x y (qf x y) ∧ ∀ j, j < qf x y → ¬ qP x y j := by
  unfold qf
  rw [dif_pos h]
  exact (pk_least _ h).choose_spec
/-- quotient k of x and y; none: dim -/
noncomputable def quoS : Nat → Vec → Vec → Option Int
  | 0, x, y => if farV 200 (fun k => x k - (qf x y : Int) * y k) then none else some ((qf x y : Int) - 1)
  | m + 1, x, y => if farV 200 (fun k => x k - (qf x y : Int) * y k) then none else
    if sgn (fun k => x k - ((qf x y : Int) - 1) * y k) = 0 then some (-2) else quoS m y (fun k => x k - ((qf x y : Int) - 1) * y k)
noncomputable def sp_quotient (σ : Sg) (a b k : Int32) : Int32 × Sg :=
  if isIn a 16 && isIn b 16 then
    if onS σ a && onS σ b then
      if isIn k 20 then
        if decide (0 < sgn (rowS σ a)) && decide (0 < sgn (rowS σ b)) then
          match quoS k.toInt.toNat (rowS σ a) (rowS σ b) with
          | none => (-1, sSt σ 9)
          | some v => (jI v, sSt σ 0)
        else (-1, sSt σ 5)
      else (-1, sSt σ 3)
    else (-1, sSt σ 2)
  else (-1, sSt σ 1)
theorem qf_ex {x y : Vec} (hx : ∀ k, k < 6 → -200 ≤ x k ∧ x k ≤ 200) (hy : 0 < sgn y) : ∃ q, q ≤ 401 ∧ qP x y q := by
  have hne : ∃ j, j < 6 ∧ y j ≠ 0 := by
    rcases Classical.em (∃ j, j < 6 ∧ y j ≠ 0) with h | h
    · exact h
    · have : sgn y = 0 := sgn_one.mpr (fun k hk => Classical.byContradiction (fun z => h ⟨k, hk, z⟩))
      omega
  obtain ⟨j, hj, hj2⟩ := hne
  refine ⟨401, Nat.le_refl _, Or.inl ?_⟩
  cases hf : farV 200 (fun k => x k - ((401 : Nat) : Int) * y k)
  · have h1 := farV_false.mp hf j hj
    have h2 := hx j hj
    omega
  · rfl
theorem qf_facts {x y : Vec} (hx : ∀ k, k < 6 → -200 ≤ x k ∧ x k ≤ 200) (hx2 : 0 < sgn x) (hy : 0 < sgn y) : 1 ≤ qf x y ∧ qf x y ≤ 401 ∧ qP x y (qf x y) ∧ ∀ j, j < qf x y → ¬ qP x y j := by
  obtain ⟨q, hq, hq2⟩ := qf_ex hx hy
  obtain ⟨h1, h2⟩ := qf_spec ⟨q, hq2⟩
  refine ⟨?_, ?_, h1, h2⟩
  · rcases Nat.eq_zero_or_pos (qf x y) with z | z
    · exfalso
      rw [z] at h1
      rcases h1 with h1 | h1
      · have : farV 200 (fun k => x k - ((0 : Nat) : Int) * y k) = false := farV_false.mpr (fun k hk => by have := hx k hk; simp only [Int.natCast_zero, Int.zero_mul]; omega)
        rw [this] at h1
        cases h1
      · rw [sgn_congr (b := x) (fun k _ => by simp)] at h1
        omega
    · exact z
  · rcases Nat.lt_or_ge q (qf x y) with z | z
    · exact absurd hq2 (h2 q z)
    · omega
section M13
variable {X : Cx} {Z : Nat → Int32} {F : Nat → Nat → Int32} {L : Nat → Int64} {g : Mem}
theorem m_isDim {Q : Int32 → Mem → Prop} (h : Q (b2i (farN 200 (F 5) 6)) (MM X Z F L g)) : CallI X 0 yX9_isDim [rf X 0] (MM X Z F L g) Q := by
  refine CallM_intro (own := RX9) [some (rf X 0), none, none] wX9_isDim (by decide) (by decide) rfl (Nat.le_of_ble_eq_true rfl) rfl (fun K hK hR => ?_)
  refine q_iconst (v := nI 0) hK dX9_isDim_0 (by decide) ?_
  refine q_istore_n hK 1 dX9_isDim_1 rfl (by decide) ?_
  refine q_iconst (v := nI 0) hK dX9_isDim_2 (by decide) ?_
  refine q_istore_n hK 2 dX9_isDim_3 rfl (by decide) ?_
  have loop : ∀ m i, i + m = 6 → K (MM X Z F L g) 4 [some (rf X 0), some (.int (b2i (farN 200 (F 5) i))), some (.int (nI i))] [] := by
    intro m
    induction m with
    | zero =>
      intro i hi
      have : i = 6 := by omega
      subst this
      refine q_iload_n hK 2 dX9_isDim_4 rfl rfl ?_
      refine q_bipush (v := nI 6) hK dX9_isDim_5 (by decide) ?_
      refine q_icmp_ge hK 50 dX9_isDim_7 (by decide) (fun c7 => ?_) (fun c7 => ?_)
      · refine q_iload_n hK 1 dX9_isDim_50 rfl rfl ?_
        exact q_iret hR dX9_isDim_51 (nar_b _) ⟨_, rfl, h⟩
      · exact absurd ((nI_leI (by decide) (by decide)).mpr (by decide)) c7
    | succ m ih =>
      intro i hi
      refine q_iload_n hK 2 dX9_isDim_4 rfl rfl ?_
      refine q_bipush (v := nI 6) hK dX9_isDim_5 (by decide) ?_
      refine q_icmp_ge hK 50 dX9_isDim_7 (by decide) (fun c7 => ?_) (fun c7 => ?_)
      · have := (nI_leI (by decide) (by omega)).mp c7
        omega
      · have ih := ih (i + 1) (by omega)
        refine q_iload_n hK 1 dX9_isDim_10 rfl rfl ?_
        refine q_if_ne hK 38 dX9_isDim_11 (by decide) (fun c11 => ?_) (fun c11 => ?_)
        · refine q_iconst (v := nI 1) hK dX9_isDim_38 (by decide) ?_
          refine q_goto hK 43 dX9_isDim_39 (by decide) ?_
          refine q_istore_n hK 1 dX9_isDim_43 rfl (by decide) ?_
          refine q_inc1 hK dX9_isDim_44 rfl (by decide) ?_
          refine q_goto hK 4 dX9_isDim_47 (by decide) ?_
          rw [show farN 200 (F 5) (i + 1) = true by simp [farN, (b2i_ne0 _).mp c11]] at ih
          exact ih
        · refine q_aload_n hK 0 dX9_isDim_14 rfl rfl ?_
          refine q_getf hK dX9_isDim_15 fX9_23 (by decide) rfl rfl ?_
          refine q_iload_n hK 2 dX9_isDim_18 rfl rfl ?_
          refine qm_iald hK dX9_isDim_19 (n := 5) (k := i) rfl rfl (by show i < 6; omega) ?_
          refine q_sipush (v := jI (-200)) hK dX9_isDim_20 (by decide) ?_
          refine q_icmp_lt hK 38 dX9_isDim_23 (by decide) (fun c23 => ?_) (fun c23 => ?_)
          · refine q_iconst (v := nI 1) hK dX9_isDim_38 (by decide) ?_
            refine q_goto hK 43 dX9_isDim_39 (by decide) ?_
            refine q_istore_n hK 1 dX9_isDim_43 rfl (by decide) ?_
            refine q_inc1 hK dX9_isDim_44 rfl (by decide) ?_
            refine q_goto hK 4 dX9_isDim_47 (by decide) ?_
            rw [show farN 200 (F 5) (i + 1) = true by simp [farN]; exact Or.inl (Or.inr c23)] at ih
            exact ih
          · refine q_aload_n hK 0 dX9_isDim_26 rfl rfl ?_
            refine q_getf hK dX9_isDim_27 fX9_23 (by decide) rfl rfl ?_
            refine q_iload_n hK 2 dX9_isDim_30 rfl rfl ?_
            refine qm_iald hK dX9_isDim_31 (n := 5) (k := i) rfl rfl (by show i < 6; omega) ?_
            refine q_sipush (v := nI 200) hK dX9_isDim_32 (by decide) ?_
            refine q_icmp_le hK 42 dX9_isDim_35 (by decide) (fun c35 => ?_) (fun c35 => ?_)
            · refine q_iconst (v := nI 0) hK dX9_isDim_42 (by decide) ?_
              refine q_istore_n hK 1 dX9_isDim_43 rfl (by decide) ?_
              refine q_inc1 hK dX9_isDim_44 rfl (by decide) ?_
              refine q_goto hK 4 dX9_isDim_47 (by decide) ?_
              have e : ¬ nI 200 < F 5 i := Int32.not_lt.mpr c35
              rw [show farN 200 (F 5) (i + 1) = false by simp only [farN, (b2i_eq0 _).mp c11, Bool.false_or, Bool.or_eq_false_iff, decide_eq_false_iff_not]; exact ⟨c23, e⟩] at ih
              exact ih
            · refine q_iconst (v := nI 1) hK dX9_isDim_38 (by decide) ?_
              refine q_goto hK 43 dX9_isDim_39 (by decide) ?_
              refine q_istore_n hK 1 dX9_isDim_43 rfl (by decide) ?_
              refine q_inc1 hK dX9_isDim_44 rfl (by decide) ?_
              refine q_goto hK 4 dX9_isDim_47 (by decide) ?_
              have e : nI 200 < F 5 i := Int32.not_le.mp c35
              rw [show farN 200 (F 5) (i + 1) = true by simp [farN]; exact Or.inr e] at ih
              exact ih
  exact loop 6 0 rfl
theorem M_quotient {σ : Sg} {a b k : Int32} {Q : Int32 → Mem → Prop} (hI : MI Z F σ) (h : ∀ Z' F' L', MI Z' F' (sp_quotient σ a b k).2 → Q (sp_quotient σ a b k).1 (MM X Z' F' L' g)) : CallI X 9 yX9_quotient [rf X 0, .int a, .int b, .int k] (MM X Z F L g) Q := by
  refine CallM_intro (own := RX9) [some (rf X 0), some (.int a), some (.int b), some (.int k), none, none, none, none, none, none] wX9_quotient (by decide) (by decide) rfl (Nat.le_of_ble_eq_true rfl) rfl (fun K hK hR => ?_)
  have bad1 : (isIn a 16 && isIn b 16) = false → K (MM X Z F L g) 14 [some (rf X 0), some (.int a), some (.int b), some (.int k), none, none, none, none, none, none] [] := by
    intro hb
    simp only [sp_quotient, hb] at h
    refine q_aload_n hK 0 dX9_quotient_14 rfl rfl ?_
    refine q_iconst (v := nI 1) hK dX9_quotient_15 (by decide) ?_
    refine q_cVi1 hK dX9_quotient_16 lX9_136 (by decide) (by decide) rfl (Nat.le_of_ble_eq_true rfl) (m_none ?_)
    exact q_iret hR dX9_quotient_19 rfl ⟨_, rfl, h _ _ _ (hI.st 1)⟩
  refine q_iload_n hK 1 dX9_quotient_0 rfl rfl ?_
  refine q_cSi1 hK dX9_quotient_1 lX9_111 (by decide) (Nat.le_of_ble_eq_true rfl) (m_isShelf ?_)
  refine q_if_eq hK 14 dX9_quotient_4 (by decide) (fun c4 => ?_) (fun c4 => ?_)
  · exact bad1 (by simp [(b2i_eq0 _).mp c4])
  have ha := (b2i_ne0 _).mp c4
  refine q_iload_n hK 2 dX9_quotient_7 rfl rfl ?_
  refine q_cSi1 hK dX9_quotient_8 lX9_111 (by decide) (Nat.le_of_ble_eq_true rfl) (m_isShelf ?_)
  refine q_if_ne hK 20 dX9_quotient_11 (by decide) (fun c11 => ?_) (fun c11 => ?_)
  rotate_left
  · exact bad1 (by simp [(b2i_eq0 _).mp c11])
  have hb := (b2i_ne0 _).mp c11
  clear bad1
  obtain ⟨ia, ha1, rfl, ha2⟩ := isIn_ex ha (by decide)
  obtain ⟨ib, hb1, rfl, hb2⟩ := isIn_ex hb (by decide)
  simp only [sp_quotient, ha, hb, onS, rowS, ha2, hb2, Bool.and_self, if_true] at h
  have bad2 : (gOn σ ia && gOn σ ib) = false → K (MM X Z F L g) 38 [some (rf X 0), some (.int (nI ia)), some (.int (nI ib)), some (.int k), none, none, none, none, none, none] [] := by
    intro hb
    simp only [hb] at h
    refine q_aload_n hK 0 dX9_quotient_38 rfl rfl ?_
    refine q_iconst (v := nI 2) hK dX9_quotient_39 (by decide) ?_
    refine q_cVi1 hK dX9_quotient_40 lX9_136 (by decide) (by decide) rfl (Nat.le_of_ble_eq_true rfl) (m_none ?_)
    exact q_iret hR dX9_quotient_43 rfl ⟨_, rfl, h _ _ _ (hI.st 2)⟩
  refine q_aload_n hK 0 dX9_quotient_20 rfl rfl ?_
  refine q_getf hK dX9_quotient_21 fX9_13 (by decide) rfl rfl ?_
  refine q_iload_n hK 1 dX9_quotient_24 rfl rfl ?_
  refine qm_zald hK dX9_quotient_25 rfl ha1 ?_
  rw [hI.2.1 ia ha1]
  refine q_if_eq hK 38 dX9_quotient_26 (by decide) (fun c26 => ?_) (fun c26 => ?_)
  · exact bad2 (by simp [(b2i_eq0 _).mp c26])
  have oa := (b2i_ne0 _).mp c26
  refine q_aload_n hK 0 dX9_quotient_29 rfl rfl ?_
  refine q_getf hK dX9_quotient_30 fX9_13 (by decide) rfl rfl ?_
  refine q_iload_n hK 2 dX9_quotient_33 rfl rfl ?_
  refine qm_zald hK dX9_quotient_34 rfl hb1 ?_
  rw [hI.2.1 ib hb1]
  refine q_if_ne hK 44 dX9_quotient_35 (by decide) (fun c35 => ?_) (fun c35 => ?_)
  rotate_left
  · exact bad2 (by simp [(b2i_eq0 _).mp c35])
  have ob := (b2i_ne0 _).mp c35
  clear bad2
  simp only [oa, ob, Bool.and_self, if_true] at h
  have rA := hI.2.2.1 ia ha1 oa
  have rB := hI.2.2.1 ib hb1 ob
  have bad3 : isIn k 20 = false → K (MM X Z F L g) 54 [some (rf X 0), some (.int (nI ia)), some (.int (nI ib)), some (.int k), none, none, none, none, none, none] [] := by
    intro hb
    simp only [hb] at h
    refine q_aload_n hK 0 dX9_quotient_54 rfl rfl ?_
    refine q_iconst (v := nI 3) hK dX9_quotient_55 (by decide) ?_
    refine q_cVi1 hK dX9_quotient_56 lX9_136 (by decide) (by decide) rfl (Nat.le_of_ble_eq_true rfl) (m_none ?_)
    exact q_iret hR dX9_quotient_59 rfl ⟨_, rfl, h _ _ _ (hI.st 3)⟩
  refine q_iload_n hK 3 dX9_quotient_44 rfl rfl ?_
  refine q_if_lt hK 54 dX9_quotient_45 (by decide) (fun c45 => ?_) (fun c45 => ?_)
  · exact bad3 (by have := lt0_iff.mp c45; simp [isIn]; omega)
  refine q_iload_n hK 3 dX9_quotient_48 rfl rfl ?_
  refine q_bipush (v := nI 19) hK dX9_quotient_49 (by decide) ?_
  refine q_icmp_le hK 60 dX9_quotient_51 (by decide) (fun c51 => ?_) (fun c51 => ?_)
  rotate_left
  · exact bad3 (by have := mt (Int32.le_iff_toInt_le (x := k) (y := nI 19)).mpr c51; rw [nI_toInt (by decide)] at this; simp [isIn]; omega)
  have hk : isIn k 20 = true := by
    have h1 := mt lt0_iff.mpr c45
    have h2 := Int32.le_iff_toInt_le.mp c51
    rw [nI_toInt (by decide)] at h2
    simp [isIn]
    omega
  clear bad3
  obtain ⟨ik, hk1, rfl, hk2⟩ := isIn_ex hk (by decide)
  simp only [hk, hk2, if_true] at h
  have bad5 : ∀ Z1 F1, MI Z1 F1 σ → (decide (0 < sgn (gRow σ ia)) && decide (0 < sgn (gRow σ ib))) = false → K (MM X Z1 F1 L g) 76 [some (rf X 0), some (.int (nI ia)), some (.int (nI ib)), some (.int (nI ik)), none, none, none, none, none, none] [] := by
    intro Z1 F1 hI1 hb
    simp only [hb] at h
    refine q_aload_n hK 0 dX9_quotient_76 rfl rfl ?_
    refine q_iconst (v := nI 5) hK dX9_quotient_77 (by decide) ?_
    refine q_cVi1 hK dX9_quotient_78 lX9_136 (by decide) (by decide) rfl (Nat.le_of_ble_eq_true rfl) (m_none ?_)
    exact q_iret hR dX9_quotient_81 rfl ⟨_, rfl, h _ _ _ (hI1.st 5)⟩
  refine q_aload_n hK 0 dX9_quotient_60 rfl rfl ?_
  refine q_iload_n hK 1 dX9_quotient_61 rfl rfl ?_
  refine q_cVi1 hK dX9_quotient_62 lX9_126 (by decide) (by decide) rfl (Nat.le_of_ble_eq_true rfl) (m_isPeriod ha1 rA (fun Z1 F1 y1 y2 => ?_))
  have hI1 := hI.scr (sc56 y1) (sc345 y2)
  refine q_if_eq hK 76 dX9_quotient_65 (by decide) (fun c65 => ?_) (fun c65 => ?_)
  · exact bad5 _ _ hI1 (by simp [(b2i_eq0 _).mp c65])
  have pa := (b2i_ne0 _).mp c65
  refine q_aload_n hK 0 dX9_quotient_68 rfl rfl ?_
  refine q_iload_n hK 2 dX9_quotient_69 rfl rfl ?_
  refine q_cVi1 hK dX9_quotient_70 lX9_126 (by decide) (by decide) rfl (Nat.le_of_ble_eq_true rfl) (m_isPeriod (e := gRow σ ib) hb1 (by rw [y2 1 (by decide)]; exact rB) (fun Z2 F2 x1 x2 => ?_))
  have hI2 := hI1.scr (sc56 x1) (sc345 x2)
  refine q_if_ne hK 82 dX9_quotient_73 (by decide) (fun c73 => ?_) (fun c73 => ?_)
  rotate_left
  · exact bad5 _ _ hI2 (by simp [(b2i_eq0 _).mp c73])
  have pb := (b2i_ne0 _).mp c73
  clear bad5
  simp only [pa, pb, Bool.and_self, if_true] at h
  have e1 : F2 1 = F 1 := by rw [x2 1 (by decide), y2 1 (by decide)]
  refine q_aload_n hK 0 dX9_quotient_82 rfl rfl ?_
  refine q_aload_n hK 0 dX9_quotient_83 rfl rfl ?_
  refine q_getf hK dX9_quotient_84 fX9_60 (by decide) rfl rfl ?_
  refine q_aload_n hK 0 dX9_quotient_87 rfl rfl ?_
  refine q_getf hK dX9_quotient_88 fX9_7 (by decide) rfl rfl ?_
  refine q_bipush (v := nI 6) hK dX9_quotient_91 (by decide) ?_
  refine q_iload_n hK 1 dX9_quotient_93 rfl rfl ?_
  refine q_imul hK dX9_quotient_94 ?_
  rw [show nI 6 * nI ia = nI (6 * ia) from pk_mul 6 ia]
  refine q_cVv3 hK dX9_quotient_95 lX9_129 (by decide) (by decide) rfl (Nat.le_of_ble_eq_true rfl) (m_set6 (n := 17) (n2 := 1) (a := 6 * ia) rfl rfl rfl (by decide) (by show 6 * ia + 6 ≤ 96; omega) (fun f17 h17 => ?_))
  refine q_aload_n hK 0 dX9_quotient_98 rfl rfl ?_
  refine q_aload_n hK 0 dX9_quotient_99 rfl rfl ?_
  refine q_getf hK dX9_quotient_100 fX9_63 (by decide) rfl rfl ?_
  refine q_aload_n hK 0 dX9_quotient_103 rfl rfl ?_
  refine q_getf hK dX9_quotient_104 fX9_7 (by decide) rfl rfl ?_
  refine q_bipush (v := nI 6) hK dX9_quotient_107 (by decide) ?_
  refine q_iload_n hK 2 dX9_quotient_109 rfl rfl ?_
  refine q_imul hK dX9_quotient_110 ?_
  rw [show nI 6 * nI ib = nI (6 * ib) from pk_mul 6 ib]
  refine q_cVv3 hK dX9_quotient_111 lX9_129 (by decide) (by decide) rfl (Nat.le_of_ble_eq_true rfl) (m_set6 (n := 18) (n2 := 1) (a := 6 * ib) rfl rfl rfl (by decide) (by show 6 * ib + 6 ≤ 96; omega) (fun f18 h18 => ?_))
  refine q_aload_n hK 0 dX9_quotient_114 rfl rfl ?_
  refine q_iconst (v := nI 0) hK dX9_quotient_115 (by decide) ?_
  refine qm_put0 hK dX9_quotient_116 pX9_66 ?_
  refine q_iconst (v := nI 0) hK dX9_quotient_119 (by decide) ?_
  refine q_istore hK dX9_quotient_120 (by decide) ?_
  have hI3 : MI (va_up Z2 0 0) (va_up (va_up F2 17 f17) 18 f18) (sSt σ 0) := (hI2.st 0).scr eqo.rf ((eqo.rf.up (by decide)).up (by decide))
  have inner : ∀ (x y : Vec), (∀ k, k < 6 → -200 ≤ x k ∧ x k ≤ 200) → (∀ k, k < 6 → -200 ≤ y k ∧ y k ≤ 200) → 0 < sgn x → 0 < sgn y → (farV 200 (fun k => x k - (qf x y : Int) * y k) = true → quoS ik (gRow σ ia) (gRow σ ib) = none) → ∀ i v5 v6 v7 v8 v9 Z' F', i ≤ 20 → (∀ k, k < 6 → F' 17 k = jI (x k)) → (∀ k, k < 6 → F' 18 k = jI (y k)) → MI Z' F' (sSt σ 0) →
      (farV 200 (fun k => x k - (qf x y : Int) * y k) = false → ∀ (w6 : Int32) w7 w8 w9 Z2 F2, (∀ k, k < 6 → F2 17 k = jI (x k)) → (∀ k, k < 6 → F2 18 k = jI (y k)) → MI Z2 F2 (sSt σ 0) → K (MM X Z2 F2 L g) 203 [some (rf X 0), some (.int (nI ia)), some (.int (nI ib)), some (.int (nI ik)), some (.int (nI i)), some (.int (jI ((qf x y : Int) - 1))), some (.int w6), w7, w8, w9] []) →
      K (MM X Z' F' L g) 122 [some (rf X 0), some (.int (nI ia)), some (.int (nI ib)), some (.int (nI ik)), some (.int (nI i)), v5, v6, v7, v8, v9] [] := by
    intro x y hx hy sx sy hdim i v5 v6 v7 v8 v9 Z' F' hi hFx hFy hM hX
    obtain ⟨f1, f2, f3, f4⟩ := qf_facts hx sx sy
    have lq : ∀ d q sv w7 w8 w9 Z' F', qf x y - q = d → q ≤ qf x y → 0 ≤ sv → sv ≤ 1 → (∀ k, k < 6 → F' 17 k = jI (x k)) → (∀ k, k < 6 → F' 18 k = jI (y k)) → MI Z' F' (sSt σ 0) → K (MM X Z' F' L g) 128 [some (rf X 0), some (.int (nI ia)), some (.int (nI ib)), some (.int (nI ik)), some (.int (nI i)), some (.int (nI q)), some (.int (jI sv)), w7, w8, w9] [] := by
      intro d
      induction d using Nat.strongRecOn with
      | ind d ihd =>
        intro q sv w7 w8 w9 Z' F' hd hq s0 s1 hFx hFy hM
        refine q_iload hK dX9_quotient_128 rfl ?_
        refine q_if_lt hK 200 dX9_quotient_130 (by decide) (fun c130 => ?_) (fun c130 => ?_)
        · have := (jI_lt0 (by omega) (by omega)).mp c130
          omega
        refine q_iconst (v := nI 0) hK dX9_quotient_133 (by decide) ?_
        refine q_istore hK dX9_quotient_134 (by decide) ?_
        have hl : ∀ t j f, j + t = 6 → (∀ k, k < j → f k = jI (x k - (q : Int) * y k)) → K (MM X Z' (va_up F' 5 f) L g) 136 [some (rf X 0), some (.int (nI ia)), some (.int (nI ib)), some (.int (nI ik)), some (.int (nI i)), some (.int (nI q)), some (.int (jI sv)), some (.int (nI j)), w8, w9] [] := by
          intro t
          induction t with
          | zero =>
            intro j f hj hf
            have hf : ∀ k, k < 6 → f k = jI (x k - (q : Int) * y k) := fun k hk => hf k (by omega)
            have hbx : hasX f (fun k => x k - (q : Int) * y k) := fun k hk => by
              have b1 := hx k hk
              have b2 := hy k hk
              have b3 := mul_bd (x := (q : Int)) (y := y k) (s := 401) (t := 200) (by omega) (by omega) (by omega) (by omega)
              exact ⟨hf k hk, by dsimp only; omega, by dsimp only; omega⟩
            have hM1 : MI Z' (va_up F' 5 f) (sSt σ 0) := hM.scr eqo.rf (eqo.rf.up (by decide))
            refine q_iload hK dX9_quotient_136 rfl ?_
            refine q_bipush (v := nI 6) hK dX9_quotient_138 (by decide) ?_
            refine q_icmp_ge hK 174 dX9_quotient_140 (by decide) (fun c140 => ?_) (fun c140 => ?_)
            rotate_left
            · exact absurd ((nI_leI (by decide) (by omega)).mpr (by omega)) c140
            refine q_aload_n hK 0 dX9_quotient_174 rfl rfl ?_
            refine q_cVi0 hK dX9_quotient_175 lX9_209 (by decide) (by decide) rfl (Nat.le_of_ble_eq_true rfl) (m_isDim ?_)
            rw [up_same, farN_V (by decide) hbx]
            refine q_if_eq hK 188 dX9_quotient_178 (by decide) (fun c178 => ?_) (fun c178 => ?_)
            rotate_left
            · have hz := (b2i_ne0 _).mp c178
              have hqe : q = qf x y := by
                rcases Nat.lt_or_ge q (qf x y) with z | z
                · exact absurd (Or.inl hz) (f4 q z)
                · omega
              rw [hqe] at hz
              have hn := hdim hz
              rw [hn] at h
              refine q_aload_n hK 0 dX9_quotient_181 rfl rfl ?_
              refine q_bipush (v := nI 9) hK dX9_quotient_182 (by decide) ?_
              refine q_cVi1 hK dX9_quotient_184 lX9_136 (by decide) (by decide) rfl (Nat.le_of_ble_eq_true rfl) (m_none ?_)
              exact q_iret hR dX9_quotient_187 rfl ⟨_, rfl, h _ _ _ (hM1.st 9)⟩
            have hz := (b2i_eq0 _).mp c178
            have hnr := farV_false.mp hz
            refine q_aload_n hK 0 dX9_quotient_188 rfl rfl ?_
            refine q_cVi0 hK dX9_quotient_189 lX9_96 (by decide) (by decide) rfl (Nat.le_of_ble_eq_true rfl) (m_sign (e := fun k => x k - (q : Int) * y k) (fun k hk => by rw [up_same]; have := hnr k hk; exact ⟨hf k hk, by dsimp only; omega, by dsimp only; omega⟩) (fits_of (fun k hk => by have := hnr k hk; omega)) (fun Z2 F2 y1 y2 => ?_))
            have sr := sgn_range (fun k => x k - (q : Int) * y k)
            have hM2 : MI Z2 F2 (sSt σ 0) := hM1.scr (sc56 y1) (y2.mono (by decide))
            have e17 : ∀ k, k < 6 → F2 17 k = jI (x k) := fun k hk => by rw [y2 17 (by decide), up_ne (by decide)]; exact hFx k hk
            have e18 : ∀ k, k < 6 → F2 18 k = jI (y k) := fun k hk => by rw [y2 18 (by decide), up_ne (by decide)]; exact hFy k hk
            refine q_istore hK dX9_quotient_192 (by decide) ?_
            refine q_inc1 hK dX9_quotient_194 rfl (by decide) ?_
            refine q_goto hK 128 dX9_quotient_197 (by decide) ?_
            rcases Int.lt_or_le (sgn (fun k => x k - (q : Int) * y k)) 0 with sn | sp
            · have hqe : q = qf x y := by
                rcases Nat.lt_or_ge q (qf x y) with z | z
                · exact absurd (Or.inr sn) (f4 q z)
                · omega
              refine q_iload hK dX9_quotient_128 rfl ?_
              refine q_if_lt hK 200 dX9_quotient_130 (by decide) (fun c130 => ?_) (fun c130 => ?_)
              rotate_left
              · exact absurd ((jI_lt0 (by omega) (by omega)).mpr sn) c130
              refine q_iinc hK dX9_quotient_200 rfl (show _ = jI ((qf x y : Int) - 1) by rw [hqe, jI_nat, jI_add]; congr 1; omega) (by decide) ?_
              rw [hqe] at hz
              exact hX hz _ _ _ _ Z2 F2 e17 e18 hM2
            · have hlt : q < qf x y := by
                rcases Nat.lt_or_ge q (qf x y) with z | z
                · exact z
                · have hqe : q = qf x y := by omega
                  rw [← hqe] at f3
                  rcases f3 with z3 | z3
                  · rw [hz] at z3; cases z3
                  · omega
              exact ihd (qf x y - (q + 1)) (by omega) (q + 1) _ _ _ _ Z2 F2 rfl (by omega) sp (by omega) e17 e18 hM2
          | succ t iht =>
            intro j f hj hf
            refine q_iload hK dX9_quotient_136 rfl ?_
            refine q_bipush (v := nI 6) hK dX9_quotient_138 (by decide) ?_
            refine q_icmp_ge hK 174 dX9_quotient_140 (by decide) (fun c140 => ?_) (fun c140 => ?_)
            · have := (nI_leI (by decide) (by omega)).mp c140
              omega
            refine q_aload_n hK 0 dX9_quotient_143 rfl rfl ?_
            refine q_getf hK dX9_quotient_144 fX9_23 (by decide) rfl rfl ?_
            refine q_iload hK dX9_quotient_147 rfl ?_
            refine q_aload_n hK 0 dX9_quotient_149 rfl rfl ?_
            refine q_getf hK dX9_quotient_150 fX9_60 (by decide) rfl rfl ?_
            refine q_iload hK dX9_quotient_153 rfl ?_
            refine qm_iald hK dX9_quotient_155 (n := 17) (k := j) rfl rfl (by show j < 6; omega) ?_
            refine q_iload hK dX9_quotient_156 rfl ?_
            refine q_aload_n hK 0 dX9_quotient_158 rfl rfl ?_
            refine q_getf hK dX9_quotient_159 fX9_63 (by decide) rfl rfl ?_
            refine q_iload hK dX9_quotient_162 rfl ?_
            refine qm_iald hK dX9_quotient_164 (n := 18) (k := j) rfl rfl (by show j < 6; omega) ?_
            refine q_imul hK dX9_quotient_165 ?_
            refine q_isub hK dX9_quotient_166 ?_
            refine qm_iast hK dX9_quotient_167 (n := 5) (k := j) rfl rfl (by show j < 6; omega) ?_
            refine q_inc1 hK dX9_quotient_168 rfl (by decide) ?_
            refine q_goto hK 136 dX9_quotient_171 (by decide) ?_
            rw [up_up, up_same, up_ne (by decide : (17 : Nat) ≠ 5), up_ne (by decide : (18 : Nat) ≠ 5), hFx j (by omega), hFy j (by omega), jI_nat q, jI_mul, jI_sub, ← jI_nat q]
            refine iht (j + 1) _ (by omega) (fun k hk => ?_)
            by_cases e : k = j
            · rw [e, upd_same]
            · rw [upd_ne e]; exact hf k (by omega)
        have := hl 6 0 (F' 5) rfl (fun k hk => by omega)
        rw [up_id] at this
        exact this
    refine q_iconst (v := nI 0) hK dX9_quotient_122 (by decide) ?_
    refine q_istore hK dX9_quotient_123 (by decide) ?_
    refine q_iconst (v := nI 1) hK dX9_quotient_125 (by decide) ?_
    refine q_istore hK dX9_quotient_126 (by decide) ?_
    exact lq _ 0 1 _ _ _ Z' F' rfl (by omega) (by decide) (by decide) hFx hFy hM
  have outer : ∀ m i x y v5 v6 v7 v8 v9 Z' F', i + m = ik → (∀ k, k < 6 → -200 ≤ x k ∧ x k ≤ 200) → (∀ k, k < 6 → -200 ≤ y k ∧ y k ≤ 200) → 0 < sgn x → 0 < sgn y → (∀ k, k < 6 → F' 17 k = jI (x k)) → (∀ k, k < 6 → F' 18 k = jI (y k)) → MI Z' F' (sSt σ 0) → quoS m x y = quoS ik (gRow σ ia) (gRow σ ib) → K (MM X Z' F' L g) 122 [some (rf X 0), some (.int (nI ia)), some (.int (nI ib)), some (.int (nI ik)), some (.int (nI i)), v5, v6, v7, v8, v9] [] := by
    intro m
    induction m with
    | zero =>
      intro i x y v5 v6 v7 v8 v9 Z' F' hi hx hy sx sy hFx hFy hM hq
      refine inner x y hx hy sx sy (fun hz => ?_) i v5 v6 v7 v8 v9 Z' F' (by omega) hFx hFy hM (fun hz w6 w7 w8 w9 Z2 F2 u1 u2 u3 => ?_)
      · rw [← hq]; unfold quoS; simp [hz]
      · have hv : quoS ik (gRow σ ia) (gRow σ ib) = some ((qf x y : Int) - 1) := by rw [← hq]; unfold quoS; simp [hz]
        rw [hv] at h
        refine q_iload hK dX9_quotient_203 rfl ?_
        refine q_iload_n hK 3 dX9_quotient_205 rfl rfl ?_
        rw [show i = ik by omega]
        refine q_icmp_ne hK 212 dX9_quotient_206 (by decide) (fun c206 => ?_) (fun c206 => ?_)
        · exact absurd rfl c206
        refine q_iload hK dX9_quotient_209 rfl ?_
        exact q_iret hR dX9_quotient_211 rfl ⟨_, rfl, h _ _ _ u3⟩
    | succ m ih =>
      intro i x y v5 v6 v7 v8 v9 Z' F' hi hx hy sx sy hFx hFy hM hq
      obtain ⟨f1, f2, f3, f4⟩ := qf_facts hx sx sy
      refine inner x y hx hy sx sy (fun hz => ?_) i v5 v6 v7 v8 v9 Z' F' (by omega) hFx hFy hM (fun hz w6 w7 w8 w9 Z2 F2 u1 u2 u3 => ?_)
      · rw [← hq]; unfold quoS; simp [hz]
      · rw [quoS, hz] at hq
        simp only [Bool.false_eq_true, if_false] at hq
        refine q_iload hK dX9_quotient_203 rfl ?_
        refine q_iload_n hK 3 dX9_quotient_205 rfl rfl ?_
        refine q_icmp_ne hK 212 dX9_quotient_206 (by decide) (fun c206 => ?_) (fun c206 => ?_)
        rotate_left
        · have := (nI_eq (by omega) (by omega)).mp c206
          omega
        have hbd : ∀ k, k < 6 → -200 ≤ x k - ((qf x y : Int) - 1) * y k ∧ x k - ((qf x y : Int) - 1) * y k ≤ 200 := by
          have hn := f4 (qf x y - 1) (by omega)
          have : farV 200 (fun k => x k - ((qf x y - 1 : Nat) : Int) * y k) = false := by
            cases hz2 : farV 200 (fun k => x k - ((qf x y - 1 : Nat) : Int) * y k)
            · rfl
            · exact absurd (Or.inl hz2) hn
          intro k hk
          have := farV_false.mp this k hk
          rw [show ((qf x y - 1 : Nat) : Int) = (qf x y : Int) - 1 by omega] at this
          omega
        have hsg : 0 ≤ sgn (fun k => x k - ((qf x y : Int) - 1) * y k) := by
          have hn := f4 (qf x y - 1) (by omega)
          rcases Int.lt_or_le (sgn (fun k => x k - ((qf x y : Int) - 1) * y k)) 0 with z | z
          · exact absurd (Or.inr (by rw [show ((qf x y - 1 : Nat) : Int) = (qf x y : Int) - 1 by omega]; exact z)) hn
          · exact z
        refine q_iconst (v := nI 1) hK dX9_quotient_212 (by decide) ?_
        refine q_istore hK dX9_quotient_213 (by decide) ?_
        refine q_iconst (v := nI 0) hK dX9_quotient_215 (by decide) ?_
        refine q_istore hK dX9_quotient_216 (by decide) ?_
        have lp : ∀ t j fx fy w9, j + t = 6 → (∀ k, k < j → fx k = jI (y k) ∧ fy k = jI (x k - ((qf x y : Int) - 1) * y k)) → (∀ k, j ≤ k → k < 6 → fx k = jI (x k) ∧ fy k = jI (y k)) → K (MM X Z2 (va_up (va_up F2 17 fx) 18 fy) L g) 218 [some (rf X 0), some (.int (nI ia)), some (.int (nI ib)), some (.int (nI ik)), some (.int (nI i)), some (.int (jI ((qf x y : Int) - 1))), some (.int w6), some (.int (b2i (zerN fy j))), some (.int (nI j)), w9] [] := by
          intro t
          induction t with
          | zero =>
            intro j fx fy w9 hj p1 p2
            have : j = 6 := by omega
            subst this
            have hM2 : MI Z2 (va_up (va_up F2 17 fx) 18 fy) (sSt σ 0) := u3.scr eqo.rf ((eqo.rf.up (by decide)).up (by decide))
            have hone : zerN fy 6 = true ↔ sgn (fun k => x k - ((qf x y : Int) - 1) * y k) = 0 := by
              rw [zerN_all, sgn_one]
              constructor
              · intro z k hk
                have := z k hk
                rw [(p1 k hk).2] at this
                have bb := hbd k hk
                exact (jI_eq0 (by omega) (by omega)).mp this
              · intro z k hk
                rw [(p1 k hk).2, z k hk]
                rfl
            refine q_iload hK dX9_quotient_218 rfl ?_
            refine q_bipush (v := nI 6) hK dX9_quotient_220 (by decide) ?_
            refine q_icmp_ge hK 291 dX9_quotient_222 (by decide) (fun c222 => ?_) (fun c222 => ?_)
            rotate_left
            · exact absurd ((nI_leI (by decide) (by decide)).mpr (by decide)) c222
            refine q_iload hK dX9_quotient_291 rfl ?_
            refine q_if_eq hK 299 dX9_quotient_293 (by decide) (fun c293 => ?_) (fun c293 => ?_)
            · have hz0 : ¬ sgn (fun k => x k - ((qf x y : Int) - 1) * y k) = 0 := fun q => by
                have := hone.mpr q
                rw [this] at c293
                exact absurd c293 (by decide)
              simp only [hz0, if_false] at hq
              refine q_inc1 hK dX9_quotient_299 rfl (by decide) ?_
              refine q_goto hK 122 dX9_quotient_302 (by decide) ?_
              refine ih (i + 1) y (fun k => x k - ((qf x y : Int) - 1) * y k) _ _ _ _ _ Z2 _ (by omega) hy hbd sy (by omega) (fun k hk => ?_) (fun k hk => ?_) hM2 hq
              · rw [up_ne (by decide), up_same]; exact (p1 k hk).1
              · rw [up_same]; exact (p1 k hk).2
            · have hz0 := hone.mp ((b2i_ne0 _).mp c293)
              simp only [hz0, if_true] at hq
              rw [← hq] at h
              refine q_bipush (v := jI (-2)) hK dX9_quotient_296 (by decide) ?_
              exact q_iret hR dX9_quotient_298 rfl ⟨_, rfl, h _ _ _ hM2⟩
          | succ t iht =>
            intro j fx fy w9 hj p1 p2
            obtain ⟨q1, q2⟩ := p2 j (Nat.le_refl j) (by omega)
            refine q_iload hK dX9_quotient_218 rfl ?_
            refine q_bipush (v := nI 6) hK dX9_quotient_220 (by decide) ?_
            refine q_icmp_ge hK 291 dX9_quotient_222 (by decide) (fun c222 => ?_) (fun c222 => ?_)
            · have := (nI_leI (by decide) (by omega)).mp c222
              omega
            refine q_aload_n hK 0 dX9_quotient_225 rfl rfl ?_
            refine q_getf hK dX9_quotient_226 fX9_60 (by decide) rfl rfl ?_
            refine q_iload hK dX9_quotient_229 rfl ?_
            refine qm_iald hK dX9_quotient_231 (n := 17) (k := j) rfl rfl (by show j < 6; omega) ?_
            refine q_iload hK dX9_quotient_232 rfl ?_
            refine q_aload_n hK 0 dX9_quotient_234 rfl rfl ?_
            refine q_getf hK dX9_quotient_235 fX9_63 (by decide) rfl rfl ?_
            refine q_iload hK dX9_quotient_238 rfl ?_
            refine qm_iald hK dX9_quotient_240 (n := 18) (k := j) rfl rfl (by show j < 6; omega) ?_
            refine q_imul hK dX9_quotient_241 ?_
            refine q_isub hK dX9_quotient_242 ?_
            refine q_istore hK dX9_quotient_243 (by decide) ?_
            refine q_aload_n hK 0 dX9_quotient_245 rfl rfl ?_
            refine q_getf hK dX9_quotient_246 fX9_60 (by decide) rfl rfl ?_
            refine q_iload hK dX9_quotient_249 rfl ?_
            refine q_aload_n hK 0 dX9_quotient_251 rfl rfl ?_
            refine q_getf hK dX9_quotient_252 fX9_63 (by decide) rfl rfl ?_
            refine q_iload hK dX9_quotient_255 rfl ?_
            refine qm_iald hK dX9_quotient_257 (n := 18) (k := j) rfl rfl (by show j < 6; omega) ?_
            refine qm_iast hK dX9_quotient_258 (n := 17) (k := j) rfl rfl (by show j < 6; omega) ?_
            refine q_aload_n hK 0 dX9_quotient_259 rfl rfl ?_
            refine q_getf hK dX9_quotient_260 fX9_63 (by decide) rfl rfl ?_
            refine q_iload hK dX9_quotient_263 rfl ?_
            refine q_iload hK dX9_quotient_265 rfl ?_
            refine qm_iast hK dX9_quotient_267 (n := 18) (k := j) rfl rfl (by show j < 6; omega) ?_
            simp only [up_same, up_ne (show (17 : Nat) ≠ 18 by decide), up_ne (show (18 : Nat) ≠ 17 by decide)]
            rw [q1, q2, jI_mul, jI_sub]
            have hmem : va_up (va_up (va_up (va_up F2 17 fx) 18 fy) 17 (upd fx j (jI (y j)))) 18 (upd fy j (jI (x j - ((qf x y : Int) - 1) * y j))) = va_up (va_up F2 17 (upd fx j (jI (y j)))) 18 (upd fy j (jI (x j - ((qf x y : Int) - 1) * y j))) := by
              rw [up_comm _ (by decide : (18 : Nat) ≠ 17), up_up, up_up]
            rw [hmem]
            have hzn : zerN (upd fy j (jI (x j - ((qf x y : Int) - 1) * y j))) (j + 1) = (zerN fy j && decide (jI (x j - ((qf x y : Int) - 1) * y j) = 0)) := by
              have : ∀ n, n ≤ j → zerN (upd fy j (jI (x j - ((qf x y : Int) - 1) * y j))) n = zerN fy n := by
                intro n
                induction n with
                | zero => intro _; rfl
                | succ n ihn =>
                  intro hn
                  unfold zerN
                  rw [ihn (by omega), upd_ne (by omega)]
              rw [show zerN (upd fy j (jI (x j - ((qf x y : Int) - 1) * y j))) (j + 1) = (zerN (upd fy j (jI (x j - ((qf x y : Int) - 1) * y j))) j && decide (upd fy j (jI (x j - ((qf x y : Int) - 1) * y j)) j = 0)) from rfl, this j (Nat.le_refl j), upd_same]
            have nx := iht (j + 1) (upd fx j (jI (y j))) (upd fy j (jI (x j - ((qf x y : Int) - 1) * y j))) (some (.int (jI (x j - ((qf x y : Int) - 1) * y j)))) (by omega) (fun k hk => by
              by_cases e : k = j
              · rw [e, upd_same, upd_same]; exact ⟨rfl, rfl⟩
              · rw [upd_ne e, upd_ne e]; exact p1 k (by omega)) (fun k k1 k2 => by rw [upd_ne (by omega), upd_ne (by omega)]; exact p2 k (by omega) k2)
            rw [hzn] at nx
            refine q_iload hK dX9_quotient_268 rfl ?_
            refine q_if_eq hK 282 dX9_quotient_270 (by decide) (fun c270 => ?_) (fun c270 => ?_)
            · rw [(b2i_eq0 _).mp c270] at nx
              refine q_iconst (v := nI 0) hK dX9_quotient_282 (by decide) ?_
              refine q_istore hK dX9_quotient_283 (by decide) ?_
              refine q_inc1 hK dX9_quotient_285 rfl (by decide) ?_
              refine q_goto hK 218 dX9_quotient_288 (by decide) ?_
              exact nx
            · rw [(b2i_ne0 _).mp c270] at nx
              refine q_iload hK dX9_quotient_273 rfl ?_
              refine q_if_ne hK 282 dX9_quotient_275 (by decide) (fun c275 => ?_) (fun c275 => ?_)
              · rw [show decide (jI (x j - ((qf x y : Int) - 1) * y j) = 0) = false by simpa using c275] at nx
                refine q_iconst (v := nI 0) hK dX9_quotient_282 (by decide) ?_
                refine q_istore hK dX9_quotient_283 (by decide) ?_
                refine q_inc1 hK dX9_quotient_285 rfl (by decide) ?_
                refine q_goto hK 218 dX9_quotient_288 (by decide) ?_
                exact nx
              · rw [show decide (jI (x j - ((qf x y : Int) - 1) * y j) = 0) = true by simpa using c275] at nx
                refine q_iconst (v := nI 1) hK dX9_quotient_278 (by decide) ?_
                refine q_goto hK 283 dX9_quotient_279 (by decide) ?_
                refine q_istore hK dX9_quotient_283 (by decide) ?_
                refine q_inc1 hK dX9_quotient_285 rfl (by decide) ?_
                refine q_goto hK 218 dX9_quotient_288 (by decide) ?_
                exact nx
        have := lp 6 0 (F2 17) (F2 18) w9 rfl (fun k hk => by omega) (fun k _ hk => ⟨u1 k hk, u2 k hk⟩)
        rw [up_id, up_id] at this
        exact this
  refine outer ik 0 (gRow σ ia) (gRow σ ib) none none none none none _ _ (by omega) (fun k hk => by have := rA k hk; omega) (fun k hk => by have := rB k hk; omega) (by simpa using pa) (by simpa using pb) (fun k hk => ?_) (fun k hk => ?_) hI3 rfl
  · rw [up_ne (by decide), up_same, h17 k hk, e1]; exact (rA k hk).1
  · rw [up_same, h18 k hk, up_ne (by decide), e1]; exact (rB k hk).1
end M13
