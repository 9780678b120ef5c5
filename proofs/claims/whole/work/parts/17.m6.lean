-- ===== folding
theorem sgn_mul {a p : Vec} (ha : 0 ≤ sgn a) (hp : 0 < sgn p) : ∀ m : Nat, 0 ≤ sgn (fun k => a k + (m : Int) * p k)
  | 0 => by rw [sgn_congr (b := a) (fun k _ => by simp)]; exact ha
  | m + 1 => by
    have h1 := sgn_add (sgn_mul ha hp m) hp
    rw [sgn_congr (b := fun k => (a k + (m : Int) * p k) + p k) (fun k _ => by
      have : ((m + 1 : Nat) : Int) * p k = (m : Int) * p k + p k := by rw [Int.natCast_add, Int.add_mul]; simp
      omega)]
    omega
/-- the power k folds a into p, and what comes is near -/
def good (a p : Vec) (k : Int) : Prop := farV 24 (fun j => a j + k * p j) = false ∧ 0 ≤ sgn (fun j => a j + k * p j) ∧ sgn (fun j => a j + (k - 1) * p j) < 0
theorem good_le {a p : Vec} {k k' : Int} (hp : 0 < sgn p) (h1 : 0 ≤ sgn (fun j => a j + k * p j)) (h2 : sgn (fun j => a j + (k' - 1) * p j) < 0) : k' ≤ k := by
  rcases Int.lt_or_le k k' with q | q
  · exfalso
    have h3 := sgn_mul h1 hp (k' - 1 - k).toNat
    rw [sgn_congr (b := fun j => a j + (k' - 1) * p j) (fun j _ => by
      have e : ((k' - 1 - k).toNat : Int) = k' - 1 - k := Int.toNat_of_nonneg (by omega)
      rw [e, Int.sub_mul (k' - 1) k (p j)]
      omega)] at h3
    omega
  · exact q
theorem good_uniq {a p : Vec} {k k' : Int} (hp : 0 < sgn p) (h : good a p k) (h' : good a p k') : k = k' := by
  have h1 := good_le hp h.2.1 h'.2.2
  have h2 := good_le hp h'.2.1 h.2.2
  omega
noncomputable def foldv (a p : Vec) : Option Vec := @dite _ (∃ k, good a p k) (Classical.propDecidable _) (fun h => some (fun j => a j + h.choose * p j)) (fun _ => none)
theorem foldv_some {a p : Vec} {k : Int} (hp : 0 < sgn p) (h : good a p k) : foldv a p = some (fun j => a j + k * p j) := by
  have hx : ∃ k, good a p k := ⟨k, h⟩
  unfold foldv
  rw [dif_pos hx, good_uniq hp hx.choose_spec h]
theorem foldv_none {a p : Vec} (h : ∀ k, ¬ good a p k) : foldv a p = none := by
  unfold foldv
  rw [dif_neg]
  rintro ⟨k, hk⟩
  exact h k hk
theorem foldv_spec {a p r : Vec} (hp : 0 < sgn p) (h : foldv a p = some r) : ∃ k, good a p k ∧ r = fun j => a j + k * p j := by
  by_cases hx : ∃ k, good a p k
  · obtain ⟨k, hk⟩ := hx
    rw [foldv_some hp hk] at h
    exact ⟨k, hk, (Option.some.inj h).symm⟩
  · rw [foldv_none (fun k hk => hx ⟨k, hk⟩)] at h
    cases h
theorem ediv_neg' {a b : Int} (hb : 0 < b) : a / b = -((b - 1 - a) / b) := by
  have h1 := Int.mul_ediv_add_emod (b - 1 - a) b
  have h2 := Int.emod_nonneg (b - 1 - a) (by omega : b ≠ 0)
  have h3 := Int.emod_lt_of_pos (b - 1 - a) hb
  generalize (b - 1 - a) / b = q at *
  generalize (b - 1 - a) % b = r at *
  have h4 : a = b * (-q) + (b - 1 - r) := by
    rw [Int.mul_neg]
    omega
  rw [h4, Int.add_comm, Int.add_mul_ediv_left _ _ (by omega), Int.ediv_eq_zero_of_lt (by omega) (by omega)]
  omega
theorem jI_div {a b : Int} (h0 : 0 ≤ a) (h1 : a < 2147483648) (h2 : 0 < b) (h3 : b < 2147483648) : jI a / jI b = jI (a / b) := by
  rw [jI_of_nat h0, jI_of_nat (by omega : 0 ≤ b), pk_div (by omega) (by omega) (by omega), jI_nat]
  congr 1
  rw [Int.natCast_ediv, Int.toNat_of_nonneg h0, Int.toNat_of_nonneg (by omega)]
theorem jI_ne0 {b : Int} (h1 : -2147483648 ≤ b) (h2 : b < 2147483648) (h : b ≠ 0) : ¬ jI b = 0 := fun q => h ((jI_eq (b := 0) h1 h2 (by decide) (by decide)).mp q)
theorem jI_lt0 {b : Int} (h1 : -2147483648 ≤ b) (h2 : b < 2147483648) : jI b < 0 ↔ b < 0 := jI_lt (b := 0) h1 h2 (by decide) (by decide)
theorem jI_le0 {b : Int} (h1 : -2147483648 ≤ b) (h2 : b < 2147483648) : jI b ≤ 0 ↔ b ≤ 0 := jI_le (b := 0) h1 h2 (by decide) (by decide)
theorem jI_0le {b : Int} (h1 : -2147483648 ≤ b) (h2 : b < 2147483648) : 0 ≤ jI b ↔ 0 ≤ b := jI_le (a := 0) (by decide) (by decide) h1 h2
theorem jI_eq0 {b : Int} (h1 : -2147483648 ≤ b) (h2 : b < 2147483648) : jI b = 0 ↔ b = 0 := jI_eq (b := 0) h1 h2 (by decide) (by decide)
theorem jI_0lt {b : Int} (h1 : -2147483648 ≤ b) (h2 : b < 2147483648) : 0 < jI b ↔ 0 < b := jI_lt (a := 0) (by decide) (by decide) h1 h2
section M6
variable {X : Cx} {Z : Nat → Int32} {F : Nat → Nat → Int32} {L : Nat → Int64} {g : Mem}
theorem m_down {a b : Int} {g : Mem} {Q : Int32 → Mem → Prop} (h1 : -100000 ≤ a) (h2 : a ≤ 100000) (h3 : 0 < b) (h4 : b ≤ 100000) (h : Q (jI (a / b)) g) : CallI X 0 yX9_down [.int (jI a), .int (jI b)] g Q := by
  refine CallM_intro (own := RX9) [some (.int (jI a)), some (.int (jI b))] wX9_down (by decide) (by decide) rfl (Nat.le_of_ble_eq_true rfl) rfl (fun K hK hR => ?_)
  refine q_iload_n hK 0 dX9_down_0 rfl rfl ?_
  refine q_if_lt hK 10 dX9_down_1 (by decide) (fun c1 => ?_) (fun c1 => ?_)
  · have ha := (jI_lt0 (by omega) (by omega)).mp c1
    refine q_iload_n hK 1 dX9_down_10 rfl rfl ?_
    refine q_iconst (v := nI 1) hK dX9_down_11 (by decide) ?_
    refine q_isub hK dX9_down_12 ?_
    refine q_iload_n hK 0 dX9_down_13 rfl rfl ?_
    refine q_isub hK dX9_down_14 ?_
    refine q_iload_n hK 1 dX9_down_15 rfl rfl ?_
    rw [jI_nat 1, jI_sub, jI_sub]
    refine q_idiv hK dX9_down_16 (jI_ne0 (by omega) (by omega) (by omega)) ?_
    refine q_ineg hK dX9_down_17 ?_
    rw [jI_div (by omega) (by omega) (by omega) (by omega), jI_neg, show ((1 : Nat) : Int) = 1 from rfl, ← ediv_neg' h3]
    exact q_iret hR dX9_down_18 rfl ⟨_, rfl, h⟩
  · have ha := mt (jI_lt0 (b := a) (by omega) (by omega)).mpr c1
    refine q_iload_n hK 0 dX9_down_4 rfl rfl ?_
    refine q_iload_n hK 1 dX9_down_5 rfl rfl ?_
    refine q_idiv hK dX9_down_6 (jI_ne0 (by omega) (by omega) (by omega)) ?_
    refine q_goto hK 18 dX9_down_7 (by decide) ?_
    rw [jI_div (by omega) (by omega) (by omega) (by omega)]
    exact q_iret hR dX9_down_18 rfl ⟨_, rfl, h⟩
theorem m_powered {a p : Vec} {k : Int} {Q : Mem → Prop} (ha : ∀ j, j < 6 → F 6 j = jI (a j)) (hp : ∀ j, j < 6 → F 7 j = jI (p j)) (h : ∀ f, (∀ j, j < 6 → f j = jI (a j + k * p j)) → Q (MM X Z (va_up F 5 f) L g)) : CallV X 0 yX9_powered [rf X 0, .int (jI k)] (MM X Z F L g) Q := by
  refine CallM_intro (own := RX9) [some (rf X 0), some (.int (jI k)), none] wX9_powered (by decide) (by decide) rfl (Nat.le_of_ble_eq_true rfl) rfl (fun K hK hR => ?_)
  refine q_iconst (v := nI 0) hK dX9_powered_0 (by decide) ?_
  refine q_istore_n hK 2 dX9_powered_1 rfl (by decide) ?_
  have loop : ∀ m i f, i + m = 6 → (∀ j, j < i → f j = jI (a j + k * p j)) → K (MM X Z (va_up F 5 f) L g) 2 [some (rf X 0), some (.int (jI k)), some (.int (nI i))] [] := by
    intro m
    induction m with
    | zero =>
      intro i f hi hf
      refine q_iload_n hK 2 dX9_powered_2 rfl rfl ?_
      refine q_bipush (v := nI 6) hK dX9_powered_3 (by decide) ?_
      refine q_icmp_ge hK 35 dX9_powered_5 (by decide) (fun c5 => ?_) (fun c5 => ?_)
      · exact q_vret hR dX9_powered_35 ⟨rfl, h f (fun k hk => hf k (by omega))⟩
      · exact absurd ((nI_leI (by decide) (by omega)).mpr (by omega)) c5
    | succ m ih =>
      intro i f hi hf
      refine q_iload_n hK 2 dX9_powered_2 rfl rfl ?_
      refine q_bipush (v := nI 6) hK dX9_powered_3 (by decide) ?_
      refine q_icmp_ge hK 35 dX9_powered_5 (by decide) (fun c5 => ?_) (fun c5 => ?_)
      · have := (nI_leI (by decide) (by omega)).mp c5
        omega
      · refine q_aload_n hK 0 dX9_powered_8 rfl rfl ?_
        refine q_getf hK dX9_powered_9 fX9_23 (by decide) rfl rfl ?_
        refine q_iload_n hK 2 dX9_powered_12 rfl rfl ?_
        refine q_aload_n hK 0 dX9_powered_13 rfl rfl ?_
        refine q_getf hK dX9_powered_14 fX9_26 (by decide) rfl rfl ?_
        refine q_iload_n hK 2 dX9_powered_17 rfl rfl ?_
        refine qm_iald hK dX9_powered_18 (n := 6) (k := i) rfl rfl (by show i < 6; omega) ?_
        refine q_iload_n hK 1 dX9_powered_19 rfl rfl ?_
        refine q_aload_n hK 0 dX9_powered_20 rfl rfl ?_
        refine q_getf hK dX9_powered_21 fX9_29 (by decide) rfl rfl ?_
        refine q_iload_n hK 2 dX9_powered_24 rfl rfl ?_
        refine qm_iald hK dX9_powered_25 (n := 7) (k := i) rfl rfl (by show i < 6; omega) ?_
        refine q_imul hK dX9_powered_26 ?_
        refine q_iadd hK dX9_powered_27 ?_
        refine qm_iast hK dX9_powered_28 (n := 5) (k := i) rfl rfl (by show i < 6; omega) ?_
        refine q_inc1 hK dX9_powered_29 rfl (by decide) ?_
        refine q_goto hK 2 dX9_powered_32 (by decide) ?_
        rw [up_up, up_same, up_ne (by decide : (6 : Nat) ≠ 5), up_ne (by decide : (7 : Nat) ≠ 5), ha i (by omega), hp i (by omega), jI_mul, jI_add]
        refine ih (i + 1) _ (by omega) (fun j hj => ?_)
        by_cases e : j = i
        · rw [e, upd_same]
        · rw [upd_ne e]
          exact hf j (by omega)
  have := loop 6 0 (F 5) rfl (fun k hk => by omega)
  rw [up_id] at this
  exact this
theorem m_folds {a p : Vec} {Q : Int32 → Mem → Prop} (ha : has6 (F 6) a 600) (hp : has6 (F 7) p 24) (hs : 0 < sgn p) (hQ : ∀ Z' F', eqo [5, 6] Z Z' → eqo [3, 4, 5] F F' → (∀ r, foldv a p = some r → (∀ j, j < 6 → F' 5 j = jI (r j)) → Q 1 (MM X Z' F' L g)) ∧ (foldv a p = none → Q 0 (MM X Z' F' L g))) : CallI X 3 yX9_folds [rf X 0] (MM X Z F L g) Q := by
  have hne : ∃ q, q < 6 ∧ p q ≠ 0 := by
    rcases Classical.em (∃ q, q < 6 ∧ p q ≠ 0) with h | h
    · exact h
    · have : sgn p = 0 := sgn_one.mpr (fun k hk => Classical.byContradiction (fun z => h ⟨k, hk, z⟩))
      omega
  obtain ⟨q0, hq0, hq1⟩ := hne
  refine CallM_intro (own := RX9) [some (rf X 0), none, none, none, none, none] wX9_folds (by decide) (by decide) rfl (Nat.le_of_ble_eq_true rfl) rfl (fun K hK hR => ?_)
  refine q_iconst (v := nI 0) hK dX9_folds_0 (by decide) ?_
  refine q_istore_n hK 1 dX9_folds_1 rfl (by decide) ?_
  -- the scan, from a power on
  have scan : ∀ (m : Nat) (k fst lst : Int) (its : Int32) (q : Nat) (Z' : Nat → Int32) (F' : Nat → Nat → Int32), eqo [5, 6] Z Z' → eqo [3, 4, 5] F F' → -2000 ≤ k → -2000 ≤ lst → lst ≤ 2000 → k ≤ 3000 → (lst + 1 - k).toNat = m → (∀ k', good a p k' → fst ≤ k' ∧ k' ≤ lst) → (∀ k', fst ≤ k' → k' < k → ¬ good a p k') → K (MM X Z' F' L g) 100 [some (rf X 0), some (.int (nI q)), some (.int its), some (.int (jI fst)), some (.int (jI lst)), some (.int (jI k))] [] := by
    intro m
    induction m with
    | zero =>
      intro k fst lst its q Z' F' z1 z2 b1 b2 b3 b4 hm hg hb
      refine q_iload hK dX9_folds_100 rfl ?_
      refine q_iload hK dX9_folds_102 rfl ?_
      refine q_icmp_gt hK 163 dX9_folds_104 (by decide) (fun c104 => ?_) (fun c104 => ?_)
      · refine q_iconst (v := nI 0) hK dX9_folds_163 (by decide) ?_
        exact q_iret hR dX9_folds_164 rfl ⟨_, rfl, (hQ Z' F' z1 z2).2 (foldv_none (fun k' hk' => by have := hg k' hk'; exact hb k' this.1 (by omega) hk'))⟩
      · exact absurd ((jI_lt (by omega) (by omega) (by omega) (by omega)).mpr (by omega)) c104
    | succ m ih =>
      intro k fst lst its q Z' F' z1 z2 b1 b2 b3 b4 hm hg hb
      refine q_iload hK dX9_folds_100 rfl ?_
      refine q_iload hK dX9_folds_102 rfl ?_
      refine q_icmp_gt hK 163 dX9_folds_104 (by decide) (fun c104 => ?_) (fun c104 => ?_)
      · have := (jI_lt (by omega) (by omega) (by omega) (by omega)).mp c104
        omega
      · have e6 : ∀ j, j < 6 → F' 6 j = jI (a j) := fun j hj => by rw [z2 6 (by decide)]; exact (ha j hj).1
        have e7 : ∀ j, j < 6 → F' 7 j = jI (p j) := fun j hj => by rw [z2 7 (by decide)]; exact (hp j hj).1
        have next : ∀ Z2 F2, eqo [5, 6] Z Z2 → eqo [3, 4, 5] F F2 → ¬ good a p k → K (MM X Z2 F2 L g) 157 [some (rf X 0), some (.int (nI q)), some (.int its), some (.int (jI fst)), some (.int (jI lst)), some (.int (jI k))] [] := by
          intro Z2 F2 y1 y2 hng
          refine q_iinc hK dX9_folds_157 rfl (show _ = jI (k + 1) from jI_add k 1) (by decide) ?_
          refine q_goto hK 100 dX9_folds_160 (by decide) ?_
          refine ih (k + 1) fst lst its q Z2 F2 y1 y2 (by omega) b2 b3 (by omega) (by omega) hg (fun k' h1 h2 => ?_)
          by_cases e : k' = k
          · rw [e]; exact hng
          · exact hb k' h1 (by omega)
        refine q_aload_n hK 0 dX9_folds_107 rfl rfl ?_
        refine q_iload hK dX9_folds_108 rfl ?_
        refine q_cVv1 hK dX9_folds_110 lX9_122 (by decide) (by decide) rfl (Nat.le_of_ble_eq_true rfl) (m_powered (k := k) e6 e7 (fun f hf => ?_))
        have hX : hasX f (fun j => a j + k * p j) := fun j hj => by
          have q1 := (ha j hj).2
          have q2 := (hp j hj).2
          have q3 := mul_bd (x := k) (y := p j) (s := 3000) (t := 24) (by omega) (by omega) (by omega) (by omega)
          exact ⟨hf j hj, by dsimp only; omega, by dsimp only; omega⟩
        refine q_aload_n hK 0 dX9_folds_113 rfl rfl ?_
        refine q_cVi0 hK dX9_folds_114 lX9_100 (by decide) (by decide) rfl (Nat.le_of_ble_eq_true rfl) (m_isFar ?_)
        rw [up_same, farN_V (by decide) hX]
        refine q_if_ne hK 157 dX9_folds_117 (by decide) (fun c117 => ?_) (fun c117 => ?_)
        · refine next _ _ z1 (z2.up (by decide)) (fun z => ?_)
          rw [z.1] at c117
          exact c117 rfl
        · have hnf := (b2i_eq0 _).mp c117
          have hnr := farV_false.mp hnf
          refine q_aload_n hK 0 dX9_folds_120 rfl rfl ?_
          refine q_cVi0 hK dX9_folds_121 lX9_96 (by decide) (by decide) rfl (Nat.le_of_ble_eq_true rfl) (m_sign (e := fun j => a j + k * p j) ?_ ?_ (fun Z2 F2 y1 y2 => ?_))
          · intro j hj
            have := hnr j hj
            rw [up_same]
            exact ⟨hf j hj, by dsimp only; omega, by dsimp only; omega⟩
          · exact fits_of (fun j hj => by have := hnr j hj; omega)
          have sr := sgn_range (fun j => a j + k * p j)
          have y1' : eqo [5, 6] Z Z2 := z1.tr y1
          have y2' : eqo [3, 4, 5] F F2 := fun j hj => by rw [y2 j (by simp at hj ⊢; omega), up_ne (by simp at hj; omega)]; exact z2 j hj
          refine q_if_ge hK 130 dX9_folds_124 (by decide) (fun c124 => ?_) (fun c124 => ?_)
          · have hge := (jI_0le (by omega) (by omega)).mp c124
            refine q_aload_n hK 0 dX9_folds_130 rfl rfl ?_
            refine q_aload_n hK 0 dX9_folds_131 rfl rfl ?_
            refine q_getf hK dX9_folds_132 fX9_29 (by decide) rfl rfl ?_
            refine q_iconst (v := nI 0) hK dX9_folds_135 (by decide) ?_
            refine q_cVv2 hK dX9_folds_136 lX9_93 (by decide) (by decide) rfl (Nat.le_of_ble_eq_true rfl) (m_less (n := 7) (a := 0) rfl (by decide) (by decide) (fun f2 hf2 => ?_))
            have e5 : F2 5 = f := by rw [y2 5 (by decide), up_same]
            have h7 : F2 7 = F 7 := y2' 7 (by decide)
            have hf2' : ∀ j, j < 6 → f2 j = jI (a j + (k - 1) * p j) := fun j hj => by
              rw [hf2 j hj, e5, hf j hj, Nat.zero_add, h7, (hp j hj).1, jI_sub, Int.sub_mul]
              congr 1
              omega
            have hb2 : ∀ j, j < 6 → -48 ≤ a j + (k - 1) * p j ∧ a j + (k - 1) * p j ≤ 48 := fun j hj => by
              have q1 := hnr j hj
              have q2 := (hp j hj).2
              rw [Int.sub_mul]
              omega
            refine q_aload_n hK 0 dX9_folds_139 rfl rfl ?_
            refine q_cVi0 hK dX9_folds_140 lX9_96 (by decide) (by decide) rfl (Nat.le_of_ble_eq_true rfl) (m_sign (e := fun j => a j + (k - 1) * p j) ?_ ?_ (fun Z3 F3 x1 x2 => ?_))
            · intro j hj
              have := hb2 j hj
              rw [up_same]
              exact ⟨hf2' j hj, by dsimp only; omega, by dsimp only; omega⟩
            · exact fits_of (fun j hj => by have := hb2 j hj; omega)
            have sr2 := sgn_range (fun j => a j + (k - 1) * p j)
            have x1' : eqo [5, 6] Z Z3 := y1'.tr x1
            have x2' : eqo [3, 4, 5] F F3 := fun j hj => by rw [x2 j (by simp at hj ⊢; omega), up_ne (by simp at hj; omega)]; exact y2' j hj
            refine q_if_lt hK 149 dX9_folds_143 (by decide) (fun c143 => ?_) (fun c143 => ?_)
            · have hlt := (jI_lt0 (by omega) (by omega)).mp c143
              have hgd : good a p k := ⟨hnf, hge, hlt⟩
              refine q_aload_n hK 0 dX9_folds_149 rfl rfl ?_
              refine q_iload hK dX9_folds_150 rfl ?_
              refine q_cVv1 hK dX9_folds_152 lX9_122 (by decide) (by decide) rfl (Nat.le_of_ble_eq_true rfl) (m_powered (k := k) (a := a) (p := p) (fun j hj => by rw [x2' 6 (by decide)]; exact (ha j hj).1) (fun j hj => by rw [x2' 7 (by decide)]; exact (hp j hj).1) (fun f3 hf3 => ?_))
              refine q_iconst (v := nI 1) hK dX9_folds_155 (by decide) ?_
              exact q_iret hR dX9_folds_156 rfl ⟨_, rfl, (hQ _ _ x1' (x2'.up (by decide))).1 _ (foldv_some hs hgd) (fun j hj => by rw [up_same]; exact hf3 j hj)⟩
            · refine q_goto hK 157 dX9_folds_146 (by decide) ?_
              refine next _ _ x1' x2' (fun z => ?_)
              exact c143 ((jI_lt0 (by omega) (by omega)).mpr z.2.2)
          · refine q_goto hK 157 dX9_folds_127 (by decide) ?_
            refine next _ _ y1' y2' (fun z => ?_)
            exact c124 ((jI_0le (by omega) (by omega)).mpr z.2.1)
  -- from the first exponent that isn't 0
  have go : ∀ q, q < 6 → p q ≠ 0 → ∀ v2 v3 v4 v5, K (MM X Z F L g) 17 [some (rf X 0), some (.int (nI q)), v2, v3, v4, v5] [] := by
    intro q hq hpq v2 v3 v4 v5
    obtain ⟨a1, a2, a3⟩ := ha q hq
    obtain ⟨p1, p2, p3⟩ := hp q hq
    refine q_aload_n hK 0 dX9_folds_17 rfl rfl ?_
    refine q_getf hK dX9_folds_18 fX9_29 (by decide) rfl rfl ?_
    refine q_iload_n hK 1 dX9_folds_21 rfl rfl ?_
    refine qm_iald hK dX9_folds_22 (n := 7) (k := q) rfl rfl (by show q < 6; omega) ?_
    rw [p1]
    refine q_istore_n hK 2 dX9_folds_23 rfl (by decide) ?_
    refine q_iload_n hK 2 dX9_folds_24 rfl rfl ?_
    refine q_if_le hK 45 dX9_folds_25 (by decide) (fun c25 => ?_) (fun c25 => ?_)
    · have hn := (jI_le0 (by omega) (by omega)).mp c25
      refine q_bipush (v := nI 24) hK dX9_folds_45 (by decide) ?_
      refine q_aload_n hK 0 dX9_folds_47 rfl rfl ?_
      refine q_getf hK dX9_folds_48 fX9_26 (by decide) rfl rfl ?_
      refine q_iload_n hK 1 dX9_folds_51 rfl rfl ?_
      refine qm_iald hK dX9_folds_52 (n := 6) (k := q) rfl rfl (by show q < 6; omega) ?_
      rw [a1]
      refine q_isub hK dX9_folds_53 ?_
      refine q_iload_n hK 2 dX9_folds_54 rfl rfl ?_
      refine q_ineg hK dX9_folds_55 ?_
      rw [jI_neg, jI_nat 24, jI_sub]
      refine q_cSi2 hK dX9_folds_56 lX9_118 (by decide) (Nat.le_of_ble_eq_true rfl) (m_down (by omega) (by omega) (by omega) (by omega) ?_)
      refine q_ineg hK dX9_folds_59 ?_
      refine q_istore_n hK 3 dX9_folds_60 rfl (by decide) ?_
      refine q_iload_n hK 2 dX9_folds_61 rfl rfl ?_
      rw [jI_neg]
      refine q_if_le hK 81 dX9_folds_62 (by decide) (fun c62 => ?_) (fun c62 => ?_)
      · refine q_bipush (v := nI 24) hK dX9_folds_81 (by decide) ?_
        refine q_aload_n hK 0 dX9_folds_83 rfl rfl ?_
        refine q_getf hK dX9_folds_84 fX9_26 (by decide) rfl rfl ?_
        refine q_iload_n hK 1 dX9_folds_87 rfl rfl ?_
        refine qm_iald hK dX9_folds_88 (n := 6) (k := q) rfl rfl (by show q < 6; omega) ?_
        rw [a1]
        refine q_iadd hK dX9_folds_89 ?_
        refine q_iload_n hK 2 dX9_folds_90 rfl rfl ?_
        refine q_ineg hK dX9_folds_91 ?_
        rw [jI_neg, jI_nat 24, jI_add]
        refine q_cSi2 hK dX9_folds_92 lX9_118 (by decide) (Nat.le_of_ble_eq_true rfl) (m_down (by omega) (by omega) (by omega) (by omega) ?_)
        refine q_istore hK dX9_folds_95 (by decide) ?_
        refine q_iload_n hK 3 dX9_folds_97 rfl rfl ?_
        refine q_istore hK dX9_folds_98 (by decide) ?_
        have d1 : ((24 : Nat) : Int) - a q ≤ 700 := by omega
        have d2 : -700 ≤ ((24 : Nat) : Int) - a q := by omega
        have d3 : ((24 : Nat) : Int) + a q ≤ 700 := by omega
        have d4 : -700 ≤ ((24 : Nat) : Int) + a q := by omega
        have db : ∀ x : Int, -700 ≤ x → x ≤ 700 → -700 ≤ x / -p q ∧ x / -p q ≤ 700 := fun x h1 h2 => by
          constructor
          · exact (Int.le_ediv_iff_mul_le (by omega)).mpr (by have := Int.mul_le_mul_of_nonpos_left (a := -700) (b := -p q) (c := 1) (by omega) (by omega); omega)
          · exact Int.le_trans (Int.ediv_le_ediv (by omega) h2) (Int.le_trans (Int.ediv_le_self _ (by decide)) (by decide))
        have r1 := db _ d2 d1
        have r2 := db _ d4 d3
        refine scan _ _ _ _ _ q Z F eqo.rf eqo.rf (by omega) (by omega) (by omega) (by omega) rfl (fun k' hk' => ?_) (fun k' h1 h2 => by omega)
        have hnr := farV_false.mp hk'.1 q hq

        constructor
        · have : -k' ≤ (((24 : Nat) : Int) - a q) / -p q := (Int.le_ediv_iff_mul_le (by omega)).mpr (by rw [Int.neg_mul_neg]; omega)
          omega
        · exact (Int.le_ediv_iff_mul_le (by omega)).mpr (by rw [Int.mul_neg]; omega)
      · exact absurd c25 c62
    · have hn := mt (jI_le0 (b := p q) (by omega) (by omega)).mpr c25
      refine q_bipush (v := nI 24) hK dX9_folds_28 (by decide) ?_
      refine q_aload_n hK 0 dX9_folds_30 rfl rfl ?_
      refine q_getf hK dX9_folds_31 fX9_26 (by decide) rfl rfl ?_
      refine q_iload_n hK 1 dX9_folds_34 rfl rfl ?_
      refine qm_iald hK dX9_folds_35 (n := 6) (k := q) rfl rfl (by show q < 6; omega) ?_
      rw [a1]
      refine q_iadd hK dX9_folds_36 ?_
      refine q_iload_n hK 2 dX9_folds_37 rfl rfl ?_
      rw [jI_nat 24, jI_add]
      refine q_cSi2 hK dX9_folds_38 lX9_118 (by decide) (Nat.le_of_ble_eq_true rfl) (m_down (by omega) (by omega) (by omega) (by omega) ?_)
      refine q_ineg hK dX9_folds_41 ?_
      refine q_goto hK 60 dX9_folds_42 (by decide) ?_
      refine q_istore_n hK 3 dX9_folds_60 rfl (by decide) ?_
      refine q_iload_n hK 2 dX9_folds_61 rfl rfl ?_
      rw [jI_neg]
      refine q_if_le hK 81 dX9_folds_62 (by decide) (fun c62 => ?_) (fun c62 => ?_)
      · exact absurd c62 c25
      · refine q_bipush (v := nI 24) hK dX9_folds_65 (by decide) ?_
        refine q_aload_n hK 0 dX9_folds_67 rfl rfl ?_
        refine q_getf hK dX9_folds_68 fX9_26 (by decide) rfl rfl ?_
        refine q_iload_n hK 1 dX9_folds_71 rfl rfl ?_
        refine qm_iald hK dX9_folds_72 (n := 6) (k := q) rfl rfl (by show q < 6; omega) ?_
        rw [a1]
        refine q_isub hK dX9_folds_73 ?_
        refine q_iload_n hK 2 dX9_folds_74 rfl rfl ?_
        rw [jI_nat 24, jI_sub]
        refine q_cSi2 hK dX9_folds_75 lX9_118 (by decide) (Nat.le_of_ble_eq_true rfl) (m_down (by omega) (by omega) (by omega) (by omega) ?_)
        refine q_goto hK 95 dX9_folds_78 (by decide) ?_
        refine q_istore hK dX9_folds_95 (by decide) ?_
        refine q_iload_n hK 3 dX9_folds_97 rfl rfl ?_
        refine q_istore hK dX9_folds_98 (by decide) ?_
        have db : ∀ x : Int, -700 ≤ x → x ≤ 700 → -700 ≤ x / p q ∧ x / p q ≤ 700 := fun x h1 h2 => by
          constructor
          · exact (Int.le_ediv_iff_mul_le (by omega)).mpr (by have := Int.mul_le_mul_of_nonpos_left (a := -700) (b := p q) (c := 1) (by omega) (by omega); omega)
          · exact Int.le_trans (Int.ediv_le_ediv (by omega) h2) (Int.le_trans (Int.ediv_le_self _ (by decide)) (by decide))
        have r1 := db (((24 : Nat) : Int) - a q) (by omega) (by omega)
        have r2 := db (((24 : Nat) : Int) + a q) (by omega) (by omega)
        refine scan _ _ _ _ _ q Z F eqo.rf eqo.rf (by omega) (by omega) (by omega) (by omega) rfl (fun k' hk' => ?_) (fun k' h1 h2 => by omega)
        have hnr := farV_false.mp hk'.1 q hq

        constructor
        · have : -k' ≤ (((24 : Nat) : Int) + a q) / p q := (Int.le_ediv_iff_mul_le (by omega)).mpr (by rw [Int.neg_mul]; omega)
          omega
        · exact (Int.le_ediv_iff_mul_le (by omega)).mpr (by omega)
  have find : ∀ m q, q + m = q0 → K (MM X Z F L g) 2 [some (rf X 0), some (.int (nI q)), none, none, none, none] [] := by
    intro m
    induction m with
    | zero =>
      intro q hq
      have : q = q0 := by omega
      subst this
      obtain ⟨p1, p2, p3⟩ := hp q hq0
      refine q_aload_n hK 0 dX9_folds_2 rfl rfl ?_
      refine q_getf hK dX9_folds_3 fX9_29 (by decide) rfl rfl ?_
      refine q_iload_n hK 1 dX9_folds_6 rfl rfl ?_
      refine qm_iald hK dX9_folds_7 (n := 7) (k := q) rfl rfl (by show q < 6; omega) ?_
      rw [p1]
      refine q_if_ne hK 17 dX9_folds_8 (by decide) (fun c8 => ?_) (fun c8 => ?_)
      · exact go q hq0 hq1 _ _ _ _
      · exact absurd ((jI_eq0 (by omega) (by omega)).mp c8) hq1
    | succ m ih =>
      intro q hq
      obtain ⟨p1, p2, p3⟩ := hp q (by omega)
      refine q_aload_n hK 0 dX9_folds_2 rfl rfl ?_
      refine q_getf hK dX9_folds_3 fX9_29 (by decide) rfl rfl ?_
      refine q_iload_n hK 1 dX9_folds_6 rfl rfl ?_
      refine qm_iald hK dX9_folds_7 (n := 7) (k := q) rfl rfl (by show q < 6; omega) ?_
      rw [p1]
      refine q_if_ne hK 17 dX9_folds_8 (by decide) (fun c8 => ?_) (fun c8 => ?_)
      · exact go q (by omega) (fun z => c8 ((jI_eq0 (by omega) (by omega)).mpr z)) _ _ _ _
      · refine q_inc1 hK dX9_folds_11 rfl (by decide) ?_
        refine q_goto hK 2 dX9_folds_14 (by decide) ?_
        exact ih (q + 1) (by omega)
  exact find q0 0 (by omega)
end M6
