-- ===== rows in order
def plc (R : Nat → Vec) (e : Vec) : Nat → Nat → Int
  | 0, i => (i : Int)
  | f + 1, i => if sgn (fun k => e k - R i k) = 0 then -2 - (i : Int) else if sgn (fun k => e k - R i k) < 0 then (i : Int) else plc R e f (i + 1)
def plcv (R : Nat → Vec) (e : Vec) (m : Nat) : Int := plc R e m 0
def insR (R : Nat → Vec) (a : Nat) (e : Vec) : Nat → Vec := fun i => if i < a then R i else if i = a then e else R (i - 1)
theorem plc_congr {R R' : Nat → Vec} {e e' : Vec} : ∀ {f i : Nat}, (∀ j, i ≤ j → j < i + f → sgn (fun k => e k - R j k) = sgn (fun k => e' k - R' j k)) → plc R e f i = plc R' e' f i
  | 0, i, _ => rfl
  | f + 1, i, h => by
    have h0 := h i (Nat.le_refl i) (by omega)
    unfold plc
    rw [h0, plc_congr (f := f) (i := i + 1) (fun j h1 h2 => h j (by omega) (by omega))]
theorem plc_range {R : Nat → Vec} {e : Vec} : ∀ {f i : Nat}, (plc R e f i < 0 ∧ ∃ j, i ≤ j ∧ j < i + f ∧ plc R e f i = -2 - (j : Int) ∧ sgn (fun k => e k - R j k) = 0 ∧ ∀ t, i ≤ t → t < j → 0 < sgn (fun k => e k - R t k)) ∨ ∃ j, i ≤ j ∧ j ≤ i + f ∧ plc R e f i = (j : Int) ∧ (∀ t, i ≤ t → t < j → 0 < sgn (fun k => e k - R t k)) ∧ (j < i + f → sgn (fun k => e k - R j k) < 0)
  | 0, i => Or.inr ⟨i, Nat.le_refl i, by omega, rfl, fun t h1 h2 => by omega, fun h => by omega⟩
  | f + 1, i => by
    unfold plc
    split
    · rename_i h
      exact Or.inl ⟨by omega, i, Nat.le_refl i, by omega, rfl, h, fun t h1 h2 => by omega⟩
    · rename_i h0
      split
      · rename_i h
        exact Or.inr ⟨i, Nat.le_refl i, by omega, rfl, fun t h1 h2 => by omega, fun _ => h⟩
      · rename_i h1
        have hp : 0 < sgn (fun k => e k - R i k) := by
          rcases sgn_range (fun k => e k - R i k) with q | q | q <;> omega
        rcases plc_range (R := R) (e := e) (f := f) (i := i + 1) with ⟨a1, j, a2, a3, a4, a5, a6⟩ | ⟨j, a2, a3, a4, a5, a6⟩
        · refine Or.inl ⟨a1, j, by omega, by omega, a4, a5, fun t h1 h2 => ?_⟩
          by_cases q : t = i
          · rw [q]; exact hp
          · exact a6 t (by omega) h2
        · refine Or.inr ⟨j, by omega, by omega, a4, fun t h1 h2 => ?_, fun h => a6 (by omega)⟩
          by_cases q : t = i
          · rw [q]; exact hp
          · exact a5 t (by omega) h2
/-- note i, behind the last by the period -/
def ntA (n : Nat) (nt : Nat → Vec) (i : Nat) : Vec := fun k => nt (i % n) k + ((i / n : Nat) : Int) * nt n k
noncomputable def sp_note (σ : Sg) (s : Int32) : Int32 × Sg :=
  if isIn s 16 then
    if onS σ s then
      if gN σ = 0 then (-1, sSt σ 7)
      else match foldv (rowS σ s) (gNt σ (gN σ)) with
        | none => (-1, sSt σ 4)
        | some r =>
          if plcv (gNt σ) r (gN σ) < 0 then (-1, sSt σ 8)
          else if gN σ = 24 then (-1, sSt σ 6)
          else (jI (plcv (gNt σ) r (gN σ)), (0, gOn σ, gRow σ, gC σ, gCr σ, gN σ + 1, insR (gNt σ) (plcv (gNt σ) r (gN σ)).toNat r, σ.2.2.2.2.2.2.2))
    else (-1, sSt σ 2)
  else (-1, sSt σ 1)
def sp_take (σ : Sg) (i t : Int32) : Int32 × Sg :=
  if isIn t 16 then
    if gN σ = 0 then (0, sSt σ 7)
    else if isIn i (gN σ + 1) then sp_put σ t.toInt.toNat (ntA (gN σ) (gNt σ) i.toInt.toNat)
    else (0, sSt σ 3)
  else (0, sSt σ 1)
/-- rows one behind another in an array -/
def hasR (f : Nat → Int32) (m : Nat) (R : Nat → Vec) (b : Nat) : Prop := ∀ i, i < m → hasA f (6 * i) (R i) b
section M10
variable {X : Cx} {Z : Nat → Int32} {F : Nat → Nat → Int32} {L : Nat → Int64} {g : Mem}
theorem m_placeIn {nm many : Nat} {R : Nat → Vec} {e : Vec} {Q : Int32 → Mem → Prop} (hn : mI nm = true) (h5 : nm ∉ [3, 4, 5, 6]) (hl : 6 * many ≤ mlen nm) (hm : many ≤ 30) (hR0 : hasR (F nm) many R 100) (he : has6 (F 5) e 100) (h : ∀ Z' F', eqo [5, 6] Z Z' → eqo [3, 4, 5, 6] F F' → has6 (F' 6) e 100 → Q (jI (plcv R e many)) (MM X Z' F' L g)) : CallI X 4 yX9_placeIn [rf X 0, rf X nm, .int (nI many)] (MM X Z F L g) Q := by
  have h5a : nm ≠ 5 := fun q => h5 (by rw [q]; decide)
  refine CallM_intro (own := RX9) [some (rf X 0), some (rf X nm), some (.int (nI many)), none, none] wX9_placeIn (by decide) (by decide) rfl (Nat.le_of_ble_eq_true rfl) rfl (fun K hK hR => ?_)
  refine q_iconst (v := nI 0) hK dX9_placeIn_0 (by decide) ?_
  refine q_istore_n hK 3 dX9_placeIn_1 rfl (by decide) ?_
  have scan : ∀ f i v4 Z' F', i + f = many → eqo [5, 6] Z Z' → eqo [3, 4, 5, 6] F F' → has6 (F' 6) e 100 → plcv R e many = plc R e f i → K (MM X Z' F' L g) 28 [some (rf X 0), some (rf X nm), some (.int (nI many)), some (.int (nI i)), v4] [] := by
    intro f
    induction f with
    | zero =>
      intro i v4 Z' F' hi z1 z2 z3 hp
      refine q_iload_n hK 3 dX9_placeIn_28 rfl rfl ?_
      refine q_iload_n hK 2 dX9_placeIn_29 rfl rfl ?_
      refine q_icmp_ge hK 72 dX9_placeIn_30 (by decide) (fun c30 => ?_) (fun c30 => ?_)
      · refine q_iload_n hK 2 dX9_placeIn_72 rfl rfl ?_
        have hh := h Z' F' z1 z2 z3
        rw [hp] at hh
        rw [show many = i by omega]
        rw [show jI (plc R e 0 i) = nI i from (jI_nat i).symm] at hh
        exact q_iret hR dX9_placeIn_73 rfl ⟨_, rfl, hh⟩
      · exact absurd ((nI_leI (by omega) (by omega)).mpr (by omega)) c30
    | succ f ih =>
      intro i v4 Z' F' hi z1 z2 z3 hp
      refine q_iload_n hK 3 dX9_placeIn_28 rfl rfl ?_
      refine q_iload_n hK 2 dX9_placeIn_29 rfl rfl ?_
      refine q_icmp_ge hK 72 dX9_placeIn_30 (by decide) (fun c30 => ?_) (fun c30 => ?_)
      · have := (nI_leI (by omega) (by omega)).mp c30
        omega
      refine q_aload_n hK 0 dX9_placeIn_33 rfl rfl ?_
      refine q_aload_n hK 0 dX9_placeIn_34 rfl rfl ?_
      refine q_getf hK dX9_placeIn_35 fX9_26 (by decide) rfl rfl ?_
      refine q_iconst (v := nI 0) hK dX9_placeIn_38 (by decide) ?_
      refine q_aload_n hK 1 dX9_placeIn_39 rfl rfl ?_
      refine q_bipush (v := nI 6) hK dX9_placeIn_40 (by decide) ?_
      refine q_iload_n hK 3 dX9_placeIn_42 rfl rfl ?_
      refine q_imul hK dX9_placeIn_43 ?_
      rw [show nI 6 * nI i = nI (6 * i) from pk_mul 6 i]
      refine q_cVi4 hK dX9_placeIn_44 lX9_139 (by decide) (by decide) rfl (Nat.le_of_ble_eq_true rfl) (m_compare (n := 6) (a := 0) (e := e) (e2 := R i) rfl (by decide) (by decide) hn h5a (by omega) (fun k hk => by rw [Nat.zero_add]; exact z3 k hk) (fun k hk => by rw [z2 nm h5]; exact hR0 i (by omega) k hk) (fun Z2 F2 y1 y2 => ?_))
      have sr := sgn_range (fun k => e k - R i k)
      have w1 : eqo [5, 6] Z Z2 := z1.tr y1
      have w2 : eqo [3, 4, 5, 6] F F2 := z2.tr (y2.mono (by decide))
      have w3 : has6 (F2 6) e 100 := by rw [y2 6 (by decide)]; exact z3
      unfold plc at hp
      refine q_istore hK dX9_placeIn_47 (by decide) ?_
      refine q_iload hK dX9_placeIn_49 rfl ?_
      refine q_if_ne hK 59 dX9_placeIn_51 (by decide) (fun c51 => ?_) (fun c51 => ?_)
      · have hne : ¬ sgn (fun k => e k - R i k) = 0 := fun q => c51 ((jI_eq0 (by omega) (by omega)).mpr q)
        simp only [hne, if_false] at hp
        refine q_iload hK dX9_placeIn_59 rfl ?_
        refine q_if_ge hK 66 dX9_placeIn_61 (by decide) (fun c61 => ?_) (fun c61 => ?_)
        · have hge := (jI_0le (by omega) (by omega)).mp c61
          simp only [show ¬ sgn (fun k => e k - R i k) < 0 by omega, if_false] at hp
          refine q_inc1 hK dX9_placeIn_66 rfl (by decide) ?_
          refine q_goto hK 28 dX9_placeIn_69 (by decide) ?_
          exact ih (i + 1) _ Z2 F2 (by omega) w1 w2 w3 hp
        · have hlt := mt (jI_0le (b := sgn (fun k => e k - R i k)) (by omega) (by omega)).mpr c61
          simp only [show sgn (fun k => e k - R i k) < 0 by omega, if_true] at hp
          refine q_iload_n hK 3 dX9_placeIn_64 rfl rfl ?_
          have hh := h Z2 F2 w1 w2 w3
          rw [hp, ← jI_nat] at hh
          exact q_iret hR dX9_placeIn_65 rfl ⟨_, rfl, hh⟩
      · have heq := (jI_eq0 (by omega) (by omega)).mp c51
        simp only [heq, if_true] at hp
        refine q_bipush (v := jI (-2)) hK dX9_placeIn_54 (by decide) ?_
        refine q_iload_n hK 3 dX9_placeIn_56 rfl rfl ?_
        refine q_isub hK dX9_placeIn_57 ?_
        have hh := h Z2 F2 w1 w2 w3
        rw [hp] at hh
        rw [show jI (-2) - nI i = jI (-2 - (i : Int)) by rw [jI_nat, jI_sub]]
        exact q_iret hR dX9_placeIn_58 rfl ⟨_, rfl, hh⟩
  have loop : ∀ m i f, i + m = 6 → (∀ k, k < i → f k = F 5 k) → K (MM X Z (va_up F 6 f) L g) 2 [some (rf X 0), some (rf X nm), some (.int (nI many)), some (.int (nI i)), none] [] := by
    intro m
    induction m with
    | zero =>
      intro i f hi hf
      refine q_iload_n hK 3 dX9_placeIn_2 rfl rfl ?_
      refine q_bipush (v := nI 6) hK dX9_placeIn_3 (by decide) ?_
      refine q_icmp_ge hK 26 dX9_placeIn_5 (by decide) (fun c5 => ?_) (fun c5 => ?_)
      · refine q_iconst (v := nI 0) hK dX9_placeIn_26 (by decide) ?_
        refine q_istore_n hK 3 dX9_placeIn_27 rfl (by decide) ?_
        exact scan many 0 none Z _ (by omega) eqo.rf (eqo.rf.up (by decide)) (fun k hk => by rw [up_same, hf k (by omega)]; exact he k hk) rfl
      · exact absurd ((nI_leI (by decide) (by omega)).mpr (by omega)) c5
    | succ m ih =>
      intro i f hi hf
      refine q_iload_n hK 3 dX9_placeIn_2 rfl rfl ?_
      refine q_bipush (v := nI 6) hK dX9_placeIn_3 (by decide) ?_
      refine q_icmp_ge hK 26 dX9_placeIn_5 (by decide) (fun c5 => ?_) (fun c5 => ?_)
      · have := (nI_leI (by decide) (by omega)).mp c5
        omega
      · refine q_aload_n hK 0 dX9_placeIn_8 rfl rfl ?_
        refine q_getf hK dX9_placeIn_9 fX9_26 (by decide) rfl rfl ?_
        refine q_iload_n hK 3 dX9_placeIn_12 rfl rfl ?_
        refine q_aload_n hK 0 dX9_placeIn_13 rfl rfl ?_
        refine q_getf hK dX9_placeIn_14 fX9_23 (by decide) rfl rfl ?_
        refine q_iload_n hK 3 dX9_placeIn_17 rfl rfl ?_
        refine qm_iald hK dX9_placeIn_18 (n := 5) (k := i) rfl rfl (by show i < 6; omega) ?_
        refine qm_iast hK dX9_placeIn_19 (n := 6) (k := i) rfl rfl (by show i < 6; omega) ?_
        refine q_inc1 hK dX9_placeIn_20 rfl (by decide) ?_
        refine q_goto hK 2 dX9_placeIn_23 (by decide) ?_
        rw [up_up, up_same, up_ne (by decide : (5 : Nat) ≠ 6)]
        refine ih (i + 1) _ (by omega) (fun k hk => ?_)
        by_cases e : k = i
        · rw [e, upd_same]
        · rw [upd_ne e]
          exact hf k (by omega)
  have := loop 6 0 (F 6) rfl (fun k hk => by omega)
  rw [up_id] at this
  exact this
theorem m_insert {nm many a : Nat} {Q : Mem → Prop} (hn : mI nm = true) (h6 : nm ≠ 6) (ha : a ≤ many) (hl : 6 * many + 5 < mlen nm) (h : ∀ f, (∀ i k, i ≤ many → k < 6 → f (6 * i + k) = if i < a then F nm (6 * i + k) else if i = a then F 6 k else F nm (6 * (i - 1) + k)) → (∀ j, 6 * many + 6 ≤ j → f j = F nm j) → Q (MM X Z (va_up F nm f) L g)) : CallV X 0 yX9_insert [rf X 0, rf X nm, .int (nI many), .int (nI a)] (MM X Z F L g) Q := by
  have hml := mlen_lt nm
  refine CallM_intro (own := RX9) [some (rf X 0), some (rf X nm), some (.int (nI many)), some (.int (nI a)), none] wX9_insert (by decide) (by decide) rfl (Nat.le_of_ble_eq_true rfl) rfl (fun K hK hR => ?_)
  refine q_bipush (v := nI 6) hK dX9_insert_0 (by decide) ?_
  refine q_iload_n hK 2 dX9_insert_2 rfl rfl ?_
  refine q_imul hK dX9_insert_3 ?_
  refine q_iconst (v := nI 5) hK dX9_insert_4 (by decide) ?_
  refine q_iadd hK dX9_insert_5 ?_
  refine q_istore hK dX9_insert_6 (by decide) ?_
  rw [show nI 6 * nI many + nI 5 = nI (6 * many + 5) by rw [pk_mul, nI_add]]
  have cpy : ∀ m i f, i + m = 6 → (∀ j, j < 6 * a ∨ 6 * many + 6 ≤ j → f j = F nm j) → (∀ j, 6 * a + 6 ≤ j → j < 6 * many + 6 → f j = F nm (j - 6)) → (∀ j, j < i → f (6 * a + j) = F 6 j) → K (MM X Z (va_up F nm f) L g) 40 [some (rf X 0), some (rf X nm), some (.int (nI many)), some (.int (nI a)), some (.int (nI i))] [] := by
    intro m
    induction m with
    | zero =>
      intro i f hi h1 h2 h3
      refine q_iload hK dX9_insert_40 rfl ?_
      refine q_bipush (v := nI 6) hK dX9_insert_42 (by decide) ?_
      refine q_icmp_ge hK 69 dX9_insert_44 (by decide) (fun c44 => ?_) (fun c44 => ?_)
      · refine q_vret hR dX9_insert_69 ⟨rfl, h f (fun i k hi hk => ?_) (fun j hj => h1 j (by omega))⟩
        split
        · exact h1 _ (by omega)
        · split
          · rename_i q1 q2
            rw [q2]
            exact h3 k (by omega)
          · rw [h2 _ (by omega) (by omega)]
            congr 1
            omega
      · exact absurd ((nI_leI (by decide) (by omega)).mpr (by omega)) c44
    | succ m ih =>
      intro i f hi h1 h2 h3
      refine q_iload hK dX9_insert_40 rfl ?_
      refine q_bipush (v := nI 6) hK dX9_insert_42 (by decide) ?_
      refine q_icmp_ge hK 69 dX9_insert_44 (by decide) (fun c44 => ?_) (fun c44 => ?_)
      · have := (nI_leI (by decide) (by omega)).mp c44
        omega
      · refine q_aload_n hK 1 dX9_insert_47 rfl rfl ?_
        refine q_bipush (v := nI 6) hK dX9_insert_48 (by decide) ?_
        refine q_iload_n hK 3 dX9_insert_50 rfl rfl ?_
        refine q_imul hK dX9_insert_51 ?_
        refine q_iload hK dX9_insert_52 rfl ?_
        refine q_iadd hK dX9_insert_54 ?_
        refine q_aload_n hK 0 dX9_insert_55 rfl rfl ?_
        refine q_getf hK dX9_insert_56 fX9_26 (by decide) rfl rfl ?_
        refine q_iload hK dX9_insert_59 rfl ?_
        refine qm_iald hK dX9_insert_61 (n := 6) (k := i) rfl rfl (by show i < 6; omega) ?_
        refine qm_iast hK dX9_insert_62 (k := 6 * a + i) hn (by rw [pk_mul, nI_add]) (by omega) ?_
        refine q_inc1 hK dX9_insert_63 rfl (by decide) ?_
        refine q_goto hK 40 dX9_insert_66 (by decide) ?_
        rw [up_up, up_same, up_ne (Ne.symm h6)]
        refine ih (i + 1) _ (by omega) (fun j hj => ?_) (fun j j1 j2 => ?_) (fun j hj => ?_)
        · rw [upd_ne (by omega)]
          exact h1 j hj
        · rw [upd_ne (by omega)]
          exact h2 j j1 j2
        · by_cases e : j = i
          · rw [e, upd_same]
          · rw [upd_ne (by omega)]
            exact h3 j (by omega)
  have shf : ∀ m k f, k = 6 * a + 5 + m → k ≤ 6 * many + 5 → (∀ j, j ≤ k ∨ 6 * many + 6 ≤ j → f j = F nm j) → (∀ j, k < j → j < 6 * many + 6 → f j = F nm (j - 6)) → K (MM X Z (va_up F nm f) L g) 8 [some (rf X 0), some (rf X nm), some (.int (nI many)), some (.int (nI a)), some (.int (nI k))] [] := by
    intro m
    induction m with
    | zero =>
      intro k f hk hk2 h1 h2
      refine q_iload hK dX9_insert_8 rfl ?_
      refine q_bipush (v := nI 6) hK dX9_insert_10 (by decide) ?_
      refine q_iload_n hK 3 dX9_insert_12 rfl rfl ?_
      refine q_imul hK dX9_insert_13 ?_
      refine q_bipush (v := nI 6) hK dX9_insert_14 (by decide) ?_
      refine q_iadd hK dX9_insert_16 ?_
      rw [show nI 6 * nI a + nI 6 = nI (6 * a + 6) by rw [pk_mul, nI_add]]
      refine q_icmp_lt hK 37 dX9_insert_17 (by decide) (fun c17 => ?_) (fun c17 => ?_)
      · refine q_iconst (v := nI 0) hK dX9_insert_37 (by decide) ?_
        refine q_istore hK dX9_insert_38 (by decide) ?_
        exact cpy 6 0 f rfl (fun j hj => h1 j (by omega)) (fun j j1 j2 => h2 j (by omega) j2) (fun j hj => by omega)
      · exact absurd ((nI_ltI (by omega) (by omega)).mpr (by omega)) c17
    | succ m ih =>
      intro k f hk hk2 h1 h2
      refine q_iload hK dX9_insert_8 rfl ?_
      refine q_bipush (v := nI 6) hK dX9_insert_10 (by decide) ?_
      refine q_iload_n hK 3 dX9_insert_12 rfl rfl ?_
      refine q_imul hK dX9_insert_13 ?_
      refine q_bipush (v := nI 6) hK dX9_insert_14 (by decide) ?_
      refine q_iadd hK dX9_insert_16 ?_
      rw [show nI 6 * nI a + nI 6 = nI (6 * a + 6) by rw [pk_mul, nI_add]]
      refine q_icmp_lt hK 37 dX9_insert_17 (by decide) (fun c17 => ?_) (fun c17 => ?_)
      · have := (nI_ltI (by omega) (by omega)).mp c17
        omega
      refine q_aload_n hK 1 dX9_insert_20 rfl rfl ?_
      refine q_iload hK dX9_insert_21 rfl ?_
      refine q_aload_n hK 1 dX9_insert_23 rfl rfl ?_
      refine q_iload hK dX9_insert_24 rfl ?_
      refine q_bipush (v := nI 6) hK dX9_insert_26 (by decide) ?_
      refine q_isub hK dX9_insert_28 ?_
      refine qm_iald hK dX9_insert_29 (k := k - 6) hn (pk_sub (by omega)) (by omega) ?_
      refine qm_iast hK dX9_insert_30 (k := k) hn rfl (by omega) ?_
      refine q_iinc hK dX9_insert_31 rfl (show _ = nI (k - 1) by obtain ⟨t, rfl⟩ : ∃ t, k = t + 1 := ⟨k - 1, by omega⟩; exact pk_m1 t) (by decide) ?_
      refine q_goto hK 8 dX9_insert_34 (by decide) ?_
      rw [up_up, up_same]
      refine ih (k - 1) _ (by omega) (by omega) (fun j hj => ?_) (fun j j1 j2 => ?_)
      · rw [upd_ne (by omega)]
        exact h1 j (by omega)
      · by_cases e : j = k
        · rw [e, upd_same]
          exact h1 _ (by omega)
        · rw [upd_ne e]
          exact h2 j (by omega) j2
  have := shf (6 * many - 6 * a) (6 * many + 5) (F nm) (by omega) (Nat.le_refl _) (fun _ _ => rfl) (fun j j1 j2 => by omega)
  rw [up_id] at this
  exact this
theorem m_noteAt {n i : Nat} {nt : Nat → Vec} {Q : Mem → Prop} (hz : Z 18 = nI n) (hn : 1 ≤ n) (hn2 : n ≤ 24) (hi : i < 1000) (hr : ∀ i, i ≤ n → hasA (F 12) (6 * i) (nt i) 24) (h : ∀ f, (∀ k, k < 6 → f k = jI (ntA n nt i k)) → Q (MM X Z (va_up F 5 f) L g)) : CallV X 1 yX9_noteAt [rf X 0, .int (nI i)] (MM X Z F L g) Q := by
  have hmod : i % n < n := Nat.mod_lt _ (by omega)
  have hdiv : i / n ≤ i := Nat.div_le_self _ _
  refine CallM_intro (own := RX9) [some (rf X 0), some (.int (nI i)), none] wX9_noteAt (by decide) (by decide) rfl (Nat.le_of_ble_eq_true rfl) rfl (fun K hK hR => ?_)
  refine q_aload_n hK 0 dX9_noteAt_0 rfl rfl ?_
  refine q_aload_n hK 0 dX9_noteAt_1 rfl rfl ?_
  refine q_getf hK dX9_noteAt_2 fX9_45 (by decide) rfl rfl ?_
  refine q_bipush (v := nI 6) hK dX9_noteAt_5 (by decide) ?_
  refine q_iload_n hK 1 dX9_noteAt_7 rfl rfl ?_
  refine q_aload_n hK 0 dX9_noteAt_8 rfl rfl ?_
  refine q_getf hK dX9_noteAt_9 fX9_182 (by decide) rfl rfl ?_
  rw [hz]
  refine q_irem hK dX9_noteAt_12 (nI_ne0 (by omega) (by omega)) ?_
  refine q_imul hK dX9_noteAt_13 ?_
  rw [show nI i - nI i / nI n * nI n = nI (i % n) from pk_rem (by omega) (by omega) (by omega), show nI 6 * nI (i % n) = nI (6 * (i % n)) from pk_mul 6 _]
  refine q_cVv2 hK dX9_noteAt_14 lX9_89 (by decide) (by decide) rfl (Nat.le_of_ble_eq_true rfl) (m_hold (n := 12) (a := 6 * (i % n)) rfl (by decide) (by show 6 * (i % n) + 6 ≤ 150; omega) (fun f0 hf0 => ?_))
  refine q_iconst (v := nI 0) hK dX9_noteAt_17 (by decide) ?_
  refine q_istore_n hK 2 dX9_noteAt_18 rfl (by decide) ?_
  have loop : ∀ m j f, j + m = 6 → (∀ k, k < j → f k = jI (ntA n nt i k)) → (∀ k, j ≤ k → f k = f0 k) → K (MM X Z (va_up F 5 f) L g) 19 [some (rf X 0), some (.int (nI i)), some (.int (nI j))] [] := by
    intro m
    induction m with
    | zero =>
      intro j f hj h1 h2
      refine q_iload_n hK 2 dX9_noteAt_19 rfl rfl ?_
      refine q_bipush (v := nI 6) hK dX9_noteAt_20 (by decide) ?_
      refine q_icmp_ge hK 61 dX9_noteAt_22 (by decide) (fun c22 => ?_) (fun c22 => ?_)
      · exact q_vret hR dX9_noteAt_61 ⟨rfl, h f (fun k hk => h1 k (by omega))⟩
      · exact absurd ((nI_leI (by decide) (by omega)).mpr (by omega)) c22
    | succ m ih =>
      intro j f hj h1 h2
      refine q_iload_n hK 2 dX9_noteAt_19 rfl rfl ?_
      refine q_bipush (v := nI 6) hK dX9_noteAt_20 (by decide) ?_
      refine q_icmp_ge hK 61 dX9_noteAt_22 (by decide) (fun c22 => ?_) (fun c22 => ?_)
      · have := (nI_leI (by decide) (by omega)).mp c22
        omega
      · refine q_aload_n hK 0 dX9_noteAt_25 rfl rfl ?_
        refine q_getf hK dX9_noteAt_26 fX9_23 (by decide) rfl rfl ?_
        refine q_iload_n hK 2 dX9_noteAt_29 rfl rfl ?_
        refine q_dup2 hK dX9_noteAt_30 rfl rfl ?_
        refine qm_iald hK dX9_noteAt_31 (n := 5) (k := j) rfl rfl (by show j < 6; omega) ?_
        refine q_iload_n hK 1 dX9_noteAt_32 rfl rfl ?_
        refine q_aload_n hK 0 dX9_noteAt_33 rfl rfl ?_
        refine q_getf hK dX9_noteAt_34 fX9_182 (by decide) rfl rfl ?_
        rw [hz]
        refine q_idiv hK dX9_noteAt_37 (nI_ne0 (by omega) (by omega)) ?_
        refine q_aload_n hK 0 dX9_noteAt_38 rfl rfl ?_
        refine q_getf hK dX9_noteAt_39 fX9_45 (by decide) rfl rfl ?_
        refine q_bipush (v := nI 6) hK dX9_noteAt_42 (by decide) ?_
        refine q_aload_n hK 0 dX9_noteAt_44 rfl rfl ?_
        refine q_getf hK dX9_noteAt_45 fX9_182 (by decide) rfl rfl ?_
        refine q_imul hK dX9_noteAt_48 ?_
        refine q_iload_n hK 2 dX9_noteAt_49 rfl rfl ?_
        refine q_iadd hK dX9_noteAt_50 ?_
        rw [hz]
        refine qm_iald hK dX9_noteAt_51 (n := 12) (k := 6 * n + j) rfl (by rw [pk_mul, nI_add]) (by show _ < 150; omega) ?_
        refine q_imul hK dX9_noteAt_52 ?_
        refine q_iadd hK dX9_noteAt_53 ?_
        refine qm_iast hK dX9_noteAt_54 (n := 5) (k := j) rfl rfl (by show j < 6; omega) ?_
        refine q_inc1 hK dX9_noteAt_55 rfl (by decide) ?_
        refine q_goto hK 19 dX9_noteAt_58 (by decide) ?_
        rw [up_up, up_same, up_ne (by decide : (12 : Nat) ≠ 5), h2 j (Nat.le_refl j), hf0 j (by omega), (hr _ (by omega) j (by omega)).1, (hr n (Nat.le_refl n) j (by omega)).1, show nI i / nI n = nI (i / n) from pk_div (by omega) (by omega) (by omega), jI_nat (i / n), jI_mul, jI_add]
        refine ih (j + 1) _ (by omega) (fun k hk => ?_) (fun k hk => ?_)
        · by_cases e : k = j
          · rw [e, upd_same]; rfl
          · rw [upd_ne e]
            exact h1 k (by omega)
        · rw [upd_ne (by omega)]
          exact h2 k (by omega)
  exact loop 6 0 f0 rfl (fun k hk => by omega) (fun k _ => rfl)
theorem ntA_bd {n i : Nat} {nt : Nat → Vec} {f : Nat → Int32} (hn : 1 ≤ n) (hi : i < 2 * n) (hr : ∀ i, i ≤ n → hasA f (6 * i) (nt i) 24) : ∀ k, k < 6 → -48 ≤ ntA n nt i k ∧ ntA n nt i k ≤ 48 := by
  intro k hk
  have hmod : i % n < n := Nat.mod_lt _ (by omega)
  have hd : i / n ≤ 1 := by
    have : i / n < 2 := by rw [Nat.div_lt_iff_lt_mul (by omega)]; omega
    omega
  have q1 := (hr (i % n) (by omega) k hk).2
  have q2 := (hr n (Nat.le_refl n) k hk).2
  unfold ntA
  have : i / n = 0 ∨ i / n = 1 := by
    generalize i / n = z at hd
    omega
  rcases this with q | q
  · rw [q]; simp only [Int.natCast_zero, Int.zero_mul]; omega
  · rw [q]; simp only [Int.natCast_one, Int.one_mul]; omega
theorem M_take {σ : Sg} {i t : Int32} {Q : Int32 → Mem → Prop} (hI : MI Z F σ) (h : ∀ Z' F' L', MI Z' F' (sp_take σ i t).2 → Q (sp_take σ i t).1 (MM X Z' F' L' g)) : CallI X 9 yX9_take [rf X 0, .int i, .int t] (MM X Z F L g) Q := by
  obtain ⟨n1, n2, n3, n4⟩ := hI.2.2.2.2.1
  refine CallM_intro (own := RX9) [some (rf X 0), some (.int i), some (.int t)] wX9_take (by decide) (by decide) rfl (Nat.le_of_ble_eq_true rfl) rfl (fun K hK hR => ?_)
  refine q_iload_n hK 2 dX9_take_0 rfl rfl ?_
  refine q_cSi1 hK dX9_take_1 lX9_111 (by decide) (Nat.le_of_ble_eq_true rfl) (m_isShelf ?_)
  refine q_if_ne hK 13 dX9_take_4 (by decide) (fun c4 => ?_) (fun c4 => ?_)
  rotate_left
  · have hs := (b2i_eq0 _).mp c4
    simp only [sp_take, hs] at h
    refine q_aload_n hK 0 dX9_take_7 rfl rfl ?_
    refine q_iconst (v := nI 1) hK dX9_take_8 (by decide) ?_
    refine q_cVi1 hK dX9_take_9 lX9_104 (by decide) (by decide) rfl (Nat.le_of_ble_eq_true rfl) (m_ref (by decide) (by decide) ?_)
    exact q_iret hR dX9_take_12 rfl ⟨_, rfl, h _ _ _ (hI.st 1)⟩
  have hs := (b2i_ne0 _).mp c4
  obtain ⟨it, ht1, rfl, ht2⟩ := isIn_ex hs (by decide)
  simp only [sp_take, hs, ht2, if_true] at h
  refine q_aload_n hK 0 dX9_take_13 rfl rfl ?_
  refine q_getf hK dX9_take_14 fX9_182 (by decide) rfl rfl ?_
  rw [n1]
  refine q_if_ne hK 27 dX9_take_17 (by decide) (fun c17 => ?_) (fun c17 => ?_)
  rotate_left
  · have q : gN σ = 0 := (nI_eq (b := 0) (by omega) (by decide)).mp c17
    simp only [q, if_true] at h
    refine q_aload_n hK 0 dX9_take_20 rfl rfl ?_
    refine q_bipush (v := nI 7) hK dX9_take_21 (by decide) ?_
    refine q_cVi1 hK dX9_take_23 lX9_104 (by decide) (by decide) rfl (Nat.le_of_ble_eq_true rfl) (m_ref (by decide) (by decide) ?_)
    exact q_iret hR dX9_take_26 rfl ⟨_, rfl, h _ _ _ (hI.st 7)⟩
  have q : ¬ gN σ = 0 := fun z => c17 (by rw [z]; rfl)
  simp only [q, if_false] at h
  have bad : isIn i (gN σ + 1) = false → K (MM X Z F L g) 39 [some (rf X 0), some (.int i), some (.int (nI it))] [] := by
    intro hb
    simp only [hb] at h
    refine q_aload_n hK 0 dX9_take_39 rfl rfl ?_
    refine q_iconst (v := nI 3) hK dX9_take_40 (by decide) ?_
    refine q_cVi1 hK dX9_take_41 lX9_104 (by decide) (by decide) rfl (Nat.le_of_ble_eq_true rfl) (m_ref (by decide) (by decide) ?_)
    exact q_iret hR dX9_take_44 rfl ⟨_, rfl, h _ _ _ (hI.st 3)⟩
  refine q_iload_n hK 1 dX9_take_27 rfl rfl ?_
  refine q_if_lt hK 39 dX9_take_28 (by decide) (fun c28 => ?_) (fun c28 => ?_)
  · exact bad (by have := lt0_iff.mp c28; simp [isIn]; omega)
  refine q_iload_n hK 1 dX9_take_31 rfl rfl ?_
  refine q_aload_n hK 0 dX9_take_32 rfl rfl ?_
  refine q_getf hK dX9_take_33 fX9_182 (by decide) rfl rfl ?_
  rw [n1]
  refine q_icmp_le hK 45 dX9_take_36 (by decide) (fun c36 => ?_) (fun c36 => ?_)
  rotate_left
  · exact bad (by have := mt (Int32.le_iff_toInt_le (x := i) (y := nI (gN σ))).mpr c36; rw [nI_toInt (by omega)] at this; simp [isIn]; omega)
  have hi : isIn i (gN σ + 1) = true := by
    have h1 := mt lt0_iff.mpr c28
    have h2 := Int32.le_iff_toInt_le.mp c36
    rw [nI_toInt (by omega)] at h2
    simp [isIn]
    omega
  obtain ⟨ii, hi1, rfl, hi2⟩ := isIn_ex hi (by omega)
  simp only [hi, hi2, if_true] at h
  refine q_aload_n hK 0 dX9_take_45 rfl rfl ?_
  refine q_iload_n hK 1 dX9_take_46 rfl rfl ?_
  refine q_cVv1 hK dX9_take_47 lX9_193 (by decide) (by decide) rfl (Nat.le_of_ble_eq_true rfl) (m_noteAt n1 (by omega) n2 (by omega) (n3 (by omega)) (fun f hf => ?_))
  have hbd := ntA_bd (f := F 12) (i := ii) (n := gN σ) (nt := gNt σ)
  refine q_aload_n hK 0 dX9_take_50 rfl rfl ?_
  refine q_iload_n hK 2 dX9_take_51 rfl rfl ?_
  refine q_cVi1 hK dX9_take_52 lX9_114 (by decide) (by decide) rfl (Nat.le_of_ble_eq_true rfl) (m_comes (e := ntA (gN σ) (gNt σ) ii) (hI.scr eqo.rf (eqo.rf.up (by decide))) ht1 (fun k hk => ?_) (fun Z' F' hI' => ?_))
  · rw [up_same, hf k hk]
    by_cases e : ii < 2 * gN σ
    · have := hbd (by omega) e (n3 (by omega)) k hk
      exact ⟨rfl, by omega, by omega⟩
    · omega
  · exact q_iret hR dX9_take_55 (nar_put ..) ⟨_, rfl, h Z' F' L hI'⟩
end M10
