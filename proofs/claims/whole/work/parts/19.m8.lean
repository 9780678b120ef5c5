-- ===== divisions
def isDiv (x : Int32) : Bool := decide (1 ≤ x.toInt) && decide (x.toInt ≤ 99)
theorem isDiv_ex {x : Int32} (h : isDiv x = true) : ∃ n, 1 ≤ n ∧ n ≤ 99 ∧ x = nI n ∧ x.toInt.toNat = n := by
  simp only [isDiv, Bool.and_eq_true, decide_eq_true_eq] at h
  obtain ⟨k, h1, h2⟩ := vp_in_of (vp_in_iff (x := x) (n := 100) |>.mpr ⟨by omega, by omega⟩) (by decide)
  subst h2
  rw [nI_toInt (by omega)] at h
  exact ⟨k, by omega, by omega, rfl, nI_tn (by omega)⟩
theorem mapv_ok0 : (List.range 100).all (fun n => (List.range 6).all (fun k => decide (n = 0) || decide (k = 0) || (decide (n ≤ mapv n k) && decide (mapv n k ≤ 4 * n) && decide (prN k ^ (2 * n) < 2 ^ (2 * mapv n k + 1)) && decide (2 ^ (2 * (mapv n k - 1) + 1) ≤ prN k ^ (2 * n))))) = true := by decide +kernel
theorem mapv_ok (n : Nat) (hn : n < 100) (k : Nat) (hk : k < 6) (h1 : 1 ≤ n) (h2 : 1 ≤ k) : n ≤ mapv n k ∧ mapv n k ≤ 4 * n ∧ prN k ^ (2 * n) < 2 ^ (2 * mapv n k + 1) ∧ 2 ^ (2 * (mapv n k - 1) + 1) ≤ prN k ^ (2 * n) := by
  have h := List.all_eq_true.mp (List.all_eq_true.mp mapv_ok0 n (List.mem_range.mpr hn)) k (List.mem_range.mpr hk)
  simp only [Bool.or_eq_true, Bool.and_eq_true, decide_eq_true_eq] at h
  rcases h with (h | h) | h
  · omega
  · omega
  · exact ⟨h.1.1.1, h.1.1.2, h.1.2, h.2⟩
theorem mapv_0 (n : Nat) : mapv n 0 = n := rfl
theorem mapv_pos {n k : Nat} (h1 : 1 ≤ n) (h2 : n ≤ 99) (hk : k < 6) : 1 ≤ mapv n k ∧ mapv n k ≤ 396 := by
  by_cases h : k = 0
  · subst h
    rw [mapv_0]
    omega
  · have := mapv_ok n (by omega) k hk h1 (by omega)
    omega
theorem mapv_lt {n k m : Nat} (h1 : 1 ≤ n) (h2 : n ≤ 99) (hk : k < 6) (hk1 : 1 ≤ k) : prN k ^ (2 * n) < 2 ^ (2 * m + 1) ↔ mapv n k ≤ m := by
  obtain ⟨a1, a2, a3, a4⟩ := mapv_ok n (by omega) k hk h1 hk1
  constructor
  · intro h
    rcases Nat.lt_or_ge m (mapv n k) with q | q
    · have : 2 ^ (2 * m + 1) ≤ 2 ^ (2 * (mapv n k - 1) + 1) := Nat.pow_le_pow_right (by decide) (by omega)
      omega
    · exact q
  · intro h
    have : 2 ^ (2 * mapv n k + 1) ≤ 2 ^ (2 * m + 1) := Nat.pow_le_pow_right (by decide) (by omega)
    omega
def mapE (n k m : Nat) : Vec := fun j => if j = 0 then -2 * (m : Int) - 1 else if j = k then 2 * (n : Int) else 0
theorem mapE_up {n k m : Nat} (hk : k < 6) (hk1 : 1 ≤ k) : upP (mapE n k m) = prN k ^ (2 * n) := by
  have : k = 1 ∨ k = 2 ∨ k = 3 ∨ k = 4 ∨ k = 5 := by omega
  have h0 : (-2 * (m : Int) - 1).toNat = 0 := by omega
  have h1 : (2 * (n : Int)).toNat = 2 * n := by omega
  rcases this with rfl | rfl | rfl | rfl | rfl <;> simp [upP, P6, mapE, h0, h1, prN]
theorem mapE_lo {n k m : Nat} (hk : k < 6) (hk1 : 1 ≤ k) : loP (mapE n k m) = 2 ^ (2 * m + 1) := by
  have : k = 1 ∨ k = 2 ∨ k = 3 ∨ k = 4 ∨ k = 5 := by omega
  have h0 : (-(-2 * (m : Int) - 1)).toNat = 2 * m + 1 := by omega
  have h1 : (-(2 * (n : Int))).toNat = 0 := by omega
  rcases this with rfl | rfl | rfl | rfl | rfl <;> simp [loP, P6, mapE] <;> rw [h0, h1] <;> simp
def mOk (f : Nat → Int32) : Prop := ∀ n k, 1 ≤ n → n ≤ 99 → k < 6 → f (6 * n + k) = 0 ∨ f (6 * n + k) = nI (mapv n k)
/-- the steps of an interval by a division's map -/
def stN (e : Vec) (n : Nat) : Nat → Int
  | 0 => 0
  | i + 1 => stN e n i + e i * (mapv n i : Int)
abbrev scF9 : List Nat := 9 :: scF
theorem MI.scr9 {Z Z' : Nat → Int32} {F F' : Nat → Nat → Int32} {σ : Sg} (h : MI Z F σ) (hz : eqo scZ Z Z') (hf : eqo scF9 F F') (hm : mOk (F' 9)) : MI Z' F' σ := by
  unfold MI
  rw [hz 0 (by decide), hz 14 (by decide), hz 18 (by decide), hz 11 (by decide), hf 2 (by decide), hf 1 (by decide), hf 10 (by decide), hf 12 (by decide), hf 8 (by decide)]
  exact ⟨h.1, h.2.1, h.2.2.1, h.2.2.2.1, h.2.2.2.2.1, h.2.2.2.2.2.1, hm⟩
def sp_map (σ : Sg) (d k : Int32) : Int32 × Sg := if isDiv d && isIn k 6 then (nI (mapv d.toInt.toNat k.toInt.toNat), sSt σ 0) else (-1, sSt σ 3)
def sp_steps (σ : Sg) (s d : Int32) : Int32 × Sg := if isIn s 16 then (if onS σ s then (if isDiv d then (jI (stN (rowS σ s) d.toInt.toNat 6), sSt σ 0) else (-1, sSt σ 3)) else (-1, sSt σ 2)) else (-1, sSt σ 1)
def sp_comma (σ : Sg) (s : Int32) : Int32 × Sg :=
  if isIn s 16 then
    if onS σ s then
      if sgn (rowS σ s) = 0 then (-1, sSt σ 5)
      else if gC σ = 5 then (-1, sSt σ 6)
      else (nI (gC σ + 1), (0, gOn σ, gRow σ, gC σ + 1, va_up (gCr σ) (gC σ) (rowS σ s), σ.2.2.2.2.2))
    else (-1, sSt σ 2)
  else (-1, sSt σ 1)
def allZ (cr : Nat → Vec) (n : Nat) : Nat → Bool
  | 0 => true
  | i + 1 => allZ cr n i && decide (stN (cr i) n 6 = 0)
def supF (c : Nat) (cr : Nat → Vec) : Nat → Nat → Nat
  | 0, _ => 0
  | f + 1, n => if allZ cr n c then n else supF c cr f (n + 1)
def sp_supports (σ : Sg) (d : Int32) : Int32 × Sg := if isDiv d then (nI (supF (gC σ) (gCr σ) (100 - d.toInt.toNat) d.toInt.toNat), sSt σ 0) else (-1, sSt σ 3)
def sp_out (σ : Sg) (k : Int32) : Int32 := if isIn k (gOl σ) then gOb σ k.toInt.toNat else -1
section M8
variable {X : Cx} {Z : Nat → Int32} {F : Nat → Nat → Int32} {L : Nat → Int64} {g : Mem}
theorem m_isDivision {x : Int32} {g : Mem} {Q : Int32 → Mem → Prop} (h : Q (b2i (isDiv x)) g) : CallI X 0 yX9_isDivision [.int x] g Q := by
  refine CallM_intro (own := RX9) [some (.int x)] wX9_isDivision (by decide) (by decide) rfl (Nat.le_of_ble_eq_true rfl) rfl (fun K hK hR => ?_)
  refine q_iload_n hK 0 dX9_isDivision_0 rfl rfl ?_
  refine q_iconst (v := nI 1) hK dX9_isDivision_1 (by decide) ?_
  refine q_icmp_lt hK 15 dX9_isDivision_2 (by decide) (fun c2 => ?_) (fun c2 => ?_)
  · refine q_iconst (v := nI 0) hK dX9_isDivision_15 (by decide) ?_
    have e : isDiv x = false := by have := Int32.lt_iff_toInt_lt.mp c2; rw [nI_toInt (by decide)] at this; simp [isDiv]; omega
    rw [e] at h
    exact q_iret hR dX9_isDivision_16 rfl ⟨_, rfl, h⟩
  · have d1 := mt (Int32.lt_iff_toInt_lt (x := x) (y := nI 1)).mpr c2
    rw [nI_toInt (by decide)] at d1
    refine q_iload_n hK 0 dX9_isDivision_5 rfl rfl ?_
    refine q_bipush (v := nI 99) hK dX9_isDivision_6 (by decide) ?_
    refine q_icmp_gt hK 15 dX9_isDivision_8 (by decide) (fun c8 => ?_) (fun c8 => ?_)
    · refine q_iconst (v := nI 0) hK dX9_isDivision_15 (by decide) ?_
      have e : isDiv x = false := by have := Int32.lt_iff_toInt_lt.mp c8; rw [nI_toInt (by decide)] at this; simp [isDiv]; omega
      rw [e] at h
      exact q_iret hR dX9_isDivision_16 rfl ⟨_, rfl, h⟩
    · refine q_iconst (v := nI 1) hK dX9_isDivision_11 (by decide) ?_
      refine q_goto hK 16 dX9_isDivision_12 (by decide) ?_
      have d2 := mt (Int32.lt_iff_toInt_lt (x := nI 99) (y := x)).mpr c8
      rw [nI_toInt (by decide)] at d2
      have e : isDiv x = true := by simp [isDiv]; omega
      rw [e] at h
      exact q_iret hR dX9_isDivision_16 rfl ⟨_, rfl, h⟩
theorem m_mapOf {n k : Nat} {Q : Int32 → Mem → Prop} (hm : mOk (F 9)) (hn : 1 ≤ n) (hn2 : n ≤ 99) (hk : k < 6) (h : ∀ Z' F', eqo [5, 6] Z Z' → eqo [3, 4, 5, 9] F F' → mOk (F' 9) → Q (nI (mapv n k)) (MM X Z' F' L g)) : CallI X 3 yX9_mapOf [rf X 0, .int (nI n), .int (nI k)] (MM X Z F L g) Q := by
  refine CallM_intro (own := RX9) [some (rf X 0), some (.int (nI n)), some (.int (nI k)), none, none, none, none] wX9_mapOf (by decide) (by decide) rfl (Nat.le_of_ble_eq_true rfl) rfl (fun K hK hR => ?_)
  refine q_iload_n hK 2 dX9_mapOf_0 rfl rfl ?_
  refine q_if_ne hK 6 dX9_mapOf_1 (by decide) (fun c1 => ?_) (fun c1 => ?_)
  rotate_left
  · have : k = 0 := (nI_eq (b := 0) (by omega) (by decide)).mp c1
    subst this
    refine q_iload_n hK 1 dX9_mapOf_4 rfl rfl ?_
    exact q_iret hR dX9_mapOf_5 rfl ⟨_, rfl, h Z F eqo.rf eqo.rf hm⟩
  have hk0 : 1 ≤ k := by
    rcases Nat.eq_zero_or_pos k with q | q
    · exact absurd (by rw [q]; rfl) c1
    · exact q
  have mp := mapv_pos hn hn2 hk
  refine q_aload_n hK 0 dX9_mapOf_6 rfl rfl ?_
  refine q_getf hK dX9_mapOf_7 fX9_35 (by decide) rfl rfl ?_
  refine q_bipush (v := nI 6) hK dX9_mapOf_10 (by decide) ?_
  refine q_iload_n hK 1 dX9_mapOf_12 rfl rfl ?_
  refine q_imul hK dX9_mapOf_13 ?_
  refine q_iload_n hK 2 dX9_mapOf_14 rfl rfl ?_
  refine q_iadd hK dX9_mapOf_15 ?_
  refine qm_iald hK dX9_mapOf_16 (n := 9) (k := 6 * n + k) rfl (by rw [pk_mul, nI_add]) (by show _ < 600; omega) ?_
  refine q_if_le hK 32 dX9_mapOf_17 (by decide) (fun c17 => ?_) (fun c17 => ?_)
  rotate_left
  · have hv : F 9 (6 * n + k) = nI (mapv n k) := by
      rcases hm n k hn hn2 hk with q | q
      · rw [q] at c17
        exact absurd (by decide) c17
      · exact q
    refine q_aload_n hK 0 dX9_mapOf_20 rfl rfl ?_
    refine q_getf hK dX9_mapOf_21 fX9_35 (by decide) rfl rfl ?_
    refine q_bipush (v := nI 6) hK dX9_mapOf_24 (by decide) ?_
    refine q_iload_n hK 1 dX9_mapOf_26 rfl rfl ?_
    refine q_imul hK dX9_mapOf_27 ?_
    refine q_iload_n hK 2 dX9_mapOf_28 rfl rfl ?_
    refine q_iadd hK dX9_mapOf_29 ?_
    refine qm_iald hK dX9_mapOf_30 (n := 9) (k := 6 * n + k) rfl (by rw [pk_mul, nI_add]) (by show _ < 600; omega) ?_
    rw [hv]
    exact q_iret hR dX9_mapOf_31 rfl ⟨_, rfl, h Z F eqo.rf eqo.rf hm⟩
  refine q_iload_n hK 1 dX9_mapOf_32 rfl rfl ?_
  refine q_istore_n hK 3 dX9_mapOf_33 rfl (by decide) ?_
  refine q_iconst (v := nI 4) hK dX9_mapOf_34 (by decide) ?_
  refine q_iload_n hK 1 dX9_mapOf_35 rfl rfl ?_
  refine q_imul hK dX9_mapOf_36 ?_
  refine q_istore hK dX9_mapOf_37 (by decide) ?_
  rw [show nI 4 * nI n = nI (4 * n) from pk_mul 4 n]
  have loop : ∀ f lo hi v5 v6 Z' F', hi - lo = f → lo ≤ mapv n k → mapv n k ≤ hi → hi ≤ 396 → eqo [5, 6] Z Z' → eqo [3, 4, 5] F F' → K (MM X Z' F' L g) 39 [some (rf X 0), some (.int (nI n)), some (.int (nI k)), some (.int (nI lo)), some (.int (nI hi)), v5, v6] [] := by
    intro f
    induction f using Nat.strongRecOn with
    | ind f ih =>
      intro lo hi v5 v6 Z' F' hf hlo hhi h396 z1 z2
      refine q_iload_n hK 3 dX9_mapOf_39 rfl rfl ?_
      refine q_iload hK dX9_mapOf_40 rfl ?_
      refine q_icmp_ge hK 121 dX9_mapOf_42 (by decide) (fun c42 => ?_) (fun c42 => ?_)
      · have hge := (nI_leI (by omega) (by omega)).mp c42
        have hlm : lo = mapv n k := by omega
        refine q_aload_n hK 0 dX9_mapOf_121 rfl rfl ?_
        refine q_getf hK dX9_mapOf_122 fX9_35 (by decide) rfl rfl ?_
        refine q_bipush (v := nI 6) hK dX9_mapOf_125 (by decide) ?_
        refine q_iload_n hK 1 dX9_mapOf_127 rfl rfl ?_
        refine q_imul hK dX9_mapOf_128 ?_
        refine q_iload_n hK 2 dX9_mapOf_129 rfl rfl ?_
        refine q_iadd hK dX9_mapOf_130 ?_
        refine q_iload_n hK 3 dX9_mapOf_131 rfl rfl ?_
        refine qm_iast hK dX9_mapOf_132 (n := 9) (k := 6 * n + k) rfl (by rw [pk_mul, nI_add]) (by show _ < 600; omega) ?_
        refine q_iload_n hK 3 dX9_mapOf_133 rfl rfl ?_
        rw [hlm]
        refine q_iret hR dX9_mapOf_134 rfl ⟨_, rfl, h _ _ z1 ((z2.mono (by decide)).up (by decide)) ?_⟩
        intro n' k' h1 h2 h3
        rw [up_same]
        by_cases e : 6 * n' + k' = 6 * n + k
        · have e1 : n' = n := by omega
          have e2 : k' = k := by omega
          subst e1
          subst e2
          rw [upd_same]
          exact Or.inr rfl
        · rw [upd_ne e, z2 9 (by decide)]
          exact hm n' k' h1 h2 h3
      · have hlt := mt (nI_leI (a := hi) (b := lo) (by omega) (by omega)).mpr c42
        refine q_iload_n hK 3 dX9_mapOf_45 rfl rfl ?_
        refine q_iload hK dX9_mapOf_46 rfl ?_
        refine q_iadd hK dX9_mapOf_48 ?_
        refine q_iconst (v := nI 2) hK dX9_mapOf_49 (by decide) ?_
        refine q_idiv hK dX9_mapOf_50 (by decide) ?_
        rw [nI_add, show nI (lo + hi) / nI 2 = nI ((lo + hi) / 2) from pk_div (by omega) (by decide) (by decide)]
        refine q_istore hK dX9_mapOf_51 (by decide) ?_
        refine q_iconst (v := nI 0) hK dX9_mapOf_53 (by decide) ?_
        refine q_istore hK dX9_mapOf_54 (by decide) ?_
        generalize hmm : (lo + hi) / 2 = m
        have zl : ∀ q i f, i + q = 6 → (∀ j, j < i → f j = 0) → K (MM X Z' (va_up F' 5 f) L g) 56 [some (rf X 0), some (.int (nI n)), some (.int (nI k)), some (.int (nI lo)), some (.int (nI hi)), some (.int (nI m)), some (.int (nI i))] [] := by
          intro q
          induction q with
          | zero =>
            intro i f hi' hz
            refine q_iload hK dX9_mapOf_56 rfl ?_
            refine q_bipush (v := nI 6) hK dX9_mapOf_58 (by decide) ?_
            refine q_icmp_ge hK 77 dX9_mapOf_60 (by decide) (fun c60 => ?_) (fun c60 => ?_)
            · refine q_aload_n hK 0 dX9_mapOf_77 rfl rfl ?_
              refine q_getf hK dX9_mapOf_78 fX9_23 (by decide) rfl rfl ?_
              refine q_iload_n hK 2 dX9_mapOf_81 rfl rfl ?_
              refine q_iconst (v := nI 2) hK dX9_mapOf_82 (by decide) ?_
              refine q_iload_n hK 1 dX9_mapOf_83 rfl rfl ?_
              refine q_imul hK dX9_mapOf_84 ?_
              refine qm_iast hK dX9_mapOf_85 (n := 5) (k := k) rfl rfl (by show k < 6; omega) ?_
              refine q_aload_n hK 0 dX9_mapOf_86 rfl rfl ?_
              refine q_getf hK dX9_mapOf_87 fX9_23 (by decide) rfl rfl ?_
              refine q_iconst (v := nI 0) hK dX9_mapOf_90 (by decide) ?_
              refine q_bipush (v := jI (-2)) hK dX9_mapOf_91 (by decide) ?_
              refine q_iload hK dX9_mapOf_93 rfl ?_
              refine q_imul hK dX9_mapOf_95 ?_
              refine q_iconst (v := nI 1) hK dX9_mapOf_96 (by decide) ?_
              refine q_isub hK dX9_mapOf_97 ?_
              refine qm_iast hK dX9_mapOf_98 (n := 5) (k := 0) rfl rfl (by decide) ?_
              refine q_aload_n hK 0 dX9_mapOf_99 rfl rfl ?_
              simp only [up_up, up_same]
              have hE : ∀ j, j < 6 → upd (upd f k (nI 2 * nI n)) 0 (jI (-2) * nI m - nI 1) j = jI (mapE n k m j) := by
                intro j hj
                by_cases e0 : j = 0
                · subst e0
                  rw [upd_same, jI_nat m, jI_nat 1, jI_mul, jI_sub]
                  rfl
                · rw [upd_ne e0]
                  by_cases e1 : j = k
                  · subst e1
                    rw [upd_same, pk_mul, jI_nat]
                    simp [mapE, e0]
                  · rw [upd_ne e1, hz j (by omega)]
                    simp [mapE, e0, e1]
                    rfl
              refine q_cVi0 hK dX9_mapOf_100 lX9_96 (by decide) (by decide) rfl (Nat.le_of_ble_eq_true rfl) (m_sign (e := mapE n k m) ?_ ?_ (fun Z2 F2 y1 y2 => ?_))
              · intro j hj
                rw [up_same]
                refine ⟨hE j hj, ?_, ?_⟩ <;> simp only [mapE] <;> split <;> first | omega | (split <;> omega)
              · constructor
                · rw [mapE_up hk hk0]
                  exact Nat.lt_of_le_of_lt (Nat.le_trans (Nat.pow_le_pow_left (prN_le k) _) (Nat.pow_le_pow_right (by decide) (show 2 * n ≤ 198 by omega))) (by decide +kernel : 13 ^ 198 < bB ^ 130)
                · rw [mapE_lo hk hk0]
                  exact Nat.lt_of_le_of_lt (Nat.pow_le_pow_right (by decide) (show 2 * m + 1 ≤ 800 by omega)) (by decide +kernel : 2 ^ 800 < bB ^ 130)
              have sr := sgn_range (mapE n k m)
              have hsg : sgn (mapE n k m) < 0 ↔ mapv n k ≤ m := by rw [sgn_neg, mapE_up hk hk0, mapE_lo hk hk0]; exact mapv_lt hn hn2 hk hk0
              have w2 : eqo [3, 4, 5] F F2 := fun j hj => by rw [y2 j (by simp at hj ⊢; omega), up_ne (by simp at hj; omega)]; exact z2 j hj
              refine q_if_ge hK 113 dX9_mapOf_103 (by decide) (fun c103 => ?_) (fun c103 => ?_)
              · have q1 := (jI_0le (by omega) (by omega)).mp c103
                refine q_iload hK dX9_mapOf_113 rfl ?_
                refine q_iconst (v := nI 1) hK dX9_mapOf_115 (by decide) ?_
                refine q_iadd hK dX9_mapOf_116 ?_
                refine q_istore_n hK 3 dX9_mapOf_117 rfl (by decide) ?_
                refine q_goto hK 39 dX9_mapOf_118 (by decide) ?_
                rw [show nI m + nI 1 = nI (m + 1) from nI_add m 1]
                have : ¬ mapv n k ≤ m := fun z => by have := hsg.mpr z; omega
                exact ih (hi - (m + 1)) (by omega) (m + 1) hi _ _ Z2 F2 rfl (by omega) hhi h396 (z1.tr y1) w2
              · have q1 := mt (jI_0le (b := sgn (mapE n k m)) (by omega) (by omega)).mpr c103
                have hle := hsg.mp (by omega)
                refine q_iload hK dX9_mapOf_106 rfl ?_
                refine q_istore hK dX9_mapOf_108 (by decide) ?_
                refine q_goto hK 118 dX9_mapOf_110 (by decide) ?_
                refine q_goto hK 39 dX9_mapOf_118 (by decide) ?_
                exact ih (m - lo) (by omega) lo m _ _ Z2 F2 rfl hlo hle (by omega) (z1.tr y1) w2
            · exact absurd ((nI_leI (by decide) (by omega)).mpr (by omega)) c60
          | succ q ihq =>
            intro i f hi' hz
            refine q_iload hK dX9_mapOf_56 rfl ?_
            refine q_bipush (v := nI 6) hK dX9_mapOf_58 (by decide) ?_
            refine q_icmp_ge hK 77 dX9_mapOf_60 (by decide) (fun c60 => ?_) (fun c60 => ?_)
            · have := (nI_leI (by decide) (by omega)).mp c60
              omega
            · refine q_aload_n hK 0 dX9_mapOf_63 rfl rfl ?_
              refine q_getf hK dX9_mapOf_64 fX9_23 (by decide) rfl rfl ?_
              refine q_iload hK dX9_mapOf_67 rfl ?_
              refine q_iconst (v := nI 0) hK dX9_mapOf_69 (by decide) ?_
              refine qm_iast hK dX9_mapOf_70 (n := 5) (k := i) rfl rfl (by show i < 6; omega) ?_
              refine q_inc1 hK dX9_mapOf_71 rfl (by decide) ?_
              refine q_goto hK 56 dX9_mapOf_74 (by decide) ?_
              rw [up_up, up_same]
              refine ihq (i + 1) _ (by omega) (fun j hj => ?_)
              by_cases e : j = i
              · rw [e, upd_same]; rfl
              · rw [upd_ne e]
                exact hz j (by omega)
        have := zl 6 0 (F' 5) rfl (fun j hj => by omega)
        rw [up_id] at this
        exact this
  have ok := mapv_ok n (by omega) k hk hn hk0
  exact loop _ n (4 * n) none none Z F rfl (by omega) (by omega) (by omega) eqo.rf eqo.rf
theorem MI.mok {σ : Sg} (h : MI Z F σ) : mOk (F 9) := h.2.2.2.2.2.2
theorem M_map {σ : Sg} {d k : Int32} {Q : Int32 → Mem → Prop} (hI : MI Z F σ) (h : ∀ Z' F' L', MI Z' F' (sp_map σ d k).2 → Q (sp_map σ d k).1 (MM X Z' F' L' g)) : CallI X 9 yX9_map [rf X 0, .int d, .int k] (MM X Z F L g) Q := by
  refine CallM_intro (own := RX9) [some (rf X 0), some (.int d), some (.int k)] wX9_map (by decide) (by decide) rfl (Nat.le_of_ble_eq_true rfl) rfl (fun K hK hR => ?_)
  have bad : (isDiv d && isIn k 6) = false → K (MM X Z F L g) 16 [some (rf X 0), some (.int d), some (.int k)] [] := by
    intro hb
    simp only [sp_map, hb] at h
    refine q_aload_n hK 0 dX9_map_16 rfl rfl ?_
    refine q_iconst (v := nI 3) hK dX9_map_17 (by decide) ?_
    refine q_cVi1 hK dX9_map_18 lX9_136 (by decide) (by decide) rfl (Nat.le_of_ble_eq_true rfl) (m_none ?_)
    exact q_iret hR dX9_map_21 rfl ⟨_, rfl, h _ _ _ (hI.st 3)⟩
  refine q_iload_n hK 1 dX9_map_0 rfl rfl ?_
  refine q_cSi1 hK dX9_map_1 lX9_153 (by decide) (Nat.le_of_ble_eq_true rfl) (m_isDivision ?_)
  refine q_if_eq hK 16 dX9_map_4 (by decide) (fun c4 => ?_) (fun c4 => ?_)
  · exact bad (by simp [(b2i_eq0 _).mp c4])
  have hd := (b2i_ne0 _).mp c4
  refine q_iload_n hK 2 dX9_map_7 rfl rfl ?_
  refine q_if_lt hK 16 dX9_map_8 (by decide) (fun c8 => ?_) (fun c8 => ?_)
  · exact bad (by have := lt0_iff.mp c8; simp [isIn]; omega)
  refine q_iload_n hK 2 dX9_map_11 rfl rfl ?_
  refine q_iconst (v := nI 5) hK dX9_map_12 (by decide) ?_
  refine q_icmp_le hK 22 dX9_map_13 (by decide) (fun c13 => ?_) (fun c13 => ?_)
  rotate_left
  · exact bad (by have := mt (Int32.le_iff_toInt_le (x := k) (y := nI 5)).mpr c13; rw [nI_toInt (by decide)] at this; simp [isIn]; omega)
  have hk : isIn k 6 = true := by
    have h1 := mt lt0_iff.mpr c8
    have h2 := Int32.le_iff_toInt_le.mp c13
    rw [nI_toInt (by decide)] at h2
    simp [isIn]
    omega
  obtain ⟨ik, hk1, rfl, hk2⟩ := isIn_ex hk (by decide)
  obtain ⟨n, hn1, hn2, rfl, hn3⟩ := isDiv_ex hd
  simp only [sp_map, hd, hk, hk2, hn3, Bool.and_self, if_true] at h
  refine q_aload_n hK 0 dX9_map_22 rfl rfl ?_
  refine q_iconst (v := nI 0) hK dX9_map_23 (by decide) ?_
  refine qm_put0 hK dX9_map_24 pX9_66 ?_
  refine q_aload_n hK 0 dX9_map_27 rfl rfl ?_
  refine q_iload_n hK 1 dX9_map_28 rfl rfl ?_
  refine q_iload_n hK 2 dX9_map_29 rfl rfl ?_
  refine q_cVi2 hK dX9_map_30 lX9_156 (by decide) (by decide) rfl (Nat.le_of_ble_eq_true rfl) (m_mapOf hI.mok hn1 hn2 hk1 (fun Z' F' z1 z2 z3 => ?_))
  exact q_iret hR dX9_map_33 rfl ⟨_, rfl, h _ _ _ ((hI.st 0).scr9 (sc56 z1) (z2.mono (by decide)) z3)⟩
theorem m_stepsOf {nm a n : Nat} {e : Vec} {Q : Int32 → Mem → Prop} (hI : mOk (F 9)) (hnm : mI nm = true) (h5 : nm ∉ [3, 4, 5, 9]) (ha : a + 6 ≤ mlen nm) (he : ∀ k, k < 6 → F nm (a + k) = jI (e k)) (hn : 1 ≤ n) (hn2 : n ≤ 99) (h : ∀ Z' F', eqo [5, 6] Z Z' → eqo [3, 4, 5, 9] F F' → mOk (F' 9) → Q (jI (stN e n 6)) (MM X Z' F' L g)) : CallI X 4 yX9_stepsOf [rf X 0, rf X nm, .int (nI a), .int (nI n)] (MM X Z F L g) Q := by
  refine CallM_intro (own := RX9) [some (rf X 0), some (rf X nm), some (.int (nI a)), some (.int (nI n)), none, none] wX9_stepsOf (by decide) (by decide) rfl (Nat.le_of_ble_eq_true rfl) rfl (fun K hK hR => ?_)
  refine q_iconst (v := nI 0) hK dX9_stepsOf_0 (by decide) ?_
  refine q_istore hK dX9_stepsOf_1 (by decide) ?_
  refine q_iconst (v := nI 0) hK dX9_stepsOf_3 (by decide) ?_
  refine q_istore hK dX9_stepsOf_4 (by decide) ?_
  have loop : ∀ m i Z' F', i + m = 6 → eqo [5, 6] Z Z' → eqo [3, 4, 5, 9] F F' → mOk (F' 9) → K (MM X Z' F' L g) 6 [some (rf X 0), some (rf X nm), some (.int (nI a)), some (.int (nI n)), some (.int (jI (stN e n i))), some (.int (nI i))] [] := by
    intro m
    induction m with
    | zero =>
      intro i Z' F' hi z1 z2 z3
      have : i = 6 := by omega
      subst this
      refine q_iload hK dX9_stepsOf_6 rfl ?_
      refine q_bipush (v := nI 6) hK dX9_stepsOf_8 (by decide) ?_
      refine q_icmp_ge hK 38 dX9_stepsOf_10 (by decide) (fun c10 => ?_) (fun c10 => ?_)
      · refine q_iload hK dX9_stepsOf_38 rfl ?_
        exact q_iret hR dX9_stepsOf_40 rfl ⟨_, rfl, h _ _ z1 z2 z3⟩
      · exact absurd ((nI_leI (by decide) (by decide)).mpr (by decide)) c10
    | succ m ih =>
      intro i Z' F' hi z1 z2 z3
      refine q_iload hK dX9_stepsOf_6 rfl ?_
      refine q_bipush (v := nI 6) hK dX9_stepsOf_8 (by decide) ?_
      refine q_icmp_ge hK 38 dX9_stepsOf_10 (by decide) (fun c10 => ?_) (fun c10 => ?_)
      · have := (nI_leI (by decide) (by omega)).mp c10
        omega
      · refine q_iload hK dX9_stepsOf_13 rfl ?_
        refine q_aload_n hK 1 dX9_stepsOf_15 rfl rfl ?_
        refine q_iload_n hK 2 dX9_stepsOf_16 rfl rfl ?_
        refine q_iload hK dX9_stepsOf_17 rfl ?_
        refine q_iadd hK dX9_stepsOf_19 ?_
        refine qm_iald hK dX9_stepsOf_20 hnm (nI_add a i) (by omega) ?_
        rw [z2 nm h5, he i (by omega)]
        refine q_aload_n hK 0 dX9_stepsOf_21 rfl rfl ?_
        refine q_iload_n hK 3 dX9_stepsOf_22 rfl rfl ?_
        refine q_iload hK dX9_stepsOf_23 rfl ?_
        refine q_cVi2 hK dX9_stepsOf_25 lX9_156 (by decide) (by decide) rfl (Nat.le_of_ble_eq_true rfl) (m_mapOf z3 hn hn2 (by omega) (fun Z2 F2 y1 y2 y3 => ?_))
        refine q_imul hK dX9_stepsOf_28 ?_
        refine q_iadd hK dX9_stepsOf_29 ?_
        refine q_istore hK dX9_stepsOf_30 (by decide) ?_
        refine q_inc1 hK dX9_stepsOf_32 rfl (by decide) ?_
        refine q_goto hK 6 dX9_stepsOf_35 (by decide) ?_
        rw [jI_nat (mapv n i), jI_mul, jI_add]
        exact ih (i + 1) Z2 F2 (by omega) (z1.tr y1) (z2.tr y2) y3
  exact loop 6 0 Z F rfl eqo.rf eqo.rf hI
theorem M_steps {σ : Sg} {s d : Int32} {Q : Int32 → Mem → Prop} (hI : MI Z F σ) (h : ∀ Z' F' L', MI Z' F' (sp_steps σ s d).2 → Q (sp_steps σ s d).1 (MM X Z' F' L' g)) : CallI X 9 yX9_steps [rf X 0, .int s, .int d] (MM X Z F L g) Q := by
  refine CallM_intro (own := RX9) [some (rf X 0), some (.int s), some (.int d)] wX9_steps (by decide) (by decide) rfl (Nat.le_of_ble_eq_true rfl) rfl (fun K hK hR => ?_)
  refine q_iload_n hK 1 dX9_steps_0 rfl rfl ?_
  refine q_cSi1 hK dX9_steps_1 lX9_111 (by decide) (Nat.le_of_ble_eq_true rfl) (m_isShelf ?_)
  refine q_if_ne hK 13 dX9_steps_4 (by decide) (fun c4 => ?_) (fun c4 => ?_)
  rotate_left
  · have hs := (b2i_eq0 _).mp c4
    simp only [sp_steps, hs] at h
    refine q_aload_n hK 0 dX9_steps_7 rfl rfl ?_
    refine q_iconst (v := nI 1) hK dX9_steps_8 (by decide) ?_
    refine q_cVi1 hK dX9_steps_9 lX9_136 (by decide) (by decide) rfl (Nat.le_of_ble_eq_true rfl) (m_none ?_)
    exact q_iret hR dX9_steps_12 rfl ⟨_, rfl, h _ _ _ (hI.st 1)⟩
  have hs := (b2i_ne0 _).mp c4
  obtain ⟨ia, ha1, rfl, ha2⟩ := isIn_ex hs (by decide)
  simp only [sp_steps, hs, onS, rowS, ha2, if_true] at h
  refine q_aload_n hK 0 dX9_steps_13 rfl rfl ?_
  refine q_getf hK dX9_steps_14 fX9_13 (by decide) rfl rfl ?_
  refine q_iload_n hK 1 dX9_steps_17 rfl rfl ?_
  refine qm_zald hK dX9_steps_18 rfl ha1 ?_
  rw [hI.2.1 ia ha1]
  refine q_if_ne hK 28 dX9_steps_19 (by decide) (fun c19 => ?_) (fun c19 => ?_)
  rotate_left
  · have ho := (b2i_eq0 _).mp c19
    simp only [ho] at h
    refine q_aload_n hK 0 dX9_steps_22 rfl rfl ?_
    refine q_iconst (v := nI 2) hK dX9_steps_23 (by decide) ?_
    refine q_cVi1 hK dX9_steps_24 lX9_136 (by decide) (by decide) rfl (Nat.le_of_ble_eq_true rfl) (m_none ?_)
    exact q_iret hR dX9_steps_27 rfl ⟨_, rfl, h _ _ _ (hI.st 2)⟩
  have oa := (b2i_ne0 _).mp c19
  simp only [oa, if_true] at h
  have rA := hI.2.2.1 ia ha1 oa
  refine q_iload_n hK 2 dX9_steps_28 rfl rfl ?_
  refine q_cSi1 hK dX9_steps_29 lX9_153 (by decide) (Nat.le_of_ble_eq_true rfl) (m_isDivision ?_)
  refine q_if_ne hK 41 dX9_steps_32 (by decide) (fun c32 => ?_) (fun c32 => ?_)
  rotate_left
  · have hd := (b2i_eq0 _).mp c32
    simp only [hd] at h
    refine q_aload_n hK 0 dX9_steps_35 rfl rfl ?_
    refine q_iconst (v := nI 3) hK dX9_steps_36 (by decide) ?_
    refine q_cVi1 hK dX9_steps_37 lX9_136 (by decide) (by decide) rfl (Nat.le_of_ble_eq_true rfl) (m_none ?_)
    exact q_iret hR dX9_steps_40 rfl ⟨_, rfl, h _ _ _ (hI.st 3)⟩
  have hd := (b2i_ne0 _).mp c32
  obtain ⟨n, hn1, hn2, rfl, hn3⟩ := isDiv_ex hd
  simp only [hd, hn3, if_true] at h
  refine q_aload_n hK 0 dX9_steps_41 rfl rfl ?_
  refine q_iconst (v := nI 0) hK dX9_steps_42 (by decide) ?_
  refine qm_put0 hK dX9_steps_43 pX9_66 ?_
  refine q_aload_n hK 0 dX9_steps_46 rfl rfl ?_
  refine q_aload_n hK 0 dX9_steps_47 rfl rfl ?_
  refine q_getf hK dX9_steps_48 fX9_7 (by decide) rfl rfl ?_
  refine q_bipush (v := nI 6) hK dX9_steps_51 (by decide) ?_
  refine q_iload_n hK 1 dX9_steps_53 rfl rfl ?_
  refine q_imul hK dX9_steps_54 ?_
  refine q_iload_n hK 2 dX9_steps_55 rfl rfl ?_
  rw [show nI 6 * nI ia = nI (6 * ia) from pk_mul 6 ia]
  refine q_cVi3 hK dX9_steps_56 lX9_159 (by decide) (by decide) rfl (Nat.le_of_ble_eq_true rfl) (m_stepsOf (nm := 1) (a := 6 * ia) (e := gRow σ ia) hI.mok rfl (by decide) (by show 6 * ia + 6 ≤ 96; omega) (fun k hk => (rA k hk).1) hn1 hn2 (fun Z' F' z1 z2 z3 => ?_))
  exact q_iret hR dX9_steps_59 rfl ⟨_, rfl, h _ _ _ ((hI.st 0).scr9 (sc56 z1) (z2.mono (by decide)) z3)⟩
theorem M_out {σ : Sg} {k : Int32} {Q : Int32 → Mem → Prop} (hI : MI Z F σ) (h : Q (sp_out σ k) (MM X Z F L g)) : CallI X 9 yX9_out [rf X 0, .int k] (MM X Z F L g) Q := by
  obtain ⟨o1, o2, o3⟩ := hI.2.2.2.2.2.1
  refine CallM_intro (own := RX9) [some (rf X 0), some (.int k)] wX9_out (by decide) (by decide) rfl (Nat.le_of_ble_eq_true rfl) rfl (fun K hK hR => ?_)
  have bad : isIn k (gOl σ) = false → K (MM X Z F L g) 21 [some (rf X 0), some (.int k)] [] := by
    intro hb
    simp only [sp_out, hb] at h
    refine q_iconst (v := jI (-1)) hK dX9_out_21 (by decide) ?_
    exact q_iret hR dX9_out_22 rfl ⟨_, rfl, h⟩
  refine q_iload_n hK 1 dX9_out_0 rfl rfl ?_
  refine q_if_lt hK 21 dX9_out_1 (by decide) (fun c1 => ?_) (fun c1 => ?_)
  · exact bad (by have := lt0_iff.mp c1; simp [isIn]; omega)
  refine q_iload_n hK 1 dX9_out_4 rfl rfl ?_
  refine q_aload_n hK 0 dX9_out_5 rfl rfl ?_
  refine q_getf hK dX9_out_6 fX9_143 (by decide) rfl rfl ?_
  rw [o1]
  refine q_icmp_ge hK 21 dX9_out_9 (by decide) (fun c9 => ?_) (fun c9 => ?_)
  · exact bad (by have := (nle_iff (by omega)).mp c9; simp [isIn]; omega)
  have hk : isIn k (gOl σ) = true := by
    have h1 := mt lt0_iff.mpr c1
    have h2 := mt (nle_iff (x := k) (n := gOl σ) (by omega)).mpr c9
    simp [isIn]
    omega
  obtain ⟨ik, hk1, rfl, hk2⟩ := isIn_ex hk (by omega)
  simp only [sp_out, hk, hk2, if_true] at h
  refine q_aload_n hK 0 dX9_out_12 rfl rfl ?_
  refine q_getf hK dX9_out_13 fX9_32 (by decide) rfl rfl ?_
  refine q_iload_n hK 1 dX9_out_16 rfl rfl ?_
  refine qm_iald hK dX9_out_17 (n := 8) (k := ik) rfl rfl (by show _ < 400; omega) ?_
  refine q_goto hK 22 dX9_out_18 (by decide) ?_
  rw [o3 ik hk1]
  exact q_iret hR dX9_out_22 rfl ⟨_, rfl, h⟩
theorem M_comma {σ : Sg} {s : Int32} {Q : Int32 → Mem → Prop} (hI : MI Z F σ) (h : ∀ Z' F' L', MI Z' F' (sp_comma σ s).2 → Q (sp_comma σ s).1 (MM X Z' F' L' g)) : CallI X 9 yX9_comma [rf X 0, .int s] (MM X Z F L g) Q := by
  refine CallM_intro (own := RX9) [some (rf X 0), some (.int s)] wX9_comma (by decide) (by decide) rfl (Nat.le_of_ble_eq_true rfl) rfl (fun K hK hR => ?_)
  refine q_iload_n hK 1 dX9_comma_0 rfl rfl ?_
  refine q_cSi1 hK dX9_comma_1 lX9_111 (by decide) (Nat.le_of_ble_eq_true rfl) (m_isShelf ?_)
  refine q_if_ne hK 13 dX9_comma_4 (by decide) (fun c4 => ?_) (fun c4 => ?_)
  rotate_left
  · have hs := (b2i_eq0 _).mp c4
    simp only [sp_comma, hs] at h
    refine q_aload_n hK 0 dX9_comma_7 rfl rfl ?_
    refine q_iconst (v := nI 1) hK dX9_comma_8 (by decide) ?_
    refine q_cVi1 hK dX9_comma_9 lX9_136 (by decide) (by decide) rfl (Nat.le_of_ble_eq_true rfl) (m_none ?_)
    exact q_iret hR dX9_comma_12 rfl ⟨_, rfl, h _ _ _ (hI.st 1)⟩
  have hs := (b2i_ne0 _).mp c4
  obtain ⟨ia, ha1, rfl, ha2⟩ := isIn_ex hs (by decide)
  simp only [sp_comma, hs, onS, rowS, ha2, if_true] at h
  refine q_aload_n hK 0 dX9_comma_13 rfl rfl ?_
  refine q_getf hK dX9_comma_14 fX9_13 (by decide) rfl rfl ?_
  refine q_iload_n hK 1 dX9_comma_17 rfl rfl ?_
  refine qm_zald hK dX9_comma_18 rfl ha1 ?_
  rw [hI.2.1 ia ha1]
  refine q_if_ne hK 28 dX9_comma_19 (by decide) (fun c19 => ?_) (fun c19 => ?_)
  rotate_left
  · have ho := (b2i_eq0 _).mp c19
    simp only [ho] at h
    refine q_aload_n hK 0 dX9_comma_22 rfl rfl ?_
    refine q_iconst (v := nI 2) hK dX9_comma_23 (by decide) ?_
    refine q_cVi1 hK dX9_comma_24 lX9_136 (by decide) (by decide) rfl (Nat.le_of_ble_eq_true rfl) (m_none ?_)
    exact q_iret hR dX9_comma_27 rfl ⟨_, rfl, h _ _ _ (hI.st 2)⟩
  have oa := (b2i_ne0 _).mp c19
  simp only [oa, if_true] at h
  have rA := hI.2.2.1 ia ha1 oa
  refine q_aload_n hK 0 dX9_comma_28 rfl rfl ?_
  refine q_aload_n hK 0 dX9_comma_29 rfl rfl ?_
  refine q_getf hK dX9_comma_30 fX9_7 (by decide) rfl rfl ?_
  refine q_bipush (v := nI 6) hK dX9_comma_33 (by decide) ?_
  refine q_iload_n hK 1 dX9_comma_35 rfl rfl ?_
  refine q_imul hK dX9_comma_36 ?_
  rw [show nI 6 * nI ia = nI (6 * ia) from pk_mul 6 ia]
  refine q_cVv2 hK dX9_comma_37 lX9_89 (by decide) (by decide) rfl (Nat.le_of_ble_eq_true rfl) (m_hold (n := 1) (a := 6 * ia) rfl (by decide) (by show 6 * ia + 6 ≤ 96; omega) (fun f hf => ?_))
  refine q_aload_n hK 0 dX9_comma_40 rfl rfl ?_
  refine q_cVi0 hK dX9_comma_41 lX9_96 (by decide) (by decide) rfl (Nat.le_of_ble_eq_true rfl) (m_sign (e := gRow σ ia) (fun k hk => by rw [up_same, hf k hk]; have := rA k hk; exact ⟨this.1, by omega, by omega⟩) (fits_of (fun k hk => by have := (rA k hk).2; omega)) (fun Z1 F1 z1 z2 => ?_))
  have sr := sgn_range (gRow σ ia)
  have hI1 : MI Z1 F1 σ := hI.scr (sc56 z1) (fun j hj => by rw [z2 j (by simp at hj ⊢; omega), up_ne (by simp at hj; omega)])
  refine q_if_ne hK 53 dX9_comma_44 (by decide) (fun c44 => ?_) (fun c44 => ?_)
  rotate_left
  · have q := (jI_eq0 (by omega) (by omega)).mp c44
    simp only [q, if_true] at h
    refine q_aload_n hK 0 dX9_comma_47 rfl rfl ?_
    refine q_iconst (v := nI 5) hK dX9_comma_48 (by decide) ?_
    refine q_cVi1 hK dX9_comma_49 lX9_136 (by decide) (by decide) rfl (Nat.le_of_ble_eq_true rfl) (m_none ?_)
    exact q_iret hR dX9_comma_52 rfl ⟨_, rfl, h _ _ _ (hI1.st 5)⟩
  have q : ¬ sgn (gRow σ ia) = 0 := fun z => c44 ((jI_eq0 (by omega) (by omega)).mpr z)
  simp only [q, if_false] at h
  refine q_aload_n hK 0 dX9_comma_53 rfl rfl ?_
  refine q_getf hK dX9_comma_54 fX9_162 (by decide) rfl rfl ?_
  refine q_iconst (v := nI 5) hK dX9_comma_57 (by decide) ?_
  obtain ⟨b1, b2, b3⟩ := hI1.2.2.2.1
  rw [b1]
  refine q_icmp_ne hK 68 dX9_comma_58 (by decide) (fun c58 => ?_) (fun c58 => ?_)
  rotate_left
  · have q5 : gC σ = 5 := (nI_eq (by omega) (by decide)).mp c58
    simp only [q5, if_true] at h
    refine q_aload_n hK 0 dX9_comma_61 rfl rfl ?_
    refine q_bipush (v := nI 6) hK dX9_comma_62 (by decide) ?_
    refine q_cVi1 hK dX9_comma_64 lX9_136 (by decide) (by decide) rfl (Nat.le_of_ble_eq_true rfl) (m_none ?_)
    exact q_iret hR dX9_comma_67 rfl ⟨_, rfl, h _ _ _ (hI1.st 6)⟩
  have q5 : ¬ gC σ = 5 := fun z => c58 (by rw [z])
  simp only [q5, if_false] at h
  refine q_aload_n hK 0 dX9_comma_68 rfl rfl ?_
  refine q_iconst (v := nI 0) hK dX9_comma_69 (by decide) ?_
  refine qm_put0 hK dX9_comma_70 pX9_66 ?_
  refine q_aload_n hK 0 dX9_comma_73 rfl rfl ?_
  refine q_aload_n hK 0 dX9_comma_74 rfl rfl ?_
  refine q_getf hK dX9_comma_75 fX9_7 (by decide) rfl rfl ?_
  refine q_bipush (v := nI 6) hK dX9_comma_78 (by decide) ?_
  refine q_iload_n hK 1 dX9_comma_80 rfl rfl ?_
  refine q_imul hK dX9_comma_81 ?_
  rw [show nI 6 * nI ia = nI (6 * ia) from pk_mul 6 ia]
  refine q_cVv2 hK dX9_comma_82 lX9_89 (by decide) (by decide) rfl (Nat.le_of_ble_eq_true rfl) (m_hold (n := 1) (a := 6 * ia) rfl (by decide) (by show 6 * ia + 6 ≤ 96; omega) (fun f2 hf2 => ?_))
  refine q_aload_n hK 0 dX9_comma_85 rfl rfl ?_
  refine q_aload_n hK 0 dX9_comma_86 rfl rfl ?_
  refine q_getf hK dX9_comma_87 fX9_38 (by decide) rfl rfl ?_
  refine q_bipush (v := nI 6) hK dX9_comma_90 (by decide) ?_
  refine q_aload_n hK 0 dX9_comma_92 rfl rfl ?_
  refine q_getf hK dX9_comma_93 fX9_162 (by decide) rfl rfl ?_
  refine q_imul hK dX9_comma_96 ?_
  rw [up_ne (by decide : (14 : Nat) ≠ 0), b1, show nI 6 * nI (gC σ) = nI (6 * gC σ) from pk_mul 6 _]
  refine q_cVv2 hK dX9_comma_97 lX9_108 (by decide) (by decide) rfl (Nat.le_of_ble_eq_true rfl) (m_give (n := 10) (a := 6 * gC σ) rfl (by decide) (by show 6 * gC σ + 6 ≤ 36; omega) (fun f3 h3 h4 => ?_))
  refine q_aload_n hK 0 dX9_comma_100 rfl rfl ?_
  refine q_dup hK dX9_comma_101 rfl ?_
  refine q_getf hK dX9_comma_102 fX9_162 (by decide) rfl rfl ?_
  refine q_iconst (v := nI 1) hK dX9_comma_105 (by decide) ?_
  refine q_iadd hK dX9_comma_106 ?_
  refine qm_put14 hK dX9_comma_107 pX9_162 ?_
  refine q_aload_n hK 0 dX9_comma_110 rfl rfl ?_
  refine q_getf hK dX9_comma_111 fX9_162 (by decide) rfl rfl ?_
  rw [up_ne (by decide : (14 : Nat) ≠ 0), b1, show nI (gC σ) + nI 1 = nI (gC σ + 1) from nI_add _ 1, up_same]
  have e1 : F1 1 = F 1 := z2 1 (by decide)
  obtain ⟨a1, a2, a3, a4, a5, a6, a7⟩ := hI1
  refine q_iret hR dX9_comma_114 rfl ⟨_, rfl, h _ _ _ ⟨?_, ?_, ?_, ⟨?_, by show gC σ + 1 ≤ 5; omega, fun i hi => ?_⟩, ?_, ?_, ?_⟩⟩
  · rw [up_ne (by decide), up_same]; rfl
  · rw [up_ne (by decide), up_ne (by decide)]; exact a2
  · rw [up_ne (by decide), up_ne (by decide)]; exact a3
  · rw [up_same]
  · rw [up_same]
    have hi' : i < gC σ + 1 := hi
    by_cases ei : i = gC σ
    · intro k hk
      have := rA k hk
      simp only [gCr, ei, up_same]
      rw [h3 k hk, up_same, hf2 k hk, e1]
      exact this
    · intro k hk
      simp only [gCr, up_ne ei]
      rw [h4 _ (by omega), up_ne (by decide)]
      exact b3 i (by omega) k hk
  · rw [up_ne (by decide), up_ne (by decide), up_ne (by decide), up_ne (by decide)]; exact a5
  · rw [up_ne (by decide), up_ne (by decide), up_ne (by decide), up_ne (by decide)]; exact a6
  · rw [up_ne (by decide), up_ne (by decide)]; exact a7
end M8
