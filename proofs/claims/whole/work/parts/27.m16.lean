-- ===== ratio
def vpF (p : Nat) : Nat → Nat → Nat × Nat
  | 0, v => (0, v)
  | f + 1, v => if v % p = 0 then ((vpF p f (v / p)).1 + 1, (vpF p f (v / p)).2) else (0, v)
theorem vpF_ge (p : Nat) : ∀ (f v : Nat), 1 ≤ v → (vpF p f v).2 ≤ v ∧ 1 ≤ (vpF p f v).2 ∧ (vpF p f v).1 ≤ f
  | 0, v, h => ⟨Nat.le_refl v, h, Nat.le_refl 0⟩
  | f + 1, v, h => by
    unfold vpF
    split
    · rename_i hm
      have hd : 1 ≤ v / p := by
        rcases Nat.eq_zero_or_pos (v / p) with z | z
        · have := Nat.div_add_mod v p
          rw [hm, z] at this
          omega
        · exact z
      have := vpF_ge p f (v / p) hd
      have h2 : v / p ≤ v := Nat.div_le_self v p
      dsimp only
      omega
    · dsimp only
      omega
def upR (v : Nat) : Nat → Nat
  | 0 => v
  | k + 1 => (vpF (prN k) 64 (upR v k)).2
def cntR (v k : Nat) : Nat := (vpF (prN k) 64 (upR v k)).1
theorem upR_bd {v : Nat} (h : 1 ≤ v) : ∀ k, 1 ≤ upR v k ∧ upR v k ≤ v
  | 0 => ⟨h, Nat.le_refl v⟩
  | k + 1 => by
    have h1 := upR_bd h k
    have h2 := vpF_ge (prN k) 64 (upR v k) h1.1
    show 1 ≤ (vpF (prN k) 64 (upR v k)).2 ∧ (vpF (prN k) 64 (upR v k)).2 ≤ v
    omega
def ratE (u l : Nat) : Vec := fun k => (cntR u k : Int) - (cntR l k : Int)
def sp_ratio (σ : Sg) (s n d : Int32) : Int32 × Sg :=
  if isIn s 16 then
    if decide (1 ≤ n.toInt) && decide (n.toInt ≤ 1000000000) && (decide (1 ≤ d.toInt) && decide (d.toInt ≤ 1000000000)) then
      if decide (1 < upR (n.toInt.toNat / Nat.gcd n.toInt.toNat d.toInt.toNat) 6) || decide (1 < upR (d.toInt.toNat / Nat.gcd n.toInt.toNat d.toInt.toNat) 6) then (0, sSt σ 4)
      else sp_put σ s.toInt.toNat (ratE (n.toInt.toNat / Nat.gcd n.toInt.toNat d.toInt.toNat) (d.toInt.toNat / Nat.gcd n.toInt.toNat d.toInt.toNat))
    else (0, sSt σ 3)
  else (0, sSt σ 1)
theorem big_ex {x : Int32} (h1 : 1 ≤ x.toInt) (h2 : x.toInt ≤ 1000000000) : ∃ k, 1 ≤ k ∧ k ≤ 1000000000 ∧ x = nI k ∧ x.toInt.toNat = k := by
  obtain ⟨k, a1, a2⟩ := vp_in_of (vp_in_iff (x := x) (n := 1000000001) |>.mpr ⟨by omega, by omega⟩) (by decide)
  subst a2
  rw [nI_toInt (by omega)] at h1 h2
  exact ⟨k, by omega, by omega, rfl, nI_tn (by omega)⟩
/-- one more than the fuel that a number needs -/
theorem vpF_fuel {p : Nat} (hp : 2 ≤ p) : ∀ (f f' v : Nat), 1 ≤ v → v < 2 ^ f → f ≤ f' → vpF p f v = vpF p f' v
  | 0, f', v, h, h1, h2 => by simp at h1; omega
  | f + 1, 0, v, h, h1, h2 => by omega
  | f + 1, f' + 1, v, h, h1, h2 => by
    unfold vpF
    split
    · rename_i hm
      have hdm := Nat.div_add_mod v p
      have hd : 1 ≤ v / p := by
        rcases Nat.eq_zero_or_pos (v / p) with z | z
        · rw [hm, z] at hdm
          omega
        · exact z
      have h3 : v / p < 2 ^ f := by
        rw [Nat.div_lt_iff_lt_mul (by omega)]
        rw [Nat.pow_succ] at h1
        have : 2 ^ f * 2 ≤ 2 ^ f * p := Nat.mul_le_mul_left _ hp
        omega
      rw [vpF_fuel hp f f' (v / p) hd h3 (by omega)]
    · rfl
section M16
variable {X : Cx} {Z : Nat → Int32} {F : Nat → Nat → Int32} {L : Nat → Int64} {g : Mem}
theorem prN_ge (k : Nat) : 2 ≤ prN k := by
  unfold prN
  split <;> decide
theorem M_ratio {σ : Sg} {s n d : Int32} {Q : Int32 → Mem → Prop} (hI : MI Z F σ) (h : ∀ Z' F' L', MI Z' F' (sp_ratio σ s n d).2 → Q (sp_ratio σ s n d).1 (MM X Z' F' L' g)) : CallI X 9 yX9_ratio [rf X 0, .int s, .int n, .int d] (MM X Z F L g) Q := by
  refine CallM_intro (own := RX9) [some (rf X 0), some (.int s), some (.int n), some (.int d), none, none, none, none, none] wX9_ratio (by decide) (by decide) rfl (Nat.le_of_ble_eq_true rfl) rfl (fun K hK hR => ?_)
  refine q_iload_n hK 1 dX9_ratio_0 rfl rfl ?_
  refine q_cSi1 hK dX9_ratio_1 lX9_111 (by decide) (Nat.le_of_ble_eq_true rfl) (m_isShelf ?_)
  refine q_if_ne hK 13 dX9_ratio_4 (by decide) (fun c4 => ?_) (fun c4 => ?_)
  rotate_left
  · have hs := (b2i_eq0 _).mp c4
    simp only [sp_ratio, hs] at h
    refine q_aload_n hK 0 dX9_ratio_7 rfl rfl ?_
    refine q_iconst (v := nI 1) hK dX9_ratio_8 (by decide) ?_
    refine q_cVi1 hK dX9_ratio_9 lX9_104 (by decide) (by decide) rfl (Nat.le_of_ble_eq_true rfl) (m_ref (by decide) (by decide) ?_)
    exact q_iret hR dX9_ratio_12 rfl ⟨_, rfl, h _ _ _ (hI.st 1)⟩
  have hs := (b2i_ne0 _).mp c4
  obtain ⟨is, hs1, rfl, hs2⟩ := isIn_ex hs (by decide)
  simp only [sp_ratio, hs, hs2, if_true] at h
  have bad : ¬ (1 ≤ n.toInt ∧ n.toInt ≤ 1000000000 ∧ 1 ≤ d.toInt ∧ d.toInt ≤ 1000000000) → K (MM X Z F L g) 35 [some (rf X 0), some (.int (nI is)), some (.int n), some (.int d), none, none, none, none, none] [] := by
    intro hb
    simp only [show (decide (1 ≤ n.toInt) && decide (n.toInt ≤ 1000000000) && (decide (1 ≤ d.toInt) && decide (d.toInt ≤ 1000000000))) = false by simp; omega] at h
    refine q_aload_n hK 0 dX9_ratio_35 rfl rfl ?_
    refine q_iconst (v := nI 3) hK dX9_ratio_36 (by decide) ?_
    refine q_cVi1 hK dX9_ratio_37 lX9_104 (by decide) (by decide) rfl (Nat.le_of_ble_eq_true rfl) (m_ref (by decide) (by decide) ?_)
    exact q_iret hR dX9_ratio_40 rfl ⟨_, rfl, h _ _ _ (hI.st 3)⟩
  have hc9 : (1000000000 : Int32).toInt = 1000000000 := by decide
  refine q_iload_n hK 2 dX9_ratio_13 rfl rfl ?_
  refine q_iconst (v := nI 1) hK dX9_ratio_14 (by decide) ?_
  refine q_icmp_lt hK 35 dX9_ratio_15 (by decide) (fun c15 => ?_) (fun c15 => ?_)
  · exact bad (by have := Int32.lt_iff_toInt_lt.mp c15; rw [nI_toInt (by decide)] at this; omega)
  have d1 := mt (Int32.lt_iff_toInt_lt (x := n) (y := nI 1)).mpr c15
  rw [nI_toInt (by decide)] at d1
  refine q_iload_n hK 2 dX9_ratio_18 rfl rfl ?_
  refine q_ldc hK dX9_ratio_19 nX9_117 ?_
  refine q_icmp_gt hK 35 dX9_ratio_21 (by decide) (fun c21 => ?_) (fun c21 => ?_)
  · exact bad (by have := Int32.lt_iff_toInt_lt.mp c21; rw [hc9] at this; omega)
  have d2 := mt (Int32.lt_iff_toInt_lt (x := 1000000000) (y := n)).mpr c21
  rw [hc9] at d2
  refine q_iload_n hK 3 dX9_ratio_24 rfl rfl ?_
  refine q_iconst (v := nI 1) hK dX9_ratio_25 (by decide) ?_
  refine q_icmp_lt hK 35 dX9_ratio_26 (by decide) (fun c26 => ?_) (fun c26 => ?_)
  · exact bad (by have := Int32.lt_iff_toInt_lt.mp c26; rw [nI_toInt (by decide)] at this; omega)
  have d3 := mt (Int32.lt_iff_toInt_lt (x := d) (y := nI 1)).mpr c26
  rw [nI_toInt (by decide)] at d3
  refine q_iload_n hK 3 dX9_ratio_29 rfl rfl ?_
  refine q_ldc hK dX9_ratio_30 nX9_117 ?_
  refine q_icmp_le hK 41 dX9_ratio_32 (by decide) (fun c32 => ?_) (fun c32 => ?_)
  rotate_left
  · exact bad (by have := mt (Int32.le_iff_toInt_le (x := d) (y := 1000000000)).mpr c32; rw [hc9] at this; omega)
  have d4 := Int32.le_iff_toInt_le.mp c32
  rw [hc9] at d4
  clear bad
  simp only [show (decide (1 ≤ n.toInt) && decide (n.toInt ≤ 1000000000) && (decide (1 ≤ d.toInt) && decide (d.toInt ≤ 1000000000))) = true by simp; omega, if_true] at h
  obtain ⟨vn, n1, n2, rfl, n3⟩ := big_ex (by omega) (by omega : n.toInt ≤ _)
  obtain ⟨vd, m1, m2, rfl, m3⟩ := big_ex (by omega) (by omega : d.toInt ≤ _)
  rw [n3, m3] at h
  clear d1 d2 d3 d4 c15 c21 c26 c32
  have hg1 : 1 ≤ Nat.gcd vn vd := Nat.gcd_pos_of_pos_left _ n1
  have hgn : Nat.gcd vn vd ≤ vn := Nat.gcd_le_left _ n1
  have hgd : Nat.gcd vn vd ≤ vd := Nat.gcd_le_right _ m1
  have hu1 : 1 ≤ vn / Nat.gcd vn vd := Nat.div_pos hgn hg1
  have hl1 : 1 ≤ vd / Nat.gcd vn vd := Nat.div_pos hgd hg1
  have hu2 : vn / Nat.gcd vn vd ≤ vn := Nat.div_le_self _ _
  have hl2 : vd / Nat.gcd vn vd ≤ vd := Nat.div_le_self _ _
  generalize hU : vn / Nat.gcd vn vd = U at *
  generalize hV : vd / Nat.gcd vn vd = V at *
  -- behind the gcd: the six primes
  have main : ∀ t k v4 v5 f, k + t = 6 → (∀ j, j < k → f j = jI (ratE U V j)) → K (MM X Z (va_up F 5 f) L g) 85 [some (rf X 0), some (.int (nI is)), some (.int (nI vn)), some (.int (nI vd)), some (.int v4), some (.int v5), some (.int (nI (upR U k))), some (.int (nI (upR V k))), some (.int (nI k))] [] := by
    intro t
    induction t with
    | zero =>
      intro k v4 v5 f hk hf
      have : k = 6 := by omega
      subst this
      have ub := upR_bd hu1 6
      have lb := upR_bd hl1 6
      have hM : MI Z (va_up F 5 f) σ := hI.scr eqo.rf (eqo.rf.up (by decide))
      have bad : (decide (1 < upR U 6) || decide (1 < upR V 6)) = true → K (MM X Z (va_up F 5 f) L g) 188 [some (rf X 0), some (.int (nI is)), some (.int (nI vn)), some (.int (nI vd)), some (.int v4), some (.int v5), some (.int (nI (upR U 6))), some (.int (nI (upR V 6))), some (.int (nI 6))] [] := by
        intro hb
        simp only [hb, if_true] at h
        refine q_aload_n hK 0 dX9_ratio_188 rfl rfl ?_
        refine q_iconst (v := nI 4) hK dX9_ratio_189 (by decide) ?_
        refine q_cVi1 hK dX9_ratio_190 lX9_104 (by decide) (by decide) rfl (Nat.le_of_ble_eq_true rfl) (m_ref (by decide) (by decide) ?_)
        refine q_goto hK 201 dX9_ratio_193 (by decide) ?_
        exact q_iret hR dX9_ratio_201 rfl ⟨_, rfl, h _ _ _ (hM.st 4)⟩
      refine q_iload hK dX9_ratio_85 rfl ?_
      refine q_bipush (v := nI 6) hK dX9_ratio_87 (by decide) ?_
      refine q_icmp_ge hK 176 dX9_ratio_89 (by decide) (fun c89 => ?_) (fun c89 => ?_)
      rotate_left
      · exact absurd ((nI_leI (by decide) (by decide)).mpr (by decide)) c89
      refine q_iload hK dX9_ratio_176 rfl ?_
      refine q_iconst (v := nI 1) hK dX9_ratio_178 (by decide) ?_
      refine q_icmp_gt hK 188 dX9_ratio_179 (by decide) (fun c179 => ?_) (fun c179 => ?_)
      · have := (nI_ltI (by decide) (by omega)).mp c179
        exact bad (by simp; omega)
      have u6 := mt (nI_ltI (a := 1) (b := upR U 6) (by decide) (by omega)).mpr c179
      refine q_iload hK dX9_ratio_182 rfl ?_
      refine q_iconst (v := nI 1) hK dX9_ratio_184 (by decide) ?_
      refine q_icmp_le hK 196 dX9_ratio_185 (by decide) (fun c185 => ?_) (fun c185 => ?_)
      rotate_left
      · have := mt (nI_leI (a := upR V 6) (b := 1) (by omega) (by decide)).mpr c185
        exact bad (by simp; omega)
      have l6 := (nI_leI (by omega) (by decide)).mp c185
      simp only [show (decide (1 < upR U 6) || decide (1 < upR V 6)) = false by simp; omega] at h
      refine q_aload_n hK 0 dX9_ratio_196 rfl rfl ?_
      refine q_iload_n hK 1 dX9_ratio_197 rfl rfl ?_
      have hX : hasX (va_up F 5 f 5) (ratE U V) := fun j hj => by
        rw [up_same, hf j hj]
        have b1 := (vpF_ge (prN j) 64 (upR U j) (upR_bd hu1 j).1).2.2
        have b2 := (vpF_ge (prN j) 64 (upR V j) (upR_bd hl1 j).1).2.2
        exact ⟨rfl, by unfold ratE cntR; omega, by unfold ratE cntR; omega⟩
      refine q_cVi1 hK dX9_ratio_198 lX9_114 (by decide) (by decide) rfl (Nat.le_of_ble_eq_true rfl) (m_comes (e := ratE U V) hM hs1 hX (fun Z' F' hI' => ?_))
      exact q_iret hR dX9_ratio_201 (nar_put ..) ⟨_, rfl, h Z' F' L hI'⟩
    | succ t ih =>
      intro k v4 v5 f hk hf
      have ub := upR_bd hu1 k
      have lb := upR_bd hl1 k
      have hp := prN_ge k
      have hp13 := prN_le k
      refine q_iload hK dX9_ratio_85 rfl ?_
      refine q_bipush (v := nI 6) hK dX9_ratio_87 (by decide) ?_
      refine q_icmp_ge hK 176 dX9_ratio_89 (by decide) (fun c89 => ?_) (fun c89 => ?_)
      · have := (nI_leI (by decide) (by omega)).mp c89
        omega
      refine q_aload_n hK 0 dX9_ratio_92 rfl rfl ?_
      refine q_getf hK dX9_ratio_93 fX9_23 (by decide) rfl rfl ?_
      refine q_iload hK dX9_ratio_96 rfl ?_
      refine q_iconst (v := nI 0) hK dX9_ratio_98 (by decide) ?_
      refine qm_iast hK dX9_ratio_99 (n := 5) (k := k) rfl rfl (by show k < 6; omega) ?_
      rw [up_up, up_same]
      -- below: the primes of the denominator
      have lowl : ∀ fu v c f, 1 ≤ v → v ≤ 1000000000 → v < 2 ^ fu → fu ≤ 40 → c ≤ 64 → c + (vpF (prN k) fu v).1 = cntR V k → (vpF (prN k) fu v).2 = upR V (k + 1) → f k = jI ((cntR U k : Int) - (c : Int)) → (∀ j, j < k → f j = jI (ratE U V j)) → K (MM X Z (va_up F 5 f) L g) 135 [some (rf X 0), some (.int (nI is)), some (.int (nI vn)), some (.int (nI vd)), some (.int v4), some (.int v5), some (.int (nI (upR U (k + 1)))), some (.int (nI v)), some (.int (nI k))] [] := by
        intro fu
        induction fu with
        | zero => intro v c f h1 h2 h3; simp at h3; omega
        | succ fu ihf =>
          intro v c f h1 h2 h3 h4 h5 h6 h7 h8 h9
          refine q_iload hK dX9_ratio_135 rfl ?_
          refine q_iload hK dX9_ratio_137 rfl ?_
          refine q_cSi1 hK dX9_ratio_139 lX9_78 (by decide) (Nat.le_of_ble_eq_true rfl) (m_prime (by omega) ?_)
          refine q_irem hK dX9_ratio_142 (nI_ne0 (by omega) (by omega)) ?_
          rw [show nI v - nI v / nI (prN k) * nI (prN k) = nI (v % prN k) from pk_rem (by omega) (by omega) (by omega)]
          have hmod : v % prN k < prN k := Nat.mod_lt _ (by omega)
          unfold vpF at h6 h7
          refine q_if_ne hK 170 dX9_ratio_143 (by decide) (fun c143 => ?_) (fun c143 => ?_)
          · have hm : ¬ v % prN k = 0 := fun z => c143 (by rw [z]; rfl)
            rw [if_neg hm] at h6 h7
            refine q_inc1 hK dX9_ratio_170 rfl (by decide) ?_
            refine q_goto hK 85 dX9_ratio_173 (by decide) ?_
            have h7' : v = upR V (k + 1) := h7
            rw [h7']
            refine ih (k + 1) v4 v5 f (by omega) (fun j hj => ?_)
            by_cases e : j = k
            · rw [e, h8]
              unfold ratE
              congr 1
              have : c + 0 = cntR V k := h6
              omega
            · exact h9 j (by omega)
          · have hm : v % prN k = 0 := (nI_eq (b := 0) (by omega) (by decide)).mp c143
            rw [if_pos hm] at h6 h7
            have hdm := Nat.div_add_mod v (prN k)
            have hd1 : 1 ≤ v / prN k := by
              rcases Nat.eq_zero_or_pos (v / prN k) with z | z
              · rw [hm, z] at hdm; omega
              · exact z
            have hd2 : v / prN k ≤ v := Nat.div_le_self _ _
            have hd3 : v / prN k < 2 ^ fu := by
              rw [Nat.div_lt_iff_lt_mul (by omega)]
              rw [Nat.pow_succ] at h3
              have : 2 ^ fu * 2 ≤ 2 ^ fu * prN k := Nat.mul_le_mul_left _ hp
              omega
            refine q_iload hK dX9_ratio_146 rfl ?_
            refine q_iload hK dX9_ratio_148 rfl ?_
            refine q_cSi1 hK dX9_ratio_150 lX9_78 (by decide) (Nat.le_of_ble_eq_true rfl) (m_prime (by omega) ?_)
            refine q_idiv hK dX9_ratio_153 (nI_ne0 (by omega) (by omega)) ?_
            rw [show nI v / nI (prN k) = nI (v / prN k) from pk_div (by omega) (by omega) (by omega)]
            refine q_istore hK dX9_ratio_154 (by decide) ?_
            refine q_aload_n hK 0 dX9_ratio_156 rfl rfl ?_
            refine q_getf hK dX9_ratio_157 fX9_23 (by decide) rfl rfl ?_
            refine q_iload hK dX9_ratio_160 rfl ?_
            refine q_dup2 hK dX9_ratio_162 rfl rfl ?_
            refine qm_iald hK dX9_ratio_163 (n := 5) (k := k) rfl rfl (by show k < 6; omega) ?_
            refine q_iconst (v := nI 1) hK dX9_ratio_164 (by decide) ?_
            refine q_isub hK dX9_ratio_165 ?_
            refine qm_iast hK dX9_ratio_166 (n := 5) (k := k) rfl rfl (by show k < 6; omega) ?_
            refine q_goto hK 135 dX9_ratio_167 (by decide) ?_
            rw [up_up, up_same, h8, jI_nat 1, jI_sub]
            have h6' : c + ((vpF (prN k) fu (v / prN k)).1 + 1) = cntR V k := h6
            have hcv : cntR V k ≤ 64 := (vpF_ge (prN k) 64 (upR V k) lb.1).2.2
            refine ihf (v / prN k) (c + 1) _ hd1 (by omega) hd3 (by omega) (by omega) (by omega) h7 ?_ (fun j hj => ?_)
            · rw [upd_same]
              congr 1
              omega
            · rw [upd_ne (by omega)]; exact h9 j hj
      have upl : ∀ fu v c f, 1 ≤ v → v ≤ 1000000000 → v < 2 ^ fu → fu ≤ 40 → c ≤ 64 → c + (vpF (prN k) fu v).1 = cntR U k → (vpF (prN k) fu v).2 = upR U (k + 1) → f k = jI (c : Int) → (∀ j, j < k → f j = jI (ratE U V j)) → K (MM X Z (va_up F 5 f) L g) 100 [some (rf X 0), some (.int (nI is)), some (.int (nI vn)), some (.int (nI vd)), some (.int v4), some (.int v5), some (.int (nI v)), some (.int (nI (upR V k))), some (.int (nI k))] [] := by
        intro fu
        induction fu with
        | zero => intro v c f h1 h2 h3; simp at h3; omega
        | succ fu ihf =>
          intro v c f h1 h2 h3 h4 h5 h6 h7 h8 h9
          refine q_iload hK dX9_ratio_100 rfl ?_
          refine q_iload hK dX9_ratio_102 rfl ?_
          refine q_cSi1 hK dX9_ratio_104 lX9_78 (by decide) (Nat.le_of_ble_eq_true rfl) (m_prime (by omega) ?_)
          refine q_irem hK dX9_ratio_107 (nI_ne0 (by omega) (by omega)) ?_
          rw [show nI v - nI v / nI (prN k) * nI (prN k) = nI (v % prN k) from pk_rem (by omega) (by omega) (by omega)]
          have hmod : v % prN k < prN k := Nat.mod_lt _ (by omega)
          unfold vpF at h6 h7
          refine q_if_ne hK 135 dX9_ratio_108 (by decide) (fun c108 => ?_) (fun c108 => ?_)
          · have hm : ¬ v % prN k = 0 := fun z => c108 (by rw [z]; rfl)
            rw [if_neg hm] at h6 h7
            have h7' : v = upR U (k + 1) := h7
            have h6' : c + 0 = cntR U k := h6
            rw [h7']
            have hL : upR V k < 2 ^ 30 := Nat.lt_of_le_of_lt (Nat.le_trans lb.2 (Nat.le_trans hl2 m2)) (by decide)
            refine lowl 30 (upR V k) 0 f lb.1 (by omega) hL (by decide) (by decide) ?_ ?_ ?_ h9
            · rw [vpF_fuel hp 30 64 (upR V k) lb.1 hL (by decide), Nat.zero_add]; rfl
            · rw [vpF_fuel hp 30 64 (upR V k) lb.1 hL (by decide)]; rfl
            · rw [h8]
              congr 1
              omega
          · have hm : v % prN k = 0 := (nI_eq (b := 0) (by omega) (by decide)).mp c108
            rw [if_pos hm] at h6 h7
            have hdm := Nat.div_add_mod v (prN k)
            have hd1 : 1 ≤ v / prN k := by
              rcases Nat.eq_zero_or_pos (v / prN k) with z | z
              · rw [hm, z] at hdm; omega
              · exact z
            have hd2 : v / prN k ≤ v := Nat.div_le_self _ _
            have hd3 : v / prN k < 2 ^ fu := by
              rw [Nat.div_lt_iff_lt_mul (by omega)]
              rw [Nat.pow_succ] at h3
              have : 2 ^ fu * 2 ≤ 2 ^ fu * prN k := Nat.mul_le_mul_left _ hp
              omega
            refine q_iload hK dX9_ratio_111 rfl ?_
            refine q_iload hK dX9_ratio_113 rfl ?_
            refine q_cSi1 hK dX9_ratio_115 lX9_78 (by decide) (Nat.le_of_ble_eq_true rfl) (m_prime (by omega) ?_)
            refine q_idiv hK dX9_ratio_118 (nI_ne0 (by omega) (by omega)) ?_
            rw [show nI v / nI (prN k) = nI (v / prN k) from pk_div (by omega) (by omega) (by omega)]
            refine q_istore hK dX9_ratio_119 (by decide) ?_
            refine q_aload_n hK 0 dX9_ratio_121 rfl rfl ?_
            refine q_getf hK dX9_ratio_122 fX9_23 (by decide) rfl rfl ?_
            refine q_iload hK dX9_ratio_125 rfl ?_
            refine q_dup2 hK dX9_ratio_127 rfl rfl ?_
            refine qm_iald hK dX9_ratio_128 (n := 5) (k := k) rfl rfl (by show k < 6; omega) ?_
            refine q_iconst (v := nI 1) hK dX9_ratio_129 (by decide) ?_
            refine q_iadd hK dX9_ratio_130 ?_
            refine qm_iast hK dX9_ratio_131 (n := 5) (k := k) rfl rfl (by show k < 6; omega) ?_
            refine q_goto hK 100 dX9_ratio_132 (by decide) ?_
            rw [up_up, up_same, h8, jI_nat 1, jI_add]
            have h6' : c + ((vpF (prN k) fu (v / prN k)).1 + 1) = cntR U k := h6
            have hcv : cntR U k ≤ 64 := (vpF_ge (prN k) 64 (upR U k) ub.1).2.2
            refine ihf (v / prN k) (c + 1) _ hd1 (by omega) hd3 (by omega) (by omega) (by omega) h7 ?_ (fun j hj => ?_)
            · rw [upd_same]
              congr 1
            · rw [upd_ne (by omega)]; exact h9 j hj
      have hUl : upR U k < 2 ^ 30 := Nat.lt_of_le_of_lt (Nat.le_trans ub.2 (Nat.le_trans hu2 n2)) (by decide)
      refine upl 30 (upR U k) 0 _ ub.1 (by omega) hUl (by decide) (by decide) ?_ ?_ ?_ (fun j hj => ?_)
      · rw [vpF_fuel hp 30 64 (upR U k) ub.1 hUl (by decide), Nat.zero_add]; rfl
      · rw [vpF_fuel hp 30 64 (upR U k) ub.1 hUl (by decide)]; rfl
      · rw [upd_same]; rfl
      · rw [upd_ne (by omega)]; exact hf j hj
  refine q_iload_n hK 2 dX9_ratio_41 rfl rfl ?_
  refine q_istore hK dX9_ratio_42 (by decide) ?_
  refine q_iload_n hK 3 dX9_ratio_44 rfl rfl ?_
  refine q_istore hK dX9_ratio_45 (by decide) ?_
  have gl : ∀ b a v6, 1 ≤ a → a ≤ 1000000000 → b ≤ 1000000000 → Nat.gcd a b = Nat.gcd vn vd → K (MM X Z F L g) 47 [some (rf X 0), some (.int (nI is)), some (.int (nI vn)), some (.int (nI vd)), some (.int (nI a)), some (.int (nI b)), v6, none, none] [] := by
    intro b
    induction b using Nat.strongRecOn with
    | ind b ihb =>
      intro a v6 ha ha2 hb2 hg
      refine q_iload hK dX9_ratio_47 rfl ?_
      refine q_if_eq hK 70 dX9_ratio_49 (by decide) (fun c49 => ?_) (fun c49 => ?_)
      · have hb0 : b = 0 := (nI_eq (b := 0) (by omega) (by decide)).mp c49
        subst hb0
        rw [Nat.gcd_zero_right] at hg
        refine q_iload_n hK 2 dX9_ratio_70 rfl rfl ?_
        refine q_iload hK dX9_ratio_71 rfl ?_
        refine q_idiv hK dX9_ratio_73 (nI_ne0 (by omega) (by omega)) ?_
        rw [show nI vn / nI a = nI U by rw [← hU, ← hg]; exact pk_div (by omega) (by omega) (by omega)]
        refine q_istore hK dX9_ratio_74 (by decide) ?_
        refine q_iload_n hK 3 dX9_ratio_76 rfl rfl ?_
        refine q_iload hK dX9_ratio_77 rfl ?_
        refine q_idiv hK dX9_ratio_79 (nI_ne0 (by omega) (by omega)) ?_
        rw [show nI vd / nI a = nI V by rw [← hV, ← hg]; exact pk_div (by omega) (by omega) (by omega)]
        refine q_istore hK dX9_ratio_80 (by decide) ?_
        refine q_iconst (v := nI 0) hK dX9_ratio_82 (by decide) ?_
        refine q_istore hK dX9_ratio_83 (by decide) ?_
        have := main 6 0 (nI a) (nI 0) (F 5) rfl (fun j hj => by omega)
        rw [up_id] at this
        exact this
      · have hb0 : b ≠ 0 := fun z => c49 (by rw [z]; rfl)
        have hmod : a % b < b := Nat.mod_lt _ (by omega)
        refine q_iload hK dX9_ratio_52 rfl ?_
        refine q_iload hK dX9_ratio_54 rfl ?_
        refine q_irem hK dX9_ratio_56 (nI_ne0 (by omega) (by omega)) ?_
        rw [show nI a - nI a / nI b * nI b = nI (a % b) from pk_rem (by omega) (by omega) (by omega)]
        refine q_istore hK dX9_ratio_57 (by decide) ?_
        refine q_iload hK dX9_ratio_59 rfl ?_
        refine q_istore hK dX9_ratio_61 (by decide) ?_
        refine q_iload hK dX9_ratio_63 rfl ?_
        refine q_istore hK dX9_ratio_65 (by decide) ?_
        refine q_goto hK 47 dX9_ratio_67 (by decide) ?_
        refine ihb (a % b) hmod b _ (by omega) hb2 (by omega) ?_
        rw [← hg, Nat.gcd_comm a b, Nat.gcd_rec b a, Nat.gcd_comm]
  exact gl vd vn none n1 n2 m2 rfl
end M16
