-- ===== steps and kinds
def stV (n : Nat) (nt : Nat → Vec) (k i : Nat) : Vec := fun j => ntA n nt (i + k) j - nt i j
def insN (c : Nat → Nat) (a v : Nat) : Nat → Nat := fun i => if i < a then c i else if i = a then v else c (i - 1)
def kS (n : Nat) (nt : Nat → Vec) (k : Nat) : Nat → Nat × (Nat → Vec) × (Nat → Nat)
  | 0 => (0, (fun _ _ => 0), (fun _ => 0))
  | i + 1 =>
    if plcv (kS n nt k i).2.1 (stV n nt k i) (kS n nt k i).1 < 0 then ((kS n nt k i).1, (kS n nt k i).2.1, va_up (kS n nt k i).2.2 (-2 - plcv (kS n nt k i).2.1 (stV n nt k i) (kS n nt k i).1).toNat ((kS n nt k i).2.2 (-2 - plcv (kS n nt k i).2.1 (stV n nt k i) (kS n nt k i).1).toNat + 1))
    else ((kS n nt k i).1 + 1, insR (kS n nt k i).2.1 (plcv (kS n nt k i).2.1 (stV n nt k i) (kS n nt k i).1).toNat (stV n nt k i), insN (kS n nt k i).2.2 (plcv (kS n nt k i).2.1 (stV n nt k i) (kS n nt k i).1).toNat 1)
theorem kS_le (n : Nat) (nt : Nat → Vec) (k : Nat) : ∀ i, (kS n nt k i).1 ≤ i
  | 0 => Nat.le_refl 0
  | i + 1 => by
    have := kS_le n nt k i
    unfold kS
    split <;> dsimp only <;> omega
theorem kS_pos (n : Nat) (nt : Nat → Vec) (k : Nat) : ∀ i, 1 ≤ i → 1 ≤ (kS n nt k i).1
  | 0, h => by omega
  | i + 1, _ => by
    unfold kS
    split
    · rename_i h
      dsimp only
      by_cases e : i = 0
      · subst e
        exact absurd h (show ¬ ((0 : Nat) : Int) < 0 by decide)
      · exact kS_pos n nt k i (by omega)
    · dsimp only
      omega
theorem plcv_bd (R : Nat → Vec) (e : Vec) (m : Nat) : -2 - (m : Int) ≤ plcv R e m ∧ plcv R e m ≤ m ∧ (plcv R e m < 0 → ∃ j : Nat, j < m ∧ plcv R e m = -2 - (j : Int)) := by
  unfold plcv
  rcases plc_range (R := R) (e := e) (f := m) (i := 0) with ⟨a1, j, a2, a3, a4, -⟩ | ⟨j, a2, a3, a4, -⟩
  · rw [a4]
    exact ⟨by omega, by omega, fun _ => ⟨j, by omega, rfl⟩⟩
  · rw [a4]
    exact ⟨by omega, by omega, fun h => by omega⟩
section M12
variable {X : Cx} {Z : Nat → Int32} {F : Nat → Nat → Int32} {L : Nat → Int64} {g : Mem}
/-- the kinds, as the reference holds them -/
def kI (Z : Nat → Int32) (F : Nat → Nat → Int32) (s : Nat × (Nat → Vec) × (Nat → Nat)) : Prop := Z 22 = nI s.1 ∧ hasR (F 14) s.1 s.2.1 100 ∧ ∀ i, i < s.1 → F 15 i = nI (s.2.2 i)
theorem m_stepsBy {n k : Nat} {nt : Nat → Vec} {Q : Mem → Prop} (hz : Z 18 = nI n) (hn : 1 ≤ n) (hn2 : n ≤ 24) (hk : k ≤ n) (hr : ∀ i, i ≤ n → hasA (F 12) (6 * i) (nt i) 24) (h : ∀ Z' F', eqo scZ Z Z' → eqo scF F F' → (∀ j, F' 16 j = F 16 j) → kI Z' F' (kS n nt k n) → Q (MM X Z' F' L g)) : CallV X 5 yX9_stepsBy [rf X 0, .int (nI k)] (MM X Z F L g) Q := by
  refine CallM_intro (own := RX9) [some (rf X 0), some (.int (nI k)), none, none, none] wX9_stepsBy (by decide) (by decide) rfl (Nat.le_of_ble_eq_true rfl) rfl (fun K hK hR => ?_)
  refine q_aload_n hK 0 dX9_stepsBy_0 rfl rfl ?_
  refine q_iconst (v := nI 0) hK dX9_stepsBy_1 (by decide) ?_
  refine qm_put22 hK dX9_stepsBy_2 pX9_196 ?_
  refine q_iconst (v := nI 0) hK dX9_stepsBy_5 (by decide) ?_
  refine q_istore_n hK 2 dX9_stepsBy_6 rfl (by decide) ?_
  have loop : ∀ m i v3 v4 Z' F', i + m = n → eqo scZ Z Z' → eqo scF F F' → (∀ j, F' 16 j = F 16 j) → kI Z' F' (kS n nt k i) → K (MM X Z' F' L g) 7 [some (rf X 0), some (.int (nI k)), some (.int (nI i)), v3, v4] [] := by
    intro m
    induction m with
    | zero =>
      intro i v3 v4 Z' F' hi z1 z2 z16 z3
      refine q_iload_n hK 2 dX9_stepsBy_7 rfl rfl ?_
      refine q_aload_n hK 0 dX9_stepsBy_8 rfl rfl ?_
      refine q_getf hK dX9_stepsBy_9 fX9_182 (by decide) rfl rfl ?_
      rw [z1 18 (by decide), hz]
      refine q_icmp_ge hK 137 dX9_stepsBy_12 (by decide) (fun c12 => ?_) (fun c12 => ?_)
      · rw [show i = n by omega] at z3
        exact q_vret hR dX9_stepsBy_137 ⟨rfl, h Z' F' z1 z2 z16 z3⟩
      · exact absurd ((nI_leI (by omega) (by omega)).mpr (by omega)) c12
    | succ m ih =>
      intro i v3 v4 Z' F' hi z1 z2 z16 z3
      obtain ⟨k1, k2, k3⟩ := z3
      have kle := kS_le n nt k i
      refine q_iload_n hK 2 dX9_stepsBy_7 rfl rfl ?_
      refine q_aload_n hK 0 dX9_stepsBy_8 rfl rfl ?_
      refine q_getf hK dX9_stepsBy_9 fX9_182 (by decide) rfl rfl ?_
      rw [z1 18 (by decide), hz]
      refine q_icmp_ge hK 137 dX9_stepsBy_12 (by decide) (fun c12 => ?_) (fun c12 => ?_)
      · have := (nI_leI (by omega) (by omega)).mp c12
        omega
      refine q_aload_n hK 0 dX9_stepsBy_15 rfl rfl ?_
      refine q_iload_n hK 2 dX9_stepsBy_16 rfl rfl ?_
      refine q_iload_n hK 1 dX9_stepsBy_17 rfl rfl ?_
      refine q_iadd hK dX9_stepsBy_18 ?_
      rw [nI_add]
      have hr' : ∀ i, i ≤ n → hasA (F' 12) (6 * i) (nt i) 24 := fun i hi => by rw [z2 12 (by decide)]; exact hr i hi
      refine q_cVv1 hK dX9_stepsBy_19 lX9_193 (by decide) (by decide) rfl (Nat.le_of_ble_eq_true rfl) (m_noteAt (n := n) (nt := nt) (by rw [z1 18 (by decide)]; exact hz) hn hn2 (by omega) hr' (fun f hf => ?_))
      refine q_aload_n hK 0 dX9_stepsBy_22 rfl rfl ?_
      refine q_aload_n hK 0 dX9_stepsBy_23 rfl rfl ?_
      refine q_getf hK dX9_stepsBy_24 fX9_45 (by decide) rfl rfl ?_
      refine q_bipush (v := nI 6) hK dX9_stepsBy_27 (by decide) ?_
      refine q_iload_n hK 2 dX9_stepsBy_29 rfl rfl ?_
      refine q_imul hK dX9_stepsBy_30 ?_
      rw [show nI 6 * nI i = nI (6 * i) from pk_mul 6 i]
      refine q_cVv2 hK dX9_stepsBy_31 lX9_93 (by decide) (by decide) rfl (Nat.le_of_ble_eq_true rfl) (m_less (n := 12) (a := 6 * i) rfl (by decide) (by show 6 * i + 6 ≤ 150; omega) (fun f2 hf2 => ?_))
      rw [up_up]
      have hbd := ntA_bd (f := F' 12) (i := i + k) (n := n) (nt := nt) hn (by omega) hr'
      have he : has6 (va_up F' 5 f2 5) (stV n nt k i) 100 := fun j hj => by
        have b1 := hbd j hj
        have b2 := hr' i (by omega) j hj
        rw [up_same, hf2 j hj, up_same, hf j hj, up_ne (by decide), b2.1, jI_sub]
        exact ⟨rfl, by unfold stV; omega, by unfold stV; omega⟩
      refine q_aload_n hK 0 dX9_stepsBy_34 rfl rfl ?_
      refine q_aload_n hK 0 dX9_stepsBy_35 rfl rfl ?_
      refine q_getf hK dX9_stepsBy_36 fX9_51 (by decide) rfl rfl ?_
      refine q_aload_n hK 0 dX9_stepsBy_39 rfl rfl ?_
      refine q_getf hK dX9_stepsBy_40 fX9_196 (by decide) rfl rfl ?_
      rw [k1]
      refine q_cVi2 hK dX9_stepsBy_43 lX9_185 (by decide) (by decide) rfl (Nat.le_of_ble_eq_true rfl) (m_placeIn (nm := 14) (many := (kS n nt k i).1) (R := (kS n nt k i).2.1) (e := stV n nt k i) rfl (by decide) (by show 6 * _ ≤ 150; omega) (by omega) (fun t ht j hj => by rw [up_ne (by decide)]; exact k2 t ht j hj) he (fun Z2 F2 y1 y2 y3 => ?_))
      have w1 : eqo scZ Z Z2 := z1.tr (sc56 y1)
      have w2 : eqo scF F F2 := (z2.up (k := 5) (v := f2) (by decide)).tr (y2.mono (by decide))
      have w16 : ∀ j, F2 16 j = F 16 j := fun j => by rw [y2 16 (by decide), up_ne (by decide)]; exact z16 j
      have e14 : F2 14 = F' 14 := by rw [y2 14 (by decide), up_ne (by decide)]
      have e15 : F2 15 = F' 15 := by rw [y2 15 (by decide), up_ne (by decide)]
      have e22 : Z2 22 = nI (kS n nt k i).1 := by rw [y1 22 (by decide)]; exact k1
      obtain ⟨p1, p2, p3⟩ := plcv_bd (kS n nt k i).2.1 (stV n nt k i) (kS n nt k i).1
      generalize hpv : plcv (kS n nt k i).2.1 (stV n nt k i) (kS n nt k i).1 = pv at *
      generalize hsv : kS n nt k i = s at *
      refine q_istore_n hK 3 dX9_stepsBy_46 rfl (by decide) ?_
      refine q_iload_n hK 3 dX9_stepsBy_47 rfl rfl ?_
      refine q_if_ge hK 67 dX9_stepsBy_48 (by decide) (fun c48 => ?_) (fun c48 => ?_)
      rotate_left
      · have hneg := mt (jI_0le (b := pv) (by omega) (by omega)).mpr c48
        obtain ⟨q, q1, q2⟩ := p3 (by omega)
        have hks : kS n nt k (i + 1) = (s.1, s.2.1, va_up s.2.2 q (s.2.2 q + 1)) := by
          unfold kS
          rw [hsv, hpv, if_pos (by omega), q2, show (-2 - (-2 - (q : Int))).toNat = q by omega]
        refine q_aload_n hK 0 dX9_stepsBy_51 rfl rfl ?_
        refine q_getf hK dX9_stepsBy_52 fX9_54 (by decide) rfl rfl ?_
        refine q_bipush (v := jI (-2)) hK dX9_stepsBy_55 (by decide) ?_
        refine q_iload_n hK 3 dX9_stepsBy_57 rfl rfl ?_
        refine q_isub hK dX9_stepsBy_58 ?_
        refine q_dup2 hK dX9_stepsBy_59 rfl rfl ?_
        rw [q2, show jI (-2) - jI (-2 - (q : Int)) = nI q by rw [jI_sub, jI_nat]; congr 1; omega]
        refine qm_iald hK dX9_stepsBy_60 (n := 15) (k := q) rfl rfl (by show q < 25; omega) ?_
        refine q_iconst (v := nI 1) hK dX9_stepsBy_61 (by decide) ?_
        refine q_iadd hK dX9_stepsBy_62 ?_
        refine qm_iast hK dX9_stepsBy_63 (n := 15) (k := q) rfl rfl (by show q < 25; omega) ?_
        refine q_goto hK 131 dX9_stepsBy_64 (by decide) ?_
        refine q_inc1 hK dX9_stepsBy_131 rfl (by decide) ?_
        refine q_goto hK 7 dX9_stepsBy_134 (by decide) ?_
        rw [e15, k3 q q1, show nI (s.2.2 q) + nI 1 = nI (s.2.2 q + 1) from nI_add _ 1]
        refine ih (i + 1) _ _ Z2 _ (by omega) w1 (w2.up (by decide)) (fun j => by rw [up_ne (by decide)]; exact w16 j) ?_
        rw [hks]
        refine ⟨e22, ?_, fun t ht => ?_⟩
        · rw [up_ne (by decide), e14]; exact k2
        · rw [up_same]
          by_cases et : t = q
          · rw [et, upd_same]
            show _ = nI (va_up s.2.2 q (s.2.2 q + 1) q)
            rw [up_same]
          · rw [upd_ne et]
            show _ = nI (va_up s.2.2 q (s.2.2 q + 1) t)
            rw [up_ne et]
            exact k3 t ht
      have hpos := (jI_0le (by omega) (by omega)).mp c48
      obtain ⟨a, rfl⟩ : ∃ a : Nat, pv = (a : Int) := ⟨pv.toNat, by omega⟩
      have hks : kS n nt k (i + 1) = (s.1 + 1, insR s.2.1 a (stV n nt k i), insN s.2.2 a 1) := by
        unfold kS
        rw [hsv, hpv, if_neg (by omega), Int.toNat_natCast]
      refine q_aload_n hK 0 dX9_stepsBy_67 rfl rfl ?_
      refine q_aload_n hK 0 dX9_stepsBy_68 rfl rfl ?_
      refine q_getf hK dX9_stepsBy_69 fX9_51 (by decide) rfl rfl ?_
      refine q_aload_n hK 0 dX9_stepsBy_72 rfl rfl ?_
      refine q_getf hK dX9_stepsBy_73 fX9_196 (by decide) rfl rfl ?_
      refine q_iload_n hK 3 dX9_stepsBy_76 rfl rfl ?_
      rw [e22, ← jI_nat]
      refine q_cVv3 hK dX9_stepsBy_77 lX9_189 (by decide) (by decide) rfl (Nat.le_of_ble_eq_true rfl) (m_insert (nm := 14) (many := s.1) (a := a) rfl (by decide) (by omega) (by show 6 * s.1 + 5 < 150; omega) (fun f14 g1 g2 => ?_))
      refine q_aload_n hK 0 dX9_stepsBy_80 rfl rfl ?_
      refine q_getf hK dX9_stepsBy_81 fX9_196 (by decide) rfl rfl ?_
      refine q_istore hK dX9_stepsBy_84 (by decide) ?_
      rw [e22]
      have shf : ∀ m q f, q = a + m → q ≤ s.1 → (∀ t, t ≤ q → f t = F2 15 t) → (∀ t, q < t → t ≤ s.1 → f t = F2 15 (t - 1)) → K (MM X Z2 (va_up (va_up F2 14 f14) 15 f) L g) 86 [some (rf X 0), some (.int (nI k)), some (.int (nI i)), some (.int (nI a)), some (.int (nI q))] [] := by
        intro m
        induction m with
        | zero =>
          intro q f hq hq2 u1 u2
          refine q_iload hK dX9_stepsBy_86 rfl ?_
          refine q_iload_n hK 3 dX9_stepsBy_88 rfl rfl ?_
          refine q_icmp_le hK 114 dX9_stepsBy_89 (by decide) (fun c89 => ?_) (fun c89 => ?_)
          rotate_left
          · exact absurd ((nI_leI (by omega) (by omega)).mpr (by omega)) c89
          refine q_aload_n hK 0 dX9_stepsBy_114 rfl rfl ?_
          refine q_getf hK dX9_stepsBy_115 fX9_54 (by decide) rfl rfl ?_
          refine q_iload_n hK 3 dX9_stepsBy_118 rfl rfl ?_
          refine q_iconst (v := nI 1) hK dX9_stepsBy_119 (by decide) ?_
          refine qm_iast hK dX9_stepsBy_120 (n := 15) (k := a) rfl rfl (by show a < 25; omega) ?_
          refine q_aload_n hK 0 dX9_stepsBy_121 rfl rfl ?_
          refine q_dup hK dX9_stepsBy_122 rfl ?_
          refine q_getf hK dX9_stepsBy_123 fX9_196 (by decide) rfl rfl ?_
          refine q_iconst (v := nI 1) hK dX9_stepsBy_126 (by decide) ?_
          refine q_iadd hK dX9_stepsBy_127 ?_
          refine qm_put22 hK dX9_stepsBy_128 pX9_196 ?_
          refine q_inc1 hK dX9_stepsBy_131 rfl (by decide) ?_
          refine q_goto hK 7 dX9_stepsBy_134 (by decide) ?_
          rw [e22, show nI s.1 + nI 1 = nI (s.1 + 1) from nI_add _ 1, up_up, up_same]
          refine ih (i + 1) _ _ _ _ (by omega) (w1.up (by decide)) ((w2.up (by decide)).up (by decide)) (fun j => by rw [up_ne (by decide), up_ne (by decide)]; exact w16 j) ?_
          rw [hks]
          refine ⟨up_same _ _ _, fun t ht j hj => ?_, fun t ht => ?_⟩
          · rw [up_ne (by decide), up_same, g1 t j (by show t ≤ s.1; have : t < s.1 + 1 := ht; omega) hj]
            show _ = jI (insR s.2.1 a (stV n nt k i) t j) ∧ -(100 : Int) ≤ insR s.2.1 a (stV n nt k i) t j ∧ insR s.2.1 a (stV n nt k i) t j ≤ 100
            have ht' : t < s.1 + 1 := ht
            unfold insR
            split
            · rw [e14]; exact k2 t (by omega) j hj
            · split
              · have := y3 j hj
                exact this
              · rw [e14]; exact k2 (t - 1) (by omega) j hj
          · rw [up_same]
            have ht' : t < s.1 + 1 := ht
            show _ = nI (insN s.2.2 a 1 t)
            unfold insN
            by_cases et : t = a
            · rw [et, upd_same]
              simp
            · rw [upd_ne et]
              split
              · rw [u1 t (by omega), e15]
                exact k3 t (by omega)
              · rw [u2 t (by omega) (by omega), e15]
                exact k3 (t - 1) (by omega)
        | succ m ihm =>
          intro q f hq hq2 u1 u2
          refine q_iload hK dX9_stepsBy_86 rfl ?_
          refine q_iload_n hK 3 dX9_stepsBy_88 rfl rfl ?_
          refine q_icmp_le hK 114 dX9_stepsBy_89 (by decide) (fun c89 => ?_) (fun c89 => ?_)
          · have := (nI_leI (by omega) (by omega)).mp c89
            omega
          refine q_aload_n hK 0 dX9_stepsBy_92 rfl rfl ?_
          refine q_getf hK dX9_stepsBy_93 fX9_54 (by decide) rfl rfl ?_
          refine q_iload hK dX9_stepsBy_96 rfl ?_
          refine q_aload_n hK 0 dX9_stepsBy_98 rfl rfl ?_
          refine q_getf hK dX9_stepsBy_99 fX9_54 (by decide) rfl rfl ?_
          refine q_iload hK dX9_stepsBy_102 rfl ?_
          refine q_iconst (v := nI 1) hK dX9_stepsBy_104 (by decide) ?_
          refine q_isub hK dX9_stepsBy_105 ?_
          rw [show nI q - nI 1 = nI (q - 1) from pk_sub (by omega)]
          refine qm_iald hK dX9_stepsBy_106 (n := 15) (k := q - 1) rfl rfl (by show q - 1 < 25; omega) ?_
          refine qm_iast hK dX9_stepsBy_107 (n := 15) (k := q) rfl rfl (by show q < 25; omega) ?_
          refine q_iinc hK dX9_stepsBy_108 rfl (show _ = nI (q - 1) by obtain ⟨t, rfl⟩ : ∃ t, q = t + 1 := ⟨q - 1, by omega⟩; exact pk_m1 t) (by decide) ?_
          refine q_goto hK 86 dX9_stepsBy_111 (by decide) ?_
          rw [up_up, up_same]
          refine ihm (q - 1) _ (by omega) (by omega) (fun t ht => ?_) (fun t t1 t2 => ?_)
          · rw [upd_ne (by omega)]
            exact u1 t (by omega)
          · by_cases et : t = q
            · rw [et, upd_same]
              exact u1 _ (by omega)
            · rw [upd_ne et]
              exact u2 t (by omega) t2
      have := shf (s.1 - a) s.1 (F2 15) (by omega) (Nat.le_refl _) (fun _ _ => rfl) (fun t t1 t2 => by omega)
      rw [show va_up (va_up F2 14 f14) 15 (F2 15) = va_up F2 14 f14 by rw [show F2 15 = va_up F2 14 f14 15 by rw [up_ne (by decide)], up_id]] at this
      exact this
  refine loop n 0 none none _ _ (by omega) (eqo.rf.up (by decide)) eqo.rf (fun _ => rfl) ⟨up_same _ _ _, fun i hi => absurd hi (Nat.not_lt_zero i), fun i hi => absurd hi (Nat.not_lt_zero i)⟩
end M12
def sp_kinds (σ : Sg) (k : Int32) : Int32 × Sg :=
  if gN σ = 0 then (-1, sSt σ 7)
  else if decide (1 ≤ k.toInt) && decide (k.toInt ≤ gN σ) then (nI (kS (gN σ) (gNt σ) k.toInt.toNat (gN σ)).1, sSt σ 0)
  else (-1, sSt σ 3)
def sp_step (σ : Sg) (k j t : Int32) : Int32 × Sg :=
  if isIn t 16 then
    if gN σ = 0 then (-1, sSt σ 7)
    else if decide (1 ≤ k.toInt) && decide (k.toInt ≤ gN σ) then
      if isIn j (kS (gN σ) (gNt σ) k.toInt.toNat (gN σ)).1 then
        (if farV 24 ((kS (gN σ) (gNt σ) k.toInt.toNat (gN σ)).2.1 j.toInt.toNat) then -1 else nI ((kS (gN σ) (gNt σ) k.toInt.toNat (gN σ)).2.2 j.toInt.toNat), (sp_put σ t.toInt.toNat ((kS (gN σ) (gNt σ) k.toInt.toNat (gN σ)).2.1 j.toInt.toNat)).2)
      else (-1, sSt σ 3)
    else (-1, sSt σ 3)
  else (-1, sSt σ 1)
section M12b
variable {X : Cx} {Z : Nat → Int32} {F : Nat → Nat → Int32} {L : Nat → Int64} {g : Mem}
theorem m_comesO {o : Nat → Int32} {σ : Sg} {s : Nat} {e : Vec} {Q : Int32 → Mem → Prop} (hI : MI Z F σ) (hs : s < 16) (he : hasX (F 5) e) (ho : F 15 = o) (h : ∀ Z' F', MI Z' F' (sp_put σ s e).2 → F' 15 = o → Q (sp_put σ s e).1 (MM X Z' F' L g)) : CallI X 1 yX9_comes [rf X 0, .int (nI s)] (MM X Z F L g) Q := by
  refine CallM_intro (own := RX9) [some (rf X 0), some (.int (nI s))] wX9_comes (by decide) (by decide) rfl (Nat.le_of_ble_eq_true rfl) rfl (fun K hK hR => ?_)
  refine q_aload_n hK 0 dX9_comes_0 rfl rfl ?_
  refine q_cVi0 hK dX9_comes_1 lX9_100 (by decide) (by decide) rfl (Nat.le_of_ble_eq_true rfl) (m_isFar ?_)
  rw [farN_V (by decide) he]
  refine q_if_eq hK 13 dX9_comes_4 (by decide) (fun c4 => ?_) (fun c4 => ?_)
  · have hf := (b2i_eq0 _).mp c4
    simp only [sp_put, hf] at h
    refine q_aload_n hK 0 dX9_comes_13 rfl rfl ?_
    refine q_aload_n hK 0 dX9_comes_14 rfl rfl ?_
    refine q_getf hK dX9_comes_15 fX9_7 (by decide) rfl rfl ?_
    refine q_bipush (v := nI 6) hK dX9_comes_18 (by decide) ?_
    refine q_iload_n hK 1 dX9_comes_20 rfl rfl ?_
    refine q_imul hK dX9_comes_21 ?_
    rw [show nI 6 * nI s = nI (6 * s) from pk_mul 6 s]
    refine q_cVv2 hK dX9_comes_22 lX9_108 (by decide) (by decide) rfl (Nat.le_of_ble_eq_true rfl) (m_give (n := 1) (a := 6 * s) rfl (by decide) (by show 6 * s + 6 ≤ 96; omega) (fun f1 h1 h2 => ?_))
    refine q_aload_n hK 0 dX9_comes_25 rfl rfl ?_
    refine q_getf hK dX9_comes_26 fX9_13 (by decide) rfl rfl ?_
    refine q_iload_n hK 1 dX9_comes_29 rfl rfl ?_
    refine q_iconst (v := nI 1) hK dX9_comes_30 (by decide) ?_
    refine qm_zast hK dX9_comes_31 rfl hs rfl ?_
    refine q_aload_n hK 0 dX9_comes_32 rfl rfl ?_
    refine q_iconst (v := nI 0) hK dX9_comes_33 (by decide) ?_
    refine q_cVi1 hK dX9_comes_34 lX9_104 (by decide) (by decide) rfl (Nat.le_of_ble_eq_true rfl) (m_acc ?_)
    have hM := MI.put (f1 := f1) hI hs hf (fun k hk => by rw [h1 k hk]; exact (he k hk).1) h2
    rw [up_ne (by decide : (2 : Nat) ≠ 1)]
    exact q_iret hR dX9_comes_37 rfl ⟨_, rfl, h _ _ hM (by rw [up_ne (by decide), up_ne (by decide)]; exact ho)⟩
  · have hf := (b2i_ne0 _).mp c4
    simp only [sp_put, hf] at h
    refine q_aload_n hK 0 dX9_comes_7 rfl rfl ?_
    refine q_iconst (v := nI 4) hK dX9_comes_8 (by decide) ?_
    refine q_cVi1 hK dX9_comes_9 lX9_104 (by decide) (by decide) rfl (Nat.le_of_ble_eq_true rfl) (m_ref (by decide) (by decide) ?_)
    exact q_iret hR dX9_comes_12 rfl ⟨_, rfl, h _ _ (hI.st 4) ho⟩
theorem rng_ex {x : Int32} {n : Nat} (h : (decide (1 ≤ x.toInt) && decide (x.toInt ≤ n)) = true) (hn : n < 1000) : ∃ k, 1 ≤ k ∧ k ≤ n ∧ x = nI k ∧ x.toInt.toNat = k := by
  simp only [Bool.and_eq_true, decide_eq_true_eq] at h
  obtain ⟨k, h1, h2⟩ := vp_in_of (vp_in_iff (x := x) (n := n + 1) |>.mpr ⟨by omega, by omega⟩) (by omega)
  subst h2
  rw [nI_toInt (by omega)] at h
  exact ⟨k, by omega, by omega, rfl, nI_tn (by omega)⟩
theorem M_kinds {σ : Sg} {k : Int32} {Q : Int32 → Mem → Prop} (hI : MI Z F σ) (h : ∀ Z' F' L', MI Z' F' (sp_kinds σ k).2 → Q (sp_kinds σ k).1 (MM X Z' F' L' g)) : CallI X 9 yX9_kinds [rf X 0, .int k] (MM X Z F L g) Q := by
  obtain ⟨n1, n2, n3, n4⟩ := hI.2.2.2.2.1
  refine CallM_intro (own := RX9) [some (rf X 0), some (.int k)] wX9_kinds (by decide) (by decide) rfl (Nat.le_of_ble_eq_true rfl) rfl (fun K hK hR => ?_)
  refine q_aload_n hK 0 dX9_kinds_0 rfl rfl ?_
  refine q_getf hK dX9_kinds_1 fX9_182 (by decide) rfl rfl ?_
  rw [n1]
  refine q_if_ne hK 14 dX9_kinds_4 (by decide) (fun c4 => ?_) (fun c4 => ?_)
  rotate_left
  · have q : gN σ = 0 := (nI_eq (b := 0) (by omega) (by decide)).mp c4
    simp only [sp_kinds, q, if_true] at h
    refine q_aload_n hK 0 dX9_kinds_7 rfl rfl ?_
    refine q_bipush (v := nI 7) hK dX9_kinds_8 (by decide) ?_
    refine q_cVi1 hK dX9_kinds_10 lX9_136 (by decide) (by decide) rfl (Nat.le_of_ble_eq_true rfl) (m_none ?_)
    exact q_iret hR dX9_kinds_13 rfl ⟨_, rfl, h _ _ _ (hI.st 7)⟩
  have q : ¬ gN σ = 0 := fun z => c4 (by rw [z]; rfl)
  simp only [sp_kinds, q, if_false] at h
  have bad : (decide (1 ≤ k.toInt) && decide (k.toInt ≤ gN σ)) = false → K (MM X Z F L g) 27 [some (rf X 0), some (.int k)] [] := by
    intro hb
    simp only [hb] at h
    refine q_aload_n hK 0 dX9_kinds_27 rfl rfl ?_
    refine q_iconst (v := nI 3) hK dX9_kinds_28 (by decide) ?_
    refine q_cVi1 hK dX9_kinds_29 lX9_136 (by decide) (by decide) rfl (Nat.le_of_ble_eq_true rfl) (m_none ?_)
    exact q_iret hR dX9_kinds_32 rfl ⟨_, rfl, h _ _ _ (hI.st 3)⟩
  refine q_iload_n hK 1 dX9_kinds_14 rfl rfl ?_
  refine q_iconst (v := nI 1) hK dX9_kinds_15 (by decide) ?_
  refine q_icmp_lt hK 27 dX9_kinds_16 (by decide) (fun c16 => ?_) (fun c16 => ?_)
  · exact bad (by have := Int32.lt_iff_toInt_lt.mp c16; rw [nI_toInt (by decide)] at this; simp; omega)
  refine q_iload_n hK 1 dX9_kinds_19 rfl rfl ?_
  refine q_aload_n hK 0 dX9_kinds_20 rfl rfl ?_
  refine q_getf hK dX9_kinds_21 fX9_182 (by decide) rfl rfl ?_
  rw [n1]
  refine q_icmp_le hK 33 dX9_kinds_24 (by decide) (fun c24 => ?_) (fun c24 => ?_)
  rotate_left
  · exact bad (by have := mt (Int32.le_iff_toInt_le (x := k) (y := nI (gN σ))).mpr c24; rw [nI_toInt (by omega)] at this; simp; omega)
  have hk : (decide (1 ≤ k.toInt) && decide (k.toInt ≤ gN σ)) = true := by
    have h1 := mt (Int32.lt_iff_toInt_lt (x := k) (y := nI 1)).mpr c16
    have h2 := Int32.le_iff_toInt_le.mp c24
    rw [nI_toInt (by decide)] at h1
    rw [nI_toInt (by omega)] at h2
    simp
    omega
  obtain ⟨ik, hk1, hk2, rfl, hk3⟩ := rng_ex hk (by omega)
  simp only [hk, hk3, if_true] at h
  refine q_aload_n hK 0 dX9_kinds_33 rfl rfl ?_
  refine q_iconst (v := nI 0) hK dX9_kinds_34 (by decide) ?_
  refine qm_put0 hK dX9_kinds_35 pX9_66 ?_
  refine q_aload_n hK 0 dX9_kinds_38 rfl rfl ?_
  refine q_iload_n hK 1 dX9_kinds_39 rfl rfl ?_
  refine q_cVv1 hK dX9_kinds_40 lX9_199 (by decide) (by decide) rfl (Nat.le_of_ble_eq_true rfl) (m_stepsBy (n := gN σ) (nt := gNt σ) (by rw [up_ne (by decide)]; exact n1) (by omega) n2 hk2 (n3 (by omega)) (fun Z' F' z1 z2 z16 z3 => ?_))
  refine q_aload_n hK 0 dX9_kinds_43 rfl rfl ?_
  refine q_getf hK dX9_kinds_44 fX9_196 (by decide) rfl rfl ?_
  rw [z3.1]
  exact q_iret hR dX9_kinds_47 rfl ⟨_, rfl, h _ _ _ ((hI.st 0).scr z1 z2)⟩
theorem M_step {σ : Sg} {k j t : Int32} {Q : Int32 → Mem → Prop} (hI : MI Z F σ) (h : ∀ Z' F' L', MI Z' F' (sp_step σ k j t).2 → Q (sp_step σ k j t).1 (MM X Z' F' L' g)) : CallI X 9 yX9_step [rf X 0, .int k, .int j, .int t] (MM X Z F L g) Q := by
  obtain ⟨n1, n2, n3, n4⟩ := hI.2.2.2.2.1
  refine CallM_intro (own := RX9) [some (rf X 0), some (.int k), some (.int j), some (.int t)] wX9_step (by decide) (by decide) rfl (Nat.le_of_ble_eq_true rfl) rfl (fun K hK hR => ?_)
  refine q_iload_n hK 3 dX9_step_0 rfl rfl ?_
  refine q_cSi1 hK dX9_step_1 lX9_111 (by decide) (Nat.le_of_ble_eq_true rfl) (m_isShelf ?_)
  refine q_if_ne hK 13 dX9_step_4 (by decide) (fun c4 => ?_) (fun c4 => ?_)
  rotate_left
  · have hs := (b2i_eq0 _).mp c4
    simp only [sp_step, hs] at h
    refine q_aload_n hK 0 dX9_step_7 rfl rfl ?_
    refine q_iconst (v := nI 1) hK dX9_step_8 (by decide) ?_
    refine q_cVi1 hK dX9_step_9 lX9_136 (by decide) (by decide) rfl (Nat.le_of_ble_eq_true rfl) (m_none ?_)
    exact q_iret hR dX9_step_12 rfl ⟨_, rfl, h _ _ _ (hI.st 1)⟩
  have hs := (b2i_ne0 _).mp c4
  obtain ⟨it, ht1, rfl, ht2⟩ := isIn_ex hs (by decide)
  simp only [sp_step, hs, ht2, if_true] at h
  refine q_aload_n hK 0 dX9_step_13 rfl rfl ?_
  refine q_getf hK dX9_step_14 fX9_182 (by decide) rfl rfl ?_
  rw [n1]
  refine q_if_ne hK 27 dX9_step_17 (by decide) (fun c17 => ?_) (fun c17 => ?_)
  rotate_left
  · have q : gN σ = 0 := (nI_eq (b := 0) (by omega) (by decide)).mp c17
    simp only [q, if_true] at h
    refine q_aload_n hK 0 dX9_step_20 rfl rfl ?_
    refine q_bipush (v := nI 7) hK dX9_step_21 (by decide) ?_
    refine q_cVi1 hK dX9_step_23 lX9_136 (by decide) (by decide) rfl (Nat.le_of_ble_eq_true rfl) (m_none ?_)
    exact q_iret hR dX9_step_26 rfl ⟨_, rfl, h _ _ _ (hI.st 7)⟩
  have q : ¬ gN σ = 0 := fun z => c17 (by rw [z]; rfl)
  simp only [q, if_false] at h
  have bad : (decide (1 ≤ k.toInt) && decide (k.toInt ≤ gN σ)) = false → K (MM X Z F L g) 40 [some (rf X 0), some (.int k), some (.int j), some (.int (nI it))] [] := by
    intro hb
    simp only [hb] at h
    refine q_aload_n hK 0 dX9_step_40 rfl rfl ?_
    refine q_iconst (v := nI 3) hK dX9_step_41 (by decide) ?_
    refine q_cVi1 hK dX9_step_42 lX9_136 (by decide) (by decide) rfl (Nat.le_of_ble_eq_true rfl) (m_none ?_)
    exact q_iret hR dX9_step_45 rfl ⟨_, rfl, h _ _ _ (hI.st 3)⟩
  refine q_iload_n hK 1 dX9_step_27 rfl rfl ?_
  refine q_iconst (v := nI 1) hK dX9_step_28 (by decide) ?_
  refine q_icmp_lt hK 40 dX9_step_29 (by decide) (fun c29 => ?_) (fun c29 => ?_)
  · exact bad (by have := Int32.lt_iff_toInt_lt.mp c29; rw [nI_toInt (by decide)] at this; simp; omega)
  refine q_iload_n hK 1 dX9_step_32 rfl rfl ?_
  refine q_aload_n hK 0 dX9_step_33 rfl rfl ?_
  refine q_getf hK dX9_step_34 fX9_182 (by decide) rfl rfl ?_
  rw [n1]
  refine q_icmp_le hK 46 dX9_step_37 (by decide) (fun c37 => ?_) (fun c37 => ?_)
  rotate_left
  · exact bad (by have := mt (Int32.le_iff_toInt_le (x := k) (y := nI (gN σ))).mpr c37; rw [nI_toInt (by omega)] at this; simp; omega)
  have hk : (decide (1 ≤ k.toInt) && decide (k.toInt ≤ gN σ)) = true := by
    have h1 := mt (Int32.lt_iff_toInt_lt (x := k) (y := nI 1)).mpr c29
    have h2 := Int32.le_iff_toInt_le.mp c37
    rw [nI_toInt (by decide)] at h1
    rw [nI_toInt (by omega)] at h2
    simp
    omega
  obtain ⟨ik, hk1, hk2, rfl, hk3⟩ := rng_ex hk (by omega)
  simp only [hk, hk3, if_true] at h
  refine q_aload_n hK 0 dX9_step_46 rfl rfl ?_
  refine q_iload_n hK 1 dX9_step_47 rfl rfl ?_
  refine q_cVv1 hK dX9_step_48 lX9_199 (by decide) (by decide) rfl (Nat.le_of_ble_eq_true rfl) (m_stepsBy (n := gN σ) (nt := gNt σ) n1 (by omega) n2 hk2 (n3 (by omega)) (fun Z1 F1 z1 z2 z16 z3 => ?_))
  have hI1 := hI.scr z1 z2
  have kle := kS_le (gN σ) (gNt σ) ik (gN σ)
  generalize kS (gN σ) (gNt σ) ik (gN σ) = s at *
  obtain ⟨k1, k2, k3⟩ := z3
  have bad2 : isIn j s.1 = false → K (MM X Z1 F1 L g) 63 [some (rf X 0), some (.int (nI ik)), some (.int j), some (.int (nI it))] [] := by
    intro hb
    simp only [hb] at h
    refine q_aload_n hK 0 dX9_step_63 rfl rfl ?_
    refine q_iconst (v := nI 3) hK dX9_step_64 (by decide) ?_
    refine q_cVi1 hK dX9_step_65 lX9_136 (by decide) (by decide) rfl (Nat.le_of_ble_eq_true rfl) (m_none ?_)
    exact q_iret hR dX9_step_68 rfl ⟨_, rfl, h _ _ _ (hI1.st 3)⟩
  refine q_iload_n hK 2 dX9_step_51 rfl rfl ?_
  refine q_if_lt hK 63 dX9_step_52 (by decide) (fun c52 => ?_) (fun c52 => ?_)
  · exact bad2 (by have := lt0_iff.mp c52; simp [isIn]; omega)
  refine q_iload_n hK 2 dX9_step_55 rfl rfl ?_
  refine q_aload_n hK 0 dX9_step_56 rfl rfl ?_
  refine q_getf hK dX9_step_57 fX9_196 (by decide) rfl rfl ?_
  rw [k1]
  refine q_icmp_lt hK 69 dX9_step_60 (by decide) (fun c60 => ?_) (fun c60 => ?_)
  rotate_left
  · exact bad2 (by have := mt (Int32.lt_iff_toInt_lt (x := j) (y := nI s.1)).mpr c60; rw [nI_toInt (by omega)] at this; simp [isIn]; omega)
  have hj : isIn j s.1 = true := by
    have h1 := mt lt0_iff.mpr c52
    have h2 := Int32.lt_iff_toInt_lt.mp c60
    rw [nI_toInt (by omega)] at h2
    simp [isIn]
    omega
  obtain ⟨ij, hj1, rfl, hj2⟩ := isIn_ex hj (by omega)
  simp only [hj, hj2, if_true] at h
  refine q_aload_n hK 0 dX9_step_69 rfl rfl ?_
  refine q_aload_n hK 0 dX9_step_70 rfl rfl ?_
  refine q_getf hK dX9_step_71 fX9_51 (by decide) rfl rfl ?_
  refine q_bipush (v := nI 6) hK dX9_step_74 (by decide) ?_
  refine q_iload_n hK 2 dX9_step_76 rfl rfl ?_
  refine q_imul hK dX9_step_77 ?_
  rw [show nI 6 * nI ij = nI (6 * ij) from pk_mul 6 ij]
  refine q_cVv2 hK dX9_step_78 lX9_89 (by decide) (by decide) rfl (Nat.le_of_ble_eq_true rfl) (m_hold (n := 14) (a := 6 * ij) rfl (by decide) (by show 6 * ij + 6 ≤ 150; omega) (fun f hf => ?_))
  refine q_aload_n hK 0 dX9_step_81 rfl rfl ?_
  refine q_iload_n hK 3 dX9_step_82 rfl rfl ?_
  -- often stays: by the same walk over comes
  refine q_cVi1 hK dX9_step_83 lX9_114 (by decide) (by decide) rfl (Nat.le_of_ble_eq_true rfl) (m_comesO (o := F1 15) (e := s.2.1 ij) (hI1.scr eqo.rf (eqo.rf.up (by decide))) ht1 (fun k hk => by rw [up_same, hf k hk]; have := k2 ij hj1 k hk; exact ⟨this.1, by omega, by omega⟩) (by rw [up_ne (by decide)]) (fun Z' F' hI' h15 => ?_))
  refine q_if_eq hK 98 dX9_step_86 (by decide) (fun c86 => ?_) (fun c86 => ?_)
  · have hf24 : farV 24 (s.2.1 ij) = true := by
      cases hq : farV 24 (s.2.1 ij)
      · have e1 : (sp_put σ it (s.2.1 ij)).1 = 1 := by simp [sp_put, hq]
        rw [e1] at c86
        exact absurd c86 (by decide)
      · rfl
    simp only [hf24, if_true] at h
    refine q_iconst (v := jI (-1)) hK dX9_step_98 (by decide) ?_
    exact q_iret hR dX9_step_99 rfl ⟨_, rfl, h _ _ _ hI'⟩
  · have hf24 : farV 24 (s.2.1 ij) = false := by
      cases hq : farV 24 (s.2.1 ij)
      · rfl
      · have e1 : (sp_put σ it (s.2.1 ij)).1 = 0 := by simp [sp_put, hq]
        exact absurd e1 c86
    simp only [hf24] at h
    refine q_aload_n hK 0 dX9_step_89 rfl rfl ?_
    refine q_getf hK dX9_step_90 fX9_54 (by decide) rfl rfl ?_
    refine q_iload_n hK 2 dX9_step_93 rfl rfl ?_
    refine qm_iald hK dX9_step_94 (n := 15) (k := ij) rfl rfl (by show ij < 25; omega) ?_
    refine q_goto hK 99 dX9_step_95 (by decide) ?_
    rw [h15, k3 ij hj1]
    exact q_iret hR dX9_step_99 rfl ⟨_, rfl, h _ _ _ hI'⟩
end M12b
