-- ===== the scale, in the class
def scI (Z : Nat → Int32) (P : Nat → Nat → Nat) (F : Nat → Nat → Int32) (n : Nat) (nt : Nat → Vec) : Prop := isNL (P 33 7) ∧ nlP P (P 33 7) ∧ Z (nlZ (P 33 7)) = nI n ∧ (1 ≤ n ∧ n ≤ 24) ∧ (∀ i, i < n → has6 (F (P (P 33 7 + 1) i)) (nt i) 24) ∧ has6 (F 34) (nt n) 24
theorem scI.mv {Z Z' : Nat → Int32} {P : Nat → Nat → Nat} {F F' : Nat → Nat → Int32} {n : Nat} {nt : Nat → Vec} (h : scI Z P F n nt) (hz : eqo [2, 3] Z Z') (hf : ∀ j, j = 34 ∨ 99 ≤ j → F' j = F j) : scI Z' P F' n nt := by
  obtain ⟨h1, h2, h3, h4, h5, h6⟩ := h
  refine ⟨h1, h2, ?_, h4, fun i hi => ?_, ?_⟩
  · rw [hz _ (by unfold nlZ; split <;> decide)]; exact h3
  · rw [hf _ (Or.inr (h2.rng (by omega)).1)]; exact h5 i hi
  · rw [hf 34 (Or.inl rfl)]; exact h6
theorem scI.bd {Z : Nat → Int32} {P : Nat → Nat → Nat} {F : Nat → Nat → Int32} {n : Nat} {nt : Nat → Vec} (h : scI Z P F n nt) : ∀ i, i ≤ n → ∀ j, j < 6 → -24 ≤ nt i j ∧ nt i j ≤ 24 := by
  intro i hi j hj
  by_cases e : i = n
  · rw [e]; exact (h.2.2.2.2.2 j hj).2
  · exact (h.2.2.2.2.1 i (by omega) j hj).2
def kPo (P : Nat → Nat → Nat) : Prop := (∀ k, k < 24 → 75 ≤ P 38 k ∧ P 38 k ≤ 98) ∧ ∀ i j, i < 24 → j < 24 → P 38 i = P 38 j → i = j
theorem kPo.R {P : Nat → Nat → Nat} {k : Nat} (h : kPo P) (hk : k < 24) : bR (P 38 k) = true := by
  have := h.1 k hk
  simp only [bR, Bool.or_eq_true, Bool.and_eq_true, decide_eq_true_eq]
  right
  omega
section BS
variable {X : Cx} {Z : Nat → Int32} {V : Nat → Int64} {P : Nat → Nat → Nat} {F : Nat → Nat → Int32} {L : Nat → Nat → Int64} {g : Mem}
theorem b_readNote {n i t : Nat} {nt : Nat → Vec} {Q : Mem → Prop} (hS : scI Z P F n nt) (ht : bR t = true) (hi : i ≤ 2 * n) (h : ∀ f, (∀ k, k < 6 → f k = jI (ntA n nt i k)) → Q (BB X Z V P (va_up F t f) L g)) : CallV X 1 yX6_readNote [rf X 33, .int (nI i), rf X t] (BB X Z V P F L g) Q := by
  obtain ⟨ho, hP, hz, hn, hr, hp⟩ := hS
  have hmod : i % n < n := Nat.mod_lt _ hn.1
  refine CallM_intro (own := RX6) [some (rf X 33), some (.int (nI i)), some (rf X t), none] wX6_readNote (by decide) (by decide) rfl (Nat.le_of_ble_eq_true rfl) rfl (fun K hK hR => ?_)
  refine q_aload_n hK 0 dX6_readNote_0 rfl rfl ?_
  refine q_getf hK dX6_readNote_1 fX6_39 (by decide) rfl rfl ?_
  refine q_getf hK dX6_readNote_4 fX6_46 (nl_lt ho) (BB_nl ho) rfl ?_
  rw [hz]
  refine q_istore_n hK 3 dX6_readNote_7 rfl (by decide) ?_
  refine q_iload_n hK 3 dX6_readNote_8 rfl rfl ?_
  refine q_iconst (v := nI 1) hK dX6_readNote_9 (by decide) ?_
  refine q_icmp_lt hK 17 dX6_readNote_10 (by decide) (fun c10 => ?_) (fun c10 => ?_)
  · have := (nI_ltI (by omega) (by decide)).mp c10
    omega
  refine q_iload_n hK 1 dX6_readNote_13 rfl rfl ?_
  refine q_if_ge hK 18 dX6_readNote_14 (by decide) (fun c14 => ?_) (fun c14 => ?_)
  rotate_left
  · exact absurd ((nI_leI (a := 0) (by decide) (by omega)).mpr (Nat.zero_le _)) c14
  refine q_aload_n hK 0 dX6_readNote_18 rfl rfl ?_
  refine q_getf hK dX6_readNote_19 fX6_39 (by decide) rfl rfl ?_
  refine q_getf hK dX6_readNote_22 fX6_84 (nl_lt ho) (BB_nl ho) rfl ?_
  refine q_iload_n hK 1 dX6_readNote_25 rfl rfl ?_
  refine q_iload_n hK 3 dX6_readNote_26 rfl rfl ?_
  refine q_irem hK dX6_readNote_27 (nI_ne0 hn.1 (by omega)) ?_
  rw [show nI i - nI i / nI n * nI n = nI (i % n) from pk_rem (by omega) (by omega) (by omega)]
  refine qb_aaldN hK dX6_readNote_28 ho (k := i % n) rfl (by omega) ?_
  refine q_aload_n hK 0 dX6_readNote_29 rfl rfl ?_
  refine q_getf hK dX6_readNote_30 fX6_15 (by decide) rfl rfl ?_
  refine q_iload_n hK 1 dX6_readNote_33 rfl rfl ?_
  refine q_iload_n hK 3 dX6_readNote_34 rfl rfl ?_
  refine q_idiv hK dX6_readNote_35 (nI_ne0 hn.1 (by omega)) ?_
  rw [show nI i / nI n = nI (i / n) from pk_div (by omega) (by omega) (by omega)]
  refine q_aload_n hK 2 dX6_readNote_36 rfl rfl ?_
  refine q_cSv4 hK dX6_readNote_37 lX6_59 (by decide) (Nat.le_of_ble_eq_true rfl) (b_combine (hP.R (by omega)) (b := 34) rfl ht (fun f hf => ?_))
  refine q_vret hR dX6_readNote_40 ⟨rfl, h f (fun k hk => ?_)⟩
  rw [hf k hk, (hr _ hmod k hk).1, (hp k hk).1, jI_nat, jI_mul, jI_add]
  rfl
theorem b_readStep {n i k t : Nat} {nt : Nat → Vec} {Q : Mem → Prop} (hS : scI Z P F n nt) (ht : bR t = true) (hi : i < n) (hk : k ≤ n) (htn : t ≠ P (P 33 7 + 1) i) (h : ∀ f, (∀ j, j < 6 → f j = jI (stV n nt k i j)) → Q (BB X Z V P (va_up F t f) L g)) : CallV X 2 yX6_readStep [rf X 33, .int (nI i), .int (nI k), rf X t] (BB X Z V P F L g) Q := by
  have hS0 := hS
  obtain ⟨ho, hP, hz, hn, hr, hp⟩ := hS
  refine CallM_intro (own := RX6) [some (rf X 33), some (.int (nI i)), some (.int (nI k)), some (rf X t)] wX6_readStep (by decide) (by decide) rfl (Nat.le_of_ble_eq_true rfl) rfl (fun K hK hR => ?_)
  refine q_iload_n hK 1 dX6_readStep_0 rfl rfl ?_
  refine q_if_lt hK 15 dX6_readStep_1 (by decide) (fun c1 => ?_) (fun c1 => ?_)
  · exact absurd c1 (nI_pos (by omega))
  refine q_iload_n hK 1 dX6_readStep_4 rfl rfl ?_
  refine q_aload_n hK 0 dX6_readStep_5 rfl rfl ?_
  refine q_getf hK dX6_readStep_6 fX6_39 (by decide) rfl rfl ?_
  refine q_getf hK dX6_readStep_9 fX6_46 (nl_lt ho) (BB_nl ho) rfl ?_
  rw [hz]
  refine q_icmp_lt hK 16 dX6_readStep_12 (by decide) (fun c12 => ?_) (fun c12 => ?_)
  rotate_left
  · exact absurd ((nI_ltI (by omega) (by omega)).mpr hi) c12
  refine q_aload_n hK 0 dX6_readStep_16 rfl rfl ?_
  refine q_iload_n hK 1 dX6_readStep_17 rfl rfl ?_
  refine q_iload_n hK 2 dX6_readStep_18 rfl rfl ?_
  refine q_iadd hK dX6_readStep_19 ?_
  refine q_aload_n hK 3 dX6_readStep_20 rfl rfl ?_
  rw [show nI i + nI k = nI (i + k) from nI_add i k]
  refine q_cVv2 hK dX6_readStep_21 lX6_95 (by decide) (by decide) rfl (Nat.le_of_ble_eq_true rfl) (b_readNote hS0 ht (by omega) (fun f hf => ?_))
  refine q_aload_n hK 3 dX6_readStep_24 rfl rfl ?_
  refine q_aload_n hK 0 dX6_readStep_25 rfl rfl ?_
  refine q_getf hK dX6_readStep_26 fX6_39 (by decide) rfl rfl ?_
  refine q_getf hK dX6_readStep_29 fX6_84 (nl_lt ho) (BB_nl ho) rfl ?_
  refine q_iload_n hK 1 dX6_readStep_32 rfl rfl ?_
  refine qb_aaldN hK dX6_readStep_33 ho (k := i) rfl (by omega) ?_
  refine q_iconst (v := jI (-1)) hK dX6_readStep_34 (by decide) ?_
  refine q_aload_n hK 3 dX6_readStep_35 rfl rfl ?_
  refine q_cSv4 hK dX6_readStep_36 lX6_59 (by decide) (Nat.le_of_ble_eq_true rfl) (b_combine ht (hP.R (by omega)) ht (fun f2 hf2 => ?_))
  rw [up_up]
  refine q_vret hR dX6_readStep_39 ⟨rfl, h f2 (fun j hj => ?_)⟩
  rw [hf2 j hj, up_same, up_ne (Ne.symm htn), hf j hj, (hr i hi j hj).1, jI_mul, jI_add]
  congr 1
  show _ = ntA n nt (i + k) j - nt i j
  omega
theorem b_exists {n : Nat} {Q : Int32 → Mem → Prop} (ho : isNL (P 33 7)) (hz : Z (nlZ (P 33 7)) = nI n) (hn : n ≤ 24) (h : Q (b2i (decide (0 < n))) (BB X Z V P F L g)) : CallI X 0 yX6_exists [rf X 33] (BB X Z V P F L g) Q := by
  refine CallM_intro (own := RX6) [some (rf X 33)] wX6_exists (by decide) (by decide) rfl (Nat.le_of_ble_eq_true rfl) rfl (fun K hK hR => ?_)
  refine q_aload_n hK 0 dX6_exists_0 rfl rfl ?_
  refine q_getf hK dX6_exists_1 fX6_39 (by decide) rfl rfl ?_
  refine q_getf hK dX6_exists_4 fX6_46 (nl_lt ho) (BB_nl ho) rfl ?_
  rw [hz]
  refine q_if_le hK 14 dX6_exists_7 (by decide) (fun c7 => ?_) (fun c7 => ?_)
  · have := (nI_leI (b := 0) (by omega) (by decide)).mp c7
    rw [show decide (0 < n) = false by simp; omega] at h
    refine q_iconst (v := nI 0) hK dX6_exists_14 (by decide) ?_
    exact q_iret hR dX6_exists_15 rfl ⟨_, rfl, h⟩
  · have := mt (nI_leI (a := n) (b := 0) (by omega) (by decide)).mpr c7
    rw [show decide (0 < n) = true by simp; omega] at h
    refine q_iconst (v := nI 1) hK dX6_exists_10 (by decide) ?_
    refine q_goto hK 15 dX6_exists_11 (by decide) ?_
    exact q_iret hR dX6_exists_15 rfl ⟨_, rfl, h⟩
theorem b_start {a : Nat} {Q : Mem → Prop} (ho : isNL (P 33 7)) (hP : nlP P (P 33 7)) (ha : bR a = true) (h : ∀ f f0, (∀ k, k < 6 → f k = F a k) → (∀ k, k < 6 → f0 k = 0) → Q (BB X (va_up Z (nlZ (P 33 7)) (nI 1)) V P (va_up (va_up F 34 f) (P (P 33 7 + 1) 0) f0) L g)) : CallV X 2 yX6_start [rf X 33, rf X a] (BB X Z V P F L g) Q := by
  refine CallM_intro (own := RX6) [some (rf X 33), some (rf X a)] wX6_start (by decide) (by decide) rfl (Nat.le_of_ble_eq_true rfl) rfl (fun K hK hR => ?_)
  refine q_aload_n hK 1 dX6_start_0 rfl rfl ?_
  refine q_aload_n hK 0 dX6_start_1 rfl rfl ?_
  refine q_getf hK dX6_start_2 fX6_15 (by decide) rfl rfl ?_
  refine q_cSv2 hK dX6_start_5 lX6_50 (by decide) (Nat.le_of_ble_eq_true rfl) (b_copy ha (m := 34) rfl (fun f hf => ?_))
  refine q_aload_n hK 0 dX6_start_8 rfl rfl ?_
  refine q_getf hK dX6_start_9 fX6_39 (by decide) rfl rfl ?_
  refine q_cVv0 hK dX6_start_12 lX6_56 (by decide) (nl_lt ho) (BB_nl ho) (Nat.le_of_ble_eq_true rfl) (b_restart ho hP (fun f0 hf0 => ?_))
  exact q_vret hR dX6_start_15 ⟨rfl, h f f0 hf hf0⟩
theorem b_gather {n k : Nat} {nt : Nat → Vec} {Q : Int32 → Mem → Prop} (hS : scI Z P F n nt) (hK8 : kPo P) (hk : k ≤ n) (h : ∀ F' π ρ, (∀ j, j ≠ 35 → j ≠ 39 → (j < 75 ∨ 98 < j) → F' j = F j) → kH P F' (kS n nt k n) π ρ → Q (nI (kS n nt k n).1) (BB X Z V P F' L g)) : CallI X 3 yX6_gatherKinds [rf X 33, .int (nI k)] (BB X Z V P F L g) Q := by
  have ho := hS.1
  have hz := hS.2.2.1
  have hn := hS.2.2.2.1
  have hbd := hS.bd
  refine CallM_intro (own := RX6) [some (rf X 33), some (.int (nI k)), none, none, none] wX6_gatherKinds (by decide) (by decide) rfl (Nat.le_of_ble_eq_true rfl) rfl (fun K hK hR => ?_)
  refine q_iconst (v := nI 0) hK dX6_gatherKinds_0 (by decide) ?_
  refine q_istore_n hK 2 dX6_gatherKinds_1 rfl (by decide) ?_
  refine q_iconst (v := nI 0) hK dX6_gatherKinds_2 (by decide) ?_
  refine q_istore_n hK 3 dX6_gatherKinds_3 rfl (by decide) ?_
  have loop : ∀ m i v4 F' π ρ, i + m = n → (∀ j, j ≠ 35 → j ≠ 39 → (j < 75 ∨ 98 < j) → F' j = F j) → kH P F' (kS n nt k i) π ρ → K (BB X Z V P F' L g) 4 [some (rf X 33), some (.int (nI k)), some (.int (nI (kS n nt k i).1)), some (.int (nI i)), v4] [] := by
    intro m
    induction m with
    | zero =>
      intro i v4 F' π ρ hi hF hH
      have : i = n := by omega
      subst this
      refine q_iload_n hK 3 dX6_gatherKinds_4 rfl rfl ?_
      refine q_aload_n hK 0 dX6_gatherKinds_5 rfl rfl ?_
      refine q_getf hK dX6_gatherKinds_6 fX6_39 (by decide) rfl rfl ?_
      refine q_getf hK dX6_gatherKinds_9 fX6_46 (nl_lt ho) (BB_nl ho) rfl ?_
      rw [hz]
      refine q_icmp_ge hK 115 dX6_gatherKinds_12 (by decide) (fun c12 => ?_) (fun c12 => ?_)
      rotate_left
      · exact absurd ((nI_leI (by omega) (by omega)).mpr (Nat.le_refl _)) c12
      refine q_iload_n hK 2 dX6_gatherKinds_115 rfl rfl ?_
      exact q_iret hR dX6_gatherKinds_116 rfl ⟨_, rfl, h F' π ρ hF hH⟩
    | succ m ih =>
      intro i v4 F' π ρ hi hF hH
      have hle := kS_le n nt k i
      have hS' : scI Z P F' n nt := hS.mv eqo.rf (fun j hj => hF j (by omega) (by omega) (by omega))
      have hkb := kS_bd hn.1 hk hbd i (by omega)
      have hsb : ∀ j, j < 6 → -100 ≤ stV n nt k i j ∧ stV n nt k i j ≤ 100 := fun j hj => stV_bd hn.1 hk (by omega) hbd hj
      refine q_iload_n hK 3 dX6_gatherKinds_4 rfl rfl ?_
      refine q_aload_n hK 0 dX6_gatherKinds_5 rfl rfl ?_
      refine q_getf hK dX6_gatherKinds_6 fX6_39 (by decide) rfl rfl ?_
      refine q_getf hK dX6_gatherKinds_9 fX6_46 (nl_lt ho) (BB_nl ho) rfl ?_
      rw [hz]
      refine q_icmp_ge hK 115 dX6_gatherKinds_12 (by decide) (fun c12 => ?_) (fun c12 => ?_)
      · have := (nI_leI (by omega) (by omega)).mp c12
        omega
      refine q_aload_n hK 0 dX6_gatherKinds_15 rfl rfl ?_
      refine q_iload_n hK 3 dX6_gatherKinds_16 rfl rfl ?_
      refine q_iload_n hK 1 dX6_gatherKinds_17 rfl rfl ?_
      refine q_aload_n hK 0 dX6_gatherKinds_18 rfl rfl ?_
      refine q_getf hK dX6_gatherKinds_19 fX6_19 (by decide) rfl rfl ?_
      refine q_cVv3 hK dX6_gatherKinds_22 lX6_87 (by decide) (by decide) rfl (Nat.le_of_ble_eq_true rfl) (b_readStep hS' (t := 35) rfl (by omega) hk (fun z => by have := (hS.2.1.rng (show i < 24 by omega)).1; omega) (fun f35 hf35 => ?_))
      refine q_iconst (v := nI 0) hK dX6_gatherKinds_25 (by decide) ?_
      refine q_istore hK dX6_gatherKinds_26 (by decide) ?_
      -- the search has ended
      have after : ∀ t, t ≤ (kS n nt k i).1 → (∀ q, q < t → ¬ ∀ j, j < 6 → (kS n nt k i).2.1 (π q) j = stV n nt k i j) → (t < (kS n nt k i).1 → ∀ j, j < 6 → (kS n nt k i).2.1 (π t) j = stV n nt k i j) → K (BB X Z V P (va_up F' 35 f35) L g) 57 [some (rf X 33), some (.int (nI k)), some (.int (nI (kS n nt k i).1)), some (.int (nI i)), some (.int (nI t))] [] := by
        intro t ht hno hyes
        refine q_iload hK dX6_gatherKinds_57 rfl ?_
        refine q_iload_n hK 2 dX6_gatherKinds_59 rfl rfl ?_
        refine q_icmp_ne hK 92 dX6_gatherKinds_60 (by decide) (fun c60 => ?_) (fun c60 => ?_)
        · have htc : t ≠ (kS n nt k i).1 := fun z => c60 (by rw [z])
          refine q_iload hK dX6_gatherKinds_92 rfl ?_
          refine q_iload_n hK 2 dX6_gatherKinds_94 rfl rfl ?_
          refine q_icmp_ge hK 109 dX6_gatherKinds_95 (by decide) (fun c95 => ?_) (fun c95 => ?_)
          · have := (nI_leI (by omega) (by omega)).mp c95
            omega
          refine q_aload_n hK 0 dX6_gatherKinds_98 rfl rfl ?_
          refine q_getf hK dX6_gatherKinds_99 fX6_35 (by decide) rfl rfl ?_
          refine q_iload hK dX6_gatherKinds_102 rfl ?_
          refine q_dup2 hK dX6_gatherKinds_104 rfl rfl ?_
          refine qb_iald hK dX6_gatherKinds_105 (n := 39) (k := t) rfl rfl (by show t < 24; omega) ?_
          refine q_iconst (v := nI 1) hK dX6_gatherKinds_106 (by decide) ?_
          refine q_iadd hK dX6_gatherKinds_107 ?_
          refine qb_iast hK dX6_gatherKinds_108 (n := 39) (k := t) rfl rfl (by show t < 24; omega) ?_
          refine q_inc1 hK dX6_gatherKinds_109 rfl (by decide) ?_
          refine q_goto hK 4 dX6_gatherKinds_112 (by decide) ?_
          have hc := kH_cnt (F' := va_up (va_up F' 35 f35) 39 (upd (va_up F' 35 f35 39) t (va_up F' 35 f35 39 t + nI 1))) hH (by omega) (show t < (kS n nt k i).1 by omega) (hyes (by omega)) (fun j hj => ?_) ?_
          · have := ih (i + 1) (some (.int (nI t))) _ π ρ (by omega) ?_ hc.2
            · rw [hc.1] at this
              exact this
            · intro j h1 h2 h3
              rw [up_ne h2, up_ne h1]
              exact hF j h1 h2 h3
          · have := hK8.1 j (by omega)
            rw [up_ne (by omega), up_ne (by omega)]
          · rw [up_same, up_ne (by decide)]
        · have htc : t = (kS n nt k i).1 := (nI_eq (by omega) (by omega)).mp c60
          subst htc
          refine q_iload_n hK 2 dX6_gatherKinds_63 rfl rfl ?_
          refine q_bipush (v := nI 24) hK dX6_gatherKinds_64 (by decide) ?_
          refine q_icmp_ge hK 92 dX6_gatherKinds_66 (by decide) (fun c66 => ?_) (fun c66 => ?_)
          · have := (nI_leI (by decide) (by omega)).mp c66
            omega
          refine q_aload_n hK 0 dX6_gatherKinds_69 rfl rfl ?_
          refine q_getf hK dX6_gatherKinds_70 fX6_19 (by decide) rfl rfl ?_
          refine q_aload_n hK 0 dX6_gatherKinds_73 rfl rfl ?_
          refine q_getf hK dX6_gatherKinds_74 fX6_32 (by decide) rfl rfl ?_
          refine q_iload_n hK 2 dX6_gatherKinds_77 rfl rfl ?_
          refine qb_aald38 hK dX6_gatherKinds_78 (k := (kS n nt k i).1) rfl (by omega) ?_
          have hcr := hK8.1 (kS n nt k i).1 (by omega)
          refine q_cSv2 hK dX6_gatherKinds_79 lX6_50 (by decide) (Nat.le_of_ble_eq_true rfl) (b_copy (n := 35) rfl (hK8.R (by omega)) (fun fc hfc => ?_))
          refine q_aload_n hK 0 dX6_gatherKinds_82 rfl rfl ?_
          refine q_getf hK dX6_gatherKinds_83 fX6_35 (by decide) rfl rfl ?_
          refine q_iload_n hK 2 dX6_gatherKinds_86 rfl rfl ?_
          refine q_iconst (v := nI 0) hK dX6_gatherKinds_87 (by decide) ?_
          refine qb_iast hK dX6_gatherKinds_88 (n := 39) (k := (kS n nt k i).1) rfl rfl (by show _ < 24; omega) ?_
          refine q_inc1 hK dX6_gatherKinds_89 rfl (by decide) ?_
          refine q_iload hK dX6_gatherKinds_92 rfl ?_
          refine q_iload_n hK 2 dX6_gatherKinds_94 rfl rfl ?_
          refine q_icmp_ge hK 109 dX6_gatherKinds_95 (by decide) (fun c95 => ?_) (fun c95 => ?_)
          · have := (nI_leI (by omega) (by omega)).mp c95
            omega
          refine q_aload_n hK 0 dX6_gatherKinds_98 rfl rfl ?_
          refine q_getf hK dX6_gatherKinds_99 fX6_35 (by decide) rfl rfl ?_
          refine q_iload hK dX6_gatherKinds_102 rfl ?_
          refine q_dup2 hK dX6_gatherKinds_104 rfl rfl ?_
          refine qb_iald hK dX6_gatherKinds_105 (n := 39) (k := (kS n nt k i).1) rfl rfl (by show _ < 24; omega) ?_
          refine q_iconst (v := nI 1) hK dX6_gatherKinds_106 (by decide) ?_
          refine q_iadd hK dX6_gatherKinds_107 ?_
          refine qb_iast hK dX6_gatherKinds_108 (n := 39) (k := (kS n nt k i).1) rfl rfl (by show _ < 24; omega) ?_
          refine q_inc1 hK dX6_gatherKinds_109 rfl (by decide) ?_
          refine q_goto hK 4 dX6_gatherKinds_112 (by decide) ?_
          rw [up_up, up_same, upd_same]
          have hnw := kH_new (F' := va_up (va_up (va_up F' 35 f35) (P 38 (kS n nt k i).1) fc) 39 (upd (upd (va_up (va_up F' 35 f35) (P 38 (kS n nt k i).1) fc 39) (kS n nt k i).1 (nI 0)) (kS n nt k i).1 (nI 0 + nI 1))) hH hno (fun j hj => ?_) (fun j hj => ?_) (fun j hj => ?_) ?_
          · obtain ⟨e1, π', ρ', e2⟩ := hnw
            have := ih (i + 1) (some (.int (nI (kS n nt k i).1))) _ π' ρ' (by omega) ?_ e2
            · rw [e1] at this
              exact this
            · intro j h1 h2 h3
              rw [up_ne h2, up_ne (by omega), up_ne h1]
              exact hF j h1 h2 h3
          · have := hK8.1 j (by omega)
            rw [up_ne (by omega), up_ne (fun z => by have := hK8.2 j _ (by omega) (by omega) z; omega), up_ne (by omega)]
          · rw [up_ne (by omega), up_same, hfc j hj, up_same]
            exact hf35 j hj
          · rw [up_same, upd_ne (by omega), upd_ne (by omega), up_ne (by omega), up_ne (by decide)]
          · rw [up_same, upd_same]
            rfl
      have find : ∀ m2 t, t + m2 = (kS n nt k i).1 → (∀ q, q < t → ¬ ∀ j, j < 6 → (kS n nt k i).2.1 (π q) j = stV n nt k i j) → K (BB X Z V P (va_up F' 35 f35) L g) 28 [some (rf X 33), some (.int (nI k)), some (.int (nI (kS n nt k i).1)), some (.int (nI i)), some (.int (nI t))] [] := by
        intro m2
        induction m2 with
        | zero =>
          intro t ht hno
          refine q_iload hK dX6_gatherKinds_28 rfl ?_
          refine q_iload_n hK 2 dX6_gatherKinds_30 rfl rfl ?_
          refine q_icmp_ge hK 57 dX6_gatherKinds_31 (by decide) (fun c31 => ?_) (fun c31 => ?_)
          · exact after t (by omega) hno (fun z => by omega)
          · exact absurd ((nI_leI (by omega) (by omega)).mpr (by omega)) c31
        | succ m2 ih2 =>
          intro t ht hno
          have htr := hK8.1 t (by omega)
          refine q_iload hK dX6_gatherKinds_28 rfl ?_
          refine q_iload_n hK 2 dX6_gatherKinds_30 rfl rfl ?_
          refine q_icmp_ge hK 57 dX6_gatherKinds_31 (by decide) (fun c31 => ?_) (fun c31 => ?_)
          · have := (nI_leI (by omega) (by omega)).mp c31
            omega
          refine q_aload_n hK 0 dX6_gatherKinds_34 rfl rfl ?_
          refine q_getf hK dX6_gatherKinds_35 fX6_32 (by decide) rfl rfl ?_
          refine q_iload hK dX6_gatherKinds_38 rfl ?_
          refine qb_aald38 hK dX6_gatherKinds_40 (k := t) rfl (by omega) ?_
          refine q_aload_n hK 0 dX6_gatherKinds_41 rfl rfl ?_
          refine q_getf hK dX6_gatherKinds_42 fX6_19 (by decide) rfl rfl ?_
          refine q_cSi2 hK dX6_gatherKinds_45 lX6_99 (by decide) (Nat.le_of_ble_eq_true rfl) (b_isSame (hK8.R (by omega)) (b := 35) rfl ?_)
          have hiff : sameN (va_up F' 35 f35 (P 38 t)) (va_up F' 35 f35 35) 6 = true ↔ ∀ j, j < 6 → (kS n nt k i).2.1 (π t) j = stV n nt k i j := by
            rw [sameN_all]
            constructor
            · intro hq j hj
              have h1 := hq j hj
              have b1 := hkb (π t) (hH.1 t (by omega)).1 j hj
              have b2 := hsb j hj
              rw [up_ne (by omega), up_same, hf35 j hj, (hH.2 t (by omega)).1 j hj] at h1
              exact (jI_eq (by omega) (by omega) (by omega) (by omega)).mp h1
            · intro hq j hj
              rw [up_ne (by omega), up_same, hf35 j hj, (hH.2 t (by omega)).1 j hj, hq j hj]
          refine q_if_ne hK 57 dX6_gatherKinds_48 (by decide) (fun c48 => ?_) (fun c48 => ?_)
          · exact after t (by omega) hno (fun _ => hiff.mp ((b2i_ne0 _).mp c48))
          · have hns : ¬ ∀ j, j < 6 → (kS n nt k i).2.1 (π t) j = stV n nt k i j := fun z => by
              rw [hiff.mpr z] at c48
              exact absurd c48 (by decide)
            refine q_inc1 hK dX6_gatherKinds_51 rfl (by decide) ?_
            refine q_goto hK 28 dX6_gatherKinds_54 (by decide) ?_
            refine ih2 (t + 1) (by omega) (fun q hq => ?_)
            by_cases e : q = t
            · rw [e]; exact hns
            · exact hno q (by omega)
      exact find (kS n nt k i).1 0 (by omega) (fun q hq => absurd hq (Nat.not_lt_zero q))
  exact loop n 0 none F id id (by omega) (fun j _ _ _ => rfl) ⟨fun i hi => absurd hi (Nat.not_lt_zero i), fun i hi => absurd hi (Nat.not_lt_zero i)⟩
end BS
