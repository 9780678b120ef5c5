-- ===== kinds in order, the scale's answers
def scS (j : Nat) : Prop := j = 26 ∨ j = 28 ∨ j = 29 ∨ (35 ≤ j ∧ j ≤ 37) ∨ j = 39 ∨ (75 ≤ j ∧ j ≤ 98)
def frS (F F' : Nat → Nat → Int32) : Prop := ∀ j, ¬ scS j → F' j = F j
theorem frS.rf {F : Nat → Nat → Int32} : frS F F := fun _ _ => rfl
theorem frS.tr {F F' F'' : Nat → Nat → Int32} (h : frS F F') (h2 : frS F' F'') : frS F F'' := fun j hj => (h2 j hj).trans (h j hj)
theorem frS.up {F F' : Nat → Nat → Int32} {k : Nat} {v : Nat → Int32} (h : frS F F') (hk : scS k) : frS F (va_up F' k v) := fun j hj => by
  rw [up_ne (fun z => hj (by rw [z]; exact hk))]
  exact h j hj
theorem frS_g {F F' : Nat → Nat → Int32} (h : ∀ j, j ≠ 35 → j ≠ 39 → (j < 75 ∨ 98 < j) → F' j = F j) : frS F F' := fun j hj => h j (fun z => hj (by unfold scS; omega)) (fun z => hj (by unfold scS; omega)) (by unfold scS at hj; omega)
theorem frS_e {F F' : Nat → Nat → Int32} (h : eqo [26, 28, 29] F F') : frS F F' := fun j hj => h j (by unfold scS at hj; simp; omega)
theorem scI.fr {Z Z' : Nat → Int32} {P : Nat → Nat → Nat} {F F' : Nat → Nat → Int32} {n : Nat} {nt : Nat → Vec} (h : scI Z P F n nt) (hz : eqo [2, 3] Z Z') (hf : frS F F') : scI Z' P F' n nt := h.mv hz (fun j hj => hf j (by unfold scS; omega))
def swN (i l t : Nat) : Nat := if t = l then i else if t = i then l else t
theorem swN_lt {i l t c : Nat} (hi : i < c) (hl : l < c) (ht : t < c) : swN i l t < c := by
  unfold swN
  split
  · exact hi
  · split
    · exact hl
    · exact ht
theorem swN_sw (i l t : Nat) : swN i l (swN i l t) = t := by
  unfold swN
  by_cases e1 : t = l
  · rw [if_pos e1]
    by_cases e2 : i = l
    · rw [if_pos e2, e1, e2]
    · rw [if_neg e2, if_pos rfl, e1]
  · rw [if_neg e1]
    by_cases e2 : t = i
    · rw [if_pos e2, if_pos rfl, e2]
    · rw [if_neg e2, if_neg e1, if_neg e2]
theorem swP_N (p : Nat → Nat) (i l t : Nat) : swP p i l t = p (swN i l t) := by
  rw [swP_at]
  unfold swN
  by_cases e1 : t = l
  · rw [if_pos e1, if_pos e1]
  · rw [if_neg e1, if_neg e1]
    by_cases e2 : t = i
    · rw [if_pos e2, if_pos e2]
    · rw [if_neg e2, if_neg e2]
theorem kPo.sw {P : Nat → Nat → Nat} {a b : Nat} (h : kPo P) (ha : a < 24) (hb : b < 24) : kPo (va_up P 38 (swP (P 38) a b)) := by
  unfold kPo
  rw [up_same]
  refine ⟨fun k hk => ?_, fun i j hi hj he => ?_⟩
  · rw [swP_N]
    exact h.1 _ (swN_lt ha hb hk)
  · rw [swP_N, swP_N] at he
    have := h.2 _ _ (swN_lt ha hb hi) (swN_lt ha hb hj) he
    rw [← swN_sw a b i, ← swN_sw a b j, this]
theorem kH_swap {P : Nat → Nat → Nat} {F : Nat → Nat → Int32} {s : Ks} {π ρ : Nat → Nat} {i l : Nat} (h : kH P F s π ρ) (hk : kPo P) (hc : s.1 ≤ 24) (hi : i < s.1) (hl : l < s.1) : kH (va_up P 38 (swP (P 38) i l)) (va_up F 39 (upd (upd (F 39) i (F 39 l)) l (F 39 i))) s (fun t => π (swN i l t)) (fun j => swN i l (ρ j)) := by
  refine ⟨fun t ht => ?_, fun t ht => ?_⟩
  · have a1 := h.1 (swN i l t) (swN_lt hi hl ht)
    have a2 := h.1 t ht
    refine ⟨a1.1, ?_, swN_lt hi hl a2.2.2.1, ?_⟩
    · show swN i l (ρ (π (swN i l t))) = t
      rw [a1.2.1, swN_sw]
    · show π (swN i l (swN i l (ρ t))) = t
      rw [swN_sw]
      exact a2.2.2.2
  · have hs := swN_lt hi hl ht
    have a1 := h.2 (swN i l t) hs
    have hr := hk.1 (swN i l t) (by omega)
    refine ⟨fun k hk6 => ?_, ?_⟩
    · rw [up_same, swP_N, up_ne (by omega)]
      exact a1.1 k hk6
    · rw [up_same]
      show _ = nI (s.2.2 (π (swN i l t)))
      rw [← a1.2]
      unfold swN
      by_cases e1 : t = l
      · rw [e1, upd_same, if_pos rfl]
      · rw [upd_ne e1, if_neg e1]
        by_cases e2 : t = i
        · rw [e2, upd_same, if_pos rfl]
        · rw [upd_ne e2, if_neg e2]
theorem srt_lt {c i j : Nat} {R : Nat → Vec} (hs : srt c R) (hi : i < c) (hj : j < c) : sgn (fun k => R i k - R j k) < 0 ↔ i < j := by
  constructor
  · intro h
    rcases Nat.lt_trichotomy i j with q | q | q
    · exact q
    · subst q
      have : sgn (fun k => R i k - R i k) = 0 := sgn_one.mpr (fun k _ => by show R i k - R i k = 0; omega)
      omega
    · have := hs j i q hi
      omega
  · intro h
    exact sgn_flip' (hs i j h hj)
section BT
variable {X : Cx} {Z : Nat → Int32} {V : Nat → Int64} {P : Nat → Nat → Nat} {F : Nat → Nat → Int32} {L : Nat → Nat → Int64} {g : Mem}
theorem b_swapKinds {a b : Nat} {Q : Mem → Prop} (hK8 : kPo P) (ha : a < 24) (hb : b < 24) (h : Q (BB X Z V (va_up P 38 (swP (P 38) a b)) (va_up F 39 (upd (upd (F 39) a (F 39 b)) b (F 39 a))) L g)) : CallV X 0 yX6_swapKinds [rf X 33, .int (nI a), .int (nI b)] (BB X Z V P F L g) Q := by
  refine CallM_intro (own := RX6) [some (rf X 33), some (.int (nI a)), some (.int (nI b)), none, none] wX6_swapKinds (by decide) (by decide) rfl (Nat.le_of_ble_eq_true rfl) rfl (fun K hK hR => ?_)
  refine q_aload_n hK 0 dX6_swapKinds_0 rfl rfl ?_
  refine q_getf hK dX6_swapKinds_1 fX6_32 (by decide) rfl rfl ?_
  refine q_iload_n hK 1 dX6_swapKinds_4 rfl rfl ?_
  refine qb_aald38 hK dX6_swapKinds_5 (k := a) rfl ha ?_
  refine q_astore_n hK 3 dX6_swapKinds_6 rfl (by decide) ?_
  refine q_aload_n hK 0 dX6_swapKinds_7 rfl rfl ?_
  refine q_getf hK dX6_swapKinds_8 fX6_32 (by decide) rfl rfl ?_
  refine q_iload_n hK 1 dX6_swapKinds_11 rfl rfl ?_
  refine q_aload_n hK 0 dX6_swapKinds_12 rfl rfl ?_
  refine q_getf hK dX6_swapKinds_13 fX6_32 (by decide) rfl rfl ?_
  refine q_iload_n hK 2 dX6_swapKinds_16 rfl rfl ?_
  refine qb_aald38 hK dX6_swapKinds_17 (k := b) rfl hb ?_
  refine qb_aast38 hK dX6_swapKinds_18 (k := a) rfl ha (hK8.R hb) ?_
  refine q_aload_n hK 0 dX6_swapKinds_19 rfl rfl ?_
  refine q_getf hK dX6_swapKinds_20 fX6_32 (by decide) rfl rfl ?_
  refine q_iload_n hK 2 dX6_swapKinds_23 rfl rfl ?_
  refine q_aload_n hK 3 dX6_swapKinds_24 rfl rfl ?_
  refine qb_aast38 hK dX6_swapKinds_25 (k := b) rfl hb (hK8.R ha) ?_
  rw [up_up, up_same]
  refine q_aload_n hK 0 dX6_swapKinds_26 rfl rfl ?_
  refine q_getf hK dX6_swapKinds_27 fX6_35 (by decide) rfl rfl ?_
  refine q_iload_n hK 1 dX6_swapKinds_30 rfl rfl ?_
  refine qb_iald hK dX6_swapKinds_31 (n := 39) (k := a) rfl rfl (by show _ < 24; omega) ?_
  refine q_istore hK dX6_swapKinds_32 (by decide) ?_
  refine q_aload_n hK 0 dX6_swapKinds_34 rfl rfl ?_
  refine q_getf hK dX6_swapKinds_35 fX6_35 (by decide) rfl rfl ?_
  refine q_iload_n hK 1 dX6_swapKinds_38 rfl rfl ?_
  refine q_aload_n hK 0 dX6_swapKinds_39 rfl rfl ?_
  refine q_getf hK dX6_swapKinds_40 fX6_35 (by decide) rfl rfl ?_
  refine q_iload_n hK 2 dX6_swapKinds_43 rfl rfl ?_
  refine qb_iald hK dX6_swapKinds_44 (n := 39) (k := b) rfl rfl (by show _ < 24; omega) ?_
  refine qb_iast hK dX6_swapKinds_45 (n := 39) (k := a) rfl rfl (by show _ < 24; omega) ?_
  refine q_aload_n hK 0 dX6_swapKinds_46 rfl rfl ?_
  refine q_getf hK dX6_swapKinds_47 fX6_35 (by decide) rfl rfl ?_
  refine q_iload_n hK 2 dX6_swapKinds_50 rfl rfl ?_
  refine q_iload hK dX6_swapKinds_51 rfl ?_
  refine qb_iast hK dX6_swapKinds_53 (n := 39) (k := b) rfl rfl (by show _ < 24; omega) ?_
  rw [up_up, up_same]
  exact q_vret hR dX6_swapKinds_54 ⟨rfl, h⟩
theorem b_readKind {s : Ks} {π ρ : Nat → Nat} {j t : Nat} {Q : Int32 → Mem → Prop} (hK8 : kPo P) (hH : kH P F s π ρ) (hc : s.1 ≤ 24) (hs : srt s.1 s.2.1) (hb : ∀ i, i < s.1 → ∀ k, k < 6 → -100 ≤ s.2.1 i k ∧ s.2.1 i k ≤ 100) (hj : j < s.1) (ht : bR t = true) (h : ∀ Z' V' P' F' f, eqo [2, 3] Z Z' → eqo [38] P P' → kPo P' → frS F F' → (∀ k, k < 6 → f k = jI (s.2.1 j k)) → (t ≠ 39 → Q (nI (s.2.2 j)) (BB X Z' V' P' (va_up F' t f) L g))) : CallI X 4 yX6_readKind [rf X 33, .int (nI j), .int (nI s.1), rf X t] (BB X Z V P F L g) Q := by
  have t39 : t ≠ 39 := fun z => by rw [z] at ht; exact absurd ht (by decide)
  refine CallM_intro (own := RX6) [some (rf X 33), some (.int (nI j)), some (.int (nI s.1)), some (rf X t), none, none, none] wX6_readKind (by decide) (by decide) rfl (Nat.le_of_ble_eq_true rfl) rfl (fun K hK hR => ?_)
  refine q_iconst (v := nI 0) hK dX6_readKind_0 (by decide) ?_
  refine q_istore hK dX6_readKind_1 (by decide) ?_
  have loop : ∀ m i v5 v6 Z' V' P' F' π ρ, i + m = j + 1 → eqo [2, 3] Z Z' → eqo [38] P P' → kPo P' → frS F F' → kH P' F' s π ρ → (∀ q, q < i → π q = q) → K (BB X Z' V' P' F' L g) 3 [some (rf X 33), some (.int (nI j)), some (.int (nI s.1)), some (rf X t), some (.int (nI i)), v5, v6] [] := by
    intro m
    induction m with
    | zero =>
      intro i v5 v6 Z' V' P' F' π ρ hi z1 z2 hK8 z3 hH hpre
      refine q_iload hK dX6_readKind_3 rfl ?_
      refine q_iload_n hK 1 dX6_readKind_5 rfl rfl ?_
      refine q_icmp_gt hK 79 dX6_readKind_6 (by decide) (fun c6 => ?_) (fun c6 => ?_)
      rotate_left
      · exact absurd ((nI_ltI (by omega) (by omega)).mpr (by omega)) c6
      refine q_iload_n hK 1 dX6_readKind_79 rfl rfl ?_
      refine q_if_lt hK 88 dX6_readKind_80 (by decide) (fun c80 => ?_) (fun c80 => ?_)
      · exact absurd c80 (nI_pos (by omega))
      refine q_iload_n hK 1 dX6_readKind_83 rfl rfl ?_
      refine q_iload_n hK 2 dX6_readKind_84 rfl rfl ?_
      refine q_icmp_lt hK 90 dX6_readKind_85 (by decide) (fun c85 => ?_) (fun c85 => ?_)
      rotate_left
      · exact absurd ((nI_ltI (by omega) (by omega)).mpr hj) c85
      refine q_aload_n hK 0 dX6_readKind_90 rfl rfl ?_
      refine q_getf hK dX6_readKind_91 fX6_32 (by decide) rfl rfl ?_
      refine q_iload_n hK 1 dX6_readKind_94 rfl rfl ?_
      refine qb_aald38 hK dX6_readKind_95 (k := j) rfl (by omega) ?_
      refine q_aload_n hK 3 dX6_readKind_96 rfl rfl ?_
      refine q_cSv2 hK dX6_readKind_97 lX6_50 (by decide) (Nat.le_of_ble_eq_true rfl) (b_copy (hK8.R (by omega)) ht (fun f hf => ?_))
      refine q_aload_n hK 0 dX6_readKind_100 rfl rfl ?_
      refine q_getf hK dX6_readKind_101 fX6_35 (by decide) rfl rfl ?_
      refine q_iload_n hK 1 dX6_readKind_104 rfl rfl ?_
      refine qb_iald hK dX6_readKind_105 (n := 39) (k := j) rfl rfl (by show _ < 24; omega) ?_
      have hpj := hpre j (by omega)
      have hh := h Z' V' P' F' f z1 z2 hK8 z3 (fun k hk => by rw [hf k hk, (hH.2 j hj).1 k hk, hpj]) t39
      rw [up_ne (Ne.symm t39), (hH.2 j hj).2, hpj]
      exact q_iret hR dX6_readKind_106 rfl ⟨_, rfl, hh⟩
    | succ m ih =>
      intro i v5 v6 Z' V' P' F' π ρ hi z1 z2 hK8 z3 hH hpre
      refine q_iload hK dX6_readKind_3 rfl ?_
      refine q_iload_n hK 1 dX6_readKind_5 rfl rfl ?_
      refine q_icmp_gt hK 79 dX6_readKind_6 (by decide) (fun c6 => ?_) (fun c6 => ?_)
      · have := (nI_ltI (by omega) (by omega)).mp c6
        omega
      refine q_iload hK dX6_readKind_9 rfl ?_
      refine q_iload_n hK 2 dX6_readKind_11 rfl rfl ?_
      refine q_icmp_ge hK 79 dX6_readKind_12 (by decide) (fun c12 => ?_) (fun c12 => ?_)
      · have := (nI_leI (by omega) (by omega)).mp c12
        omega
      refine q_iload hK dX6_readKind_15 rfl ?_
      refine q_istore hK dX6_readKind_17 (by decide) ?_
      refine q_iload hK dX6_readKind_19 rfl ?_
      refine q_iconst (v := nI 1) hK dX6_readKind_21 (by decide) ?_
      refine q_iadd hK dX6_readKind_22 ?_
      refine q_istore hK dX6_readKind_23 (by decide) ?_
      rw [show nI i + nI 1 = nI (i + 1) from nI_add i 1]
      have inner : ∀ m2 o l Z' V' F', o + m2 = s.1 → i ≤ l → l < o → (∀ q, i ≤ q → q < o → π l ≤ π q) → eqo [2, 3] Z Z' → frS F F' → kH P' F' s π ρ → K (BB X Z' V' P' F' L g) 25 [some (rf X 33), some (.int (nI j)), some (.int (nI s.1)), some (rf X t), some (.int (nI i)), some (.int (nI l)), some (.int (nI o))] [] := by
        intro m2
        induction m2 with
        | zero =>
          intro o l Z' V' F' ho hl hlo hmin z1 z3 hH
          refine q_iload hK dX6_readKind_25 rfl ?_
          refine q_iload_n hK 2 dX6_readKind_27 rfl rfl ?_
          refine q_icmp_ge hK 65 dX6_readKind_28 (by decide) (fun c28 => ?_) (fun c28 => ?_)
          rotate_left
          · exact absurd ((nI_leI (by omega) (by omega)).mpr (by omega)) c28
          refine q_aload_n hK 0 dX6_readKind_65 rfl rfl ?_
          refine q_iload hK dX6_readKind_66 rfl ?_
          refine q_iload hK dX6_readKind_68 rfl ?_
          refine q_cVv2 hK dX6_readKind_70 lX6_107 (by decide) (by decide) rfl (Nat.le_of_ble_eq_true rfl) (b_swapKinds hK8 (by omega) (by omega) ?_)
          have hsw := kH_swap hH hK8 hc (show i < s.1 by omega) (show l < s.1 by omega)
          have hri := hH.1 i (by omega)
          have hge : i ≤ ρ i := by
            rcases Nat.lt_or_ge (ρ i) i with q | q
            · have := hpre (ρ i) q
              have := hri.2.2.2
              omega
            · exact q
          have h1 : π l ≤ i := by
            have := hmin (ρ i) hge (by have := hri.2.2.1; omega)
            rw [hri.2.2.2] at this
            exact this
          have h2 : i ≤ π l := by
            rcases Nat.lt_or_ge (π l) i with q | q
            · have e1 := hpre (π l) q
              have e2 := (hH.1 (π l) (by omega)).2.1
              have e3 := (hH.1 l (by omega)).2.1
              rw [e1] at e2
              omega
            · exact q
          refine q_inc1 hK dX6_readKind_73 rfl (by decide) ?_
          refine q_goto hK 3 dX6_readKind_76 (by decide) ?_
          refine ih (i + 1) _ _ Z' V' _ _ _ _ (by omega) z1 (z2.up (by decide)) (hK8.sw (by omega) (by omega)) (z3.up (by unfold scS; omega)) hsw (fun q hq => ?_)
          show π (swN i l q) = q
          unfold swN
          by_cases e1 : q = i
          · subst e1
            by_cases e2 : q = l
            · rw [if_pos e2]
              rw [← e2] at h1 h2
              omega
            · rw [if_neg e2, if_pos rfl]
              omega
          · rw [if_neg (by omega), if_neg e1]
            exact hpre q (by omega)
        | succ m2 ih2 =>
          intro o l Z' V' F' ho hl hlo hmin z1 z3 hH
          have hor := hK8.1 o (by omega)
          have hlr := hK8.1 l (by omega)
          have po := hH.1 o (by omega)
          have pl := hH.1 l (by omega)
          have hne : π o ≠ π l := fun z => by rw [z] at po; omega
          refine q_iload hK dX6_readKind_25 rfl ?_
          refine q_iload_n hK 2 dX6_readKind_27 rfl rfl ?_
          refine q_icmp_ge hK 65 dX6_readKind_28 (by decide) (fun c28 => ?_) (fun c28 => ?_)
          · have := (nI_leI (by omega) (by omega)).mp c28
            omega
          refine q_aload_n hK 0 dX6_readKind_31 rfl rfl ?_
          refine q_getf hK dX6_readKind_32 fX6_9 (by decide) rfl rfl ?_
          refine q_aload_n hK 0 dX6_readKind_35 rfl rfl ?_
          refine q_getf hK dX6_readKind_36 fX6_32 (by decide) rfl rfl ?_
          refine q_iload hK dX6_readKind_39 rfl ?_
          refine qb_aald38 hK dX6_readKind_41 (k := o) rfl (by omega) ?_
          refine q_aload_n hK 0 dX6_readKind_42 rfl rfl ?_
          refine q_getf hK dX6_readKind_43 fX6_32 (by decide) rfl rfl ?_
          refine q_iload hK dX6_readKind_46 rfl ?_
          refine qb_aald38 hK dX6_readKind_48 (k := l) rfl (by omega) ?_
          refine q_cVi2 hK dX6_readKind_49 lX6_103 (by decide) (by decide) rfl (Nat.le_of_ble_eq_true rfl) (b_compare (hK8.R (by omega)) (hK8.R (by omega)) (hH.2 o (by omega)).1 (hH.2 l (by omega)).1 (fun k hk => by have := hb (π o) po.1 k hk; have := hb (π l) pl.1 k hk; omega) (fun Z2 V2 F2 y1 y2 => ?_))
          have hH2 : kH P' F2 s π ρ := ⟨hH.1, fun q hq => by
            have hqr := hK8.1 q (by omega)
            rw [y2 (P' 38 q) (by simp; omega), y2 39 (by decide)]
            exact hH.2 q hq⟩
          have hlt := srt_lt hs po.1 pl.1
          have sr := sgn_range (fun k => s.2.1 (π o) k - s.2.1 (π l) k)
          refine q_if_ge hK 59 dX6_readKind_52 (by decide) (fun c52 => ?_) (fun c52 => ?_)
          · have q := (jI_0le (by omega) (by omega)).mp c52
            refine q_inc1 hK dX6_readKind_59 rfl (by decide) ?_
            refine q_goto hK 25 dX6_readKind_62 (by decide) ?_
            refine ih2 (o + 1) l Z2 V2 F2 (by omega) hl (by omega) (fun w w1 w2 => ?_) (z1.tr y1) (z3.tr (frS_e y2)) hH2
            by_cases e : w = o
            · rw [e]
              have := mt hlt.mpr (by omega)
              omega
            · exact hmin w w1 (by omega)
          · have q := mt (jI_0le (b := sgn (fun k => s.2.1 (π o) k - s.2.1 (π l) k)) (by omega) (by omega)).mpr c52
            refine q_iload hK dX6_readKind_55 rfl ?_
            refine q_istore hK dX6_readKind_57 (by decide) ?_
            refine q_inc1 hK dX6_readKind_59 rfl (by decide) ?_
            refine q_goto hK 25 dX6_readKind_62 (by decide) ?_
            refine ih2 (o + 1) o Z2 V2 F2 (by omega) (by omega) (by omega) (fun w w1 w2 => ?_) (z1.tr y1) (z3.tr (frS_e y2)) hH2
            have := hlt.mp (by omega)
            by_cases e : w = o
            · rw [e]; exact Nat.le_refl _
            · have := hmin w w1 (by omega)
              omega
      exact inner (s.1 - (i + 1)) (i + 1) i Z' V' F' (by omega) (Nat.le_refl _) (by omega) (fun q q1 q2 => by rw [show q = i by omega]; exact Nat.le_refl _) z1 z3 hH
  exact loop (j + 1) 0 none none Z V P F π ρ (by omega) eqo.rf eqo.rf hK8 frS.rf hH (fun q hq => absurd hq (Nat.not_lt_zero q))
theorem b_isMoment {n : Nat} {nt : Nat → Vec} {Q : Int32 → Mem → Prop} (hS : scI Z P F n nt) (hK8 : kPo P) (h : ∀ F', frS F F' → Q (b2i (decide ((kS n nt 1 n).1 ≤ 2))) (BB X Z V P F' L g)) : CallI X 4 yX6_isMoment [rf X 33] (BB X Z V P F L g) Q := by
  have hn := hS.2.2.2.1
  have hle := kS_le n nt 1 n
  refine CallM_intro (own := RX6) [some (rf X 33)] wX6_isMoment (by decide) (by decide) rfl (Nat.le_of_ble_eq_true rfl) rfl (fun K hK hR => ?_)
  refine q_aload_n hK 0 dX6_isMoment_0 rfl rfl ?_
  refine q_iconst (v := nI 1) hK dX6_isMoment_1 (by decide) ?_
  refine q_cVi1 hK dX6_isMoment_2 lX6_111 (by decide) (by decide) rfl (Nat.le_of_ble_eq_true rfl) (b_gather hS hK8 (by omega) (fun F' π ρ y1 y2 => ?_))
  have hh := h F' (frS_g y1)
  refine q_iconst (v := nI 2) hK dX6_isMoment_5 (by decide) ?_
  refine q_icmp_gt hK 13 dX6_isMoment_6 (by decide) (fun c6 => ?_) (fun c6 => ?_)
  · have := (nI_ltI (by decide) (by omega)).mp c6
    rw [show decide ((kS n nt 1 n).1 ≤ 2) = false by simp; omega] at hh
    refine q_iconst (v := nI 0) hK dX6_isMoment_13 (by decide) ?_
    exact q_iret hR dX6_isMoment_14 rfl ⟨_, rfl, hh⟩
  · have := mt (nI_ltI (a := 2) (b := (kS n nt 1 n).1) (by decide) (by omega)).mpr c6
    rw [show decide ((kS n nt 1 n).1 ≤ 2) = true by simp; omega] at hh
    refine q_iconst (v := nI 1) hK dX6_isMoment_9 (by decide) ?_
    refine q_goto hK 14 dX6_isMoment_10 (by decide) ?_
    exact q_iret hR dX6_isMoment_14 rfl ⟨_, rfl, hh⟩
theorem b_isMyth {n : Nat} {nt : Nat → Vec} {Q : Int32 → Mem → Prop} (hS : scI Z P F n nt) (hK8 : kPo P) (h : ∀ F', frS F F' → Q (b2i (myth n nt)) (BB X Z V P F' L g)) : CallI X 4 yX6_isMyth [rf X 33] (BB X Z V P F L g) Q := by
  have ho := hS.1
  have hz := hS.2.2.1
  have hn := hS.2.2.2.1
  refine CallM_intro (own := RX6) [some (rf X 33), none] wX6_isMyth (by decide) (by decide) rfl (Nat.le_of_ble_eq_true rfl) rfl (fun K hK hR => ?_)
  refine q_iconst (v := nI 1) hK dX6_isMyth_0 (by decide) ?_
  refine q_istore_n hK 1 dX6_isMyth_1 rfl (by decide) ?_
  have loop : ∀ f k F', k + f = n → 1 ≤ k → mythF n nt (n - 1) 1 = mythF n nt f k → frS F F' → K (BB X Z V P F' L g) 2 [some (rf X 33), some (.int (nI k))] [] := by
    intro f
    induction f with
    | zero =>
      intro k F' hk hk1 hm z3
      have hh := h F' z3
      unfold myth at hh
      rw [hm] at hh
      refine q_iload_n hK 1 dX6_isMyth_2 rfl rfl ?_
      refine q_aload_n hK 0 dX6_isMyth_3 rfl rfl ?_
      refine q_getf hK dX6_isMyth_4 fX6_39 (by decide) rfl rfl ?_
      refine q_getf hK dX6_isMyth_7 fX6_46 (nl_lt ho) (BB_nl ho) rfl ?_
      rw [hz]
      refine q_icmp_ge hK 30 dX6_isMyth_10 (by decide) (fun c10 => ?_) (fun c10 => ?_)
      rotate_left
      · exact absurd ((nI_leI (by omega) (by omega)).mpr (by omega)) c10
      refine q_aload_n hK 0 dX6_isMyth_30 rfl rfl ?_
      refine q_getf hK dX6_isMyth_31 fX6_39 (by decide) rfl rfl ?_
      refine q_getf hK dX6_isMyth_34 fX6_46 (nl_lt ho) (BB_nl ho) rfl ?_
      refine q_iconst (v := nI 2) hK dX6_isMyth_37 (by decide) ?_
      rw [hz]
      refine q_icmp_lt hK 45 dX6_isMyth_38 (by decide) (fun c38 => ?_) (fun c38 => ?_)
      · have := (nI_ltI (by omega) (by decide)).mp c38
        rw [show (decide (2 ≤ n) && mythF n nt 0 k) = false by simp; omega] at hh
        refine q_iconst (v := nI 0) hK dX6_isMyth_45 (by decide) ?_
        exact q_iret hR dX6_isMyth_46 rfl ⟨_, rfl, hh⟩
      · have := mt (nI_ltI (a := n) (b := 2) (by omega) (by decide)).mpr c38
        rw [show (decide (2 ≤ n) && mythF n nt 0 k) = true by simp [mythF]; omega] at hh
        refine q_iconst (v := nI 1) hK dX6_isMyth_41 (by decide) ?_
        refine q_goto hK 46 dX6_isMyth_42 (by decide) ?_
        exact q_iret hR dX6_isMyth_46 rfl ⟨_, rfl, hh⟩
    | succ f ih =>
      intro k F' hk hk1 hm z3
      have hle := kS_le n nt k n
      unfold mythF at hm
      refine q_iload_n hK 1 dX6_isMyth_2 rfl rfl ?_
      refine q_aload_n hK 0 dX6_isMyth_3 rfl rfl ?_
      refine q_getf hK dX6_isMyth_4 fX6_39 (by decide) rfl rfl ?_
      refine q_getf hK dX6_isMyth_7 fX6_46 (nl_lt ho) (BB_nl ho) rfl ?_
      rw [hz]
      refine q_icmp_ge hK 30 dX6_isMyth_10 (by decide) (fun c10 => ?_) (fun c10 => ?_)
      · have := (nI_leI (by omega) (by omega)).mp c10
        omega
      refine q_aload_n hK 0 dX6_isMyth_13 rfl rfl ?_
      refine q_iload_n hK 1 dX6_isMyth_14 rfl rfl ?_
      refine q_cVi1 hK dX6_isMyth_15 lX6_111 (by decide) (by decide) rfl (Nat.le_of_ble_eq_true rfl) (b_gather (hS.fr eqo.rf z3) hK8 (by omega) (fun F2 π ρ y1 y2 => ?_))
      refine q_iconst (v := nI 2) hK dX6_isMyth_18 (by decide) ?_
      refine q_icmp_eq hK 24 dX6_isMyth_19 (by decide) (fun c19 => ?_) (fun c19 => ?_)
      · have q : (kS n nt k n).1 = 2 := (nI_eq (by omega) (by decide)).mp c19
        rw [if_pos q] at hm
        refine q_inc1 hK dX6_isMyth_24 rfl (by decide) ?_
        refine q_goto hK 2 dX6_isMyth_27 (by decide) ?_
        have hm' : mythF n nt (n - 1) 1 = mythF n nt f (k + 1) := by
          by_cases e : n - 1 = 0
          · omega
          · obtain ⟨n', hn'⟩ : ∃ n', n - 1 = n' + 1 := ⟨n - 2, by omega⟩
            rw [hn'] at hm ⊢
            exact hm
        exact ih (k + 1) F2 (by omega) (by omega) hm' (z3.tr (frS_g y1))
      · have q : ¬ (kS n nt k n).1 = 2 := fun z => c19 (by rw [z])
        rw [if_neg q] at hm
        have hh := h F2 (z3.tr (frS_g y1))
        have hm' : mythF n nt (n - 1) 1 = false := by
          by_cases e : n - 1 = 0
          · omega
          · obtain ⟨n', hn'⟩ : ∃ n', n - 1 = n' + 1 := ⟨n - 2, by omega⟩
            rw [hn'] at hm ⊢
            exact hm
        unfold myth at hh
        rw [hm', Bool.and_false] at hh
        refine q_iconst (v := nI 0) hK dX6_isMyth_22 (by decide) ?_
        exact q_iret hR dX6_isMyth_23 rfl ⟨_, rfl, hh⟩
  exact loop (n - 1) 1 F (by omega) (Nat.le_refl _) rfl frS.rf
theorem b_allReach {s : Ks} {π ρ : Nat → Nat} {hi : Vec} {lim : Nat} {Q : Int32 → Mem → Prop} (hK8 : kPo P) (hH : kH P F s π ρ) (hc : s.1 ≤ 24) (hb : ∀ i, i < s.1 → ∀ k, k < 6 → -100 ≤ s.2.1 i k ∧ s.2.1 i k ≤ 100) (hh : ∀ k, k < 6 → F 37 k = jI (hi k) ∧ -100 ≤ hi k ∧ hi k ≤ 100) (hl : lim ≤ 1) (h : ∀ (r : Bool) Z' V' F', (r = true ↔ ∀ t, t < s.1 → (lim : Int) ≤ sgn (fun k => s.2.1 t k - hi k)) → eqo [2, 3] Z Z' → eqo [26, 28, 29] F F' → Q (b2i r) (BB X Z' V' P F' L g)) : CallI X 4 yX6_allReach [rf X 33, .int (nI s.1), .int (nI lim)] (BB X Z V P F L g) Q := by
  refine CallM_intro (own := RX6) [some (rf X 33), some (.int (nI s.1)), some (.int (nI lim)), none] wX6_allReach (by decide) (by decide) rfl (Nat.le_of_ble_eq_true rfl) rfl (fun K hK hR => ?_)
  refine q_iconst (v := nI 0) hK dX6_allReach_0 (by decide) ?_
  refine q_istore_n hK 3 dX6_allReach_1 rfl (by decide) ?_
  have loop : ∀ m i Z' V' F', i + m = s.1 → (∀ q, q < i → (lim : Int) ≤ sgn (fun k => s.2.1 (π q) k - hi k)) → eqo [2, 3] Z Z' → eqo [26, 28, 29] F F' → K (BB X Z' V' P F' L g) 2 [some (rf X 33), some (.int (nI s.1)), some (.int (nI lim)), some (.int (nI i))] [] := by
    intro m
    induction m with
    | zero =>
      intro i Z' V' F' hi0 ha z1 z2
      refine q_iload_n hK 3 dX6_allReach_2 rfl rfl ?_
      refine q_iload_n hK 1 dX6_allReach_3 rfl rfl ?_
      refine q_icmp_ge hK 36 dX6_allReach_4 (by decide) (fun c4 => ?_) (fun c4 => ?_)
      rotate_left
      · exact absurd ((nI_leI (by omega) (by omega)).mpr (by omega)) c4
      refine q_iconst (v := nI 1) hK dX6_allReach_36 (by decide) ?_
      refine q_iret hR dX6_allReach_37 rfl ⟨_, rfl, h true Z' V' F' ⟨fun _ t ht => ?_, fun _ => rfl⟩ z1 z2⟩
      have := hH.1 t ht
      have h2 := ha (ρ t) (by omega)
      rw [this.2.2.2] at h2
      exact h2
    | succ m ih =>
      intro i Z' V' F' hi0 ha z1 z2
      have hir := hK8.1 i (by omega)
      have pi := hH.1 i (by omega)
      refine q_iload_n hK 3 dX6_allReach_2 rfl rfl ?_
      refine q_iload_n hK 1 dX6_allReach_3 rfl rfl ?_
      refine q_icmp_ge hK 36 dX6_allReach_4 (by decide) (fun c4 => ?_) (fun c4 => ?_)
      · have := (nI_leI (by omega) (by omega)).mp c4
        omega
      refine q_aload_n hK 0 dX6_allReach_7 rfl rfl ?_
      refine q_getf hK dX6_allReach_8 fX6_9 (by decide) rfl rfl ?_
      refine q_aload_n hK 0 dX6_allReach_11 rfl rfl ?_
      refine q_getf hK dX6_allReach_12 fX6_32 (by decide) rfl rfl ?_
      refine q_iload_n hK 3 dX6_allReach_15 rfl rfl ?_
      refine qb_aald38 hK dX6_allReach_16 (k := i) rfl (by omega) ?_
      refine q_aload_n hK 0 dX6_allReach_17 rfl rfl ?_
      refine q_getf hK dX6_allReach_18 fX6_25 (by decide) rfl rfl ?_
      have e1 : ∀ k, k < 6 → F' (P 38 i) k = jI (s.2.1 (π i) k) := fun k hk => by rw [z2 _ (by simp; omega)]; exact (hH.2 i (by omega)).1 k hk
      have e2 : ∀ k, k < 6 → F' 37 k = jI (hi k) := fun k hk => by rw [z2 37 (by decide)]; exact (hh k hk).1
      refine q_cVi2 hK dX6_allReach_21 lX6_103 (by decide) (by decide) rfl (Nat.le_of_ble_eq_true rfl) (b_compare (hK8.R (by omega)) (b := 37) rfl e1 e2 (fun k hk => by have := hb (π i) pi.1 k hk; have := (hh k hk).2; omega) (fun Z2 V2 F2 y1 y2 => ?_))
      have sr := sgn_range (fun k => s.2.1 (π i) k - hi k)
      refine q_iload_n hK 2 dX6_allReach_24 rfl rfl ?_
      rw [jI_nat lim]
      refine q_icmp_ge hK 30 dX6_allReach_25 (by decide) (fun c25 => ?_) (fun c25 => ?_)
      · have q := (jI_le (by omega) (by omega) (by omega) (by omega)).mp c25
        refine q_inc1 hK dX6_allReach_30 rfl (by decide) ?_
        refine q_goto hK 2 dX6_allReach_33 (by decide) ?_
        refine ih (i + 1) Z2 V2 F2 (by omega) (fun w hw => ?_) (z1.tr y1) (z2.tr y2)
        by_cases e : w = i
        · rw [e]; exact q
        · exact ha w (by omega)
      · have q := mt (jI_le (a := (lim : Int)) (b := sgn (fun k => s.2.1 (π i) k - hi k)) (by omega) (by omega) (by omega) (by omega)).mpr c25
        refine q_iconst (v := nI 0) hK dX6_allReach_28 (by decide) ?_
        exact q_iret hR dX6_allReach_29 rfl ⟨_, rfl, h false Z2 V2 F2 ⟨fun z => (by cases z), fun z => absurd (z (π i) pi.1) q⟩ (z1.tr y1) (z2.tr y2)⟩
  exact loop s.1 0 Z V F (by omega) (fun q hq => absurd hq (Nat.not_lt_zero q)) eqo.rf eqo.rf
theorem b_findHighest {s : Ks} {π ρ : Nat → Nat} {Q : Mem → Prop} (hK8 : kPo P) (hH : kH P F s π ρ) (hc : s.1 ≤ 24) (hc1 : 1 ≤ s.1) (hs : srt s.1 s.2.1) (hb : ∀ i, i < s.1 → ∀ k, k < 6 → -100 ≤ s.2.1 i k ∧ s.2.1 i k ≤ 100) (h : ∀ Z' V' F', (∀ k, k < 6 → F' 37 k = jI (s.2.1 (s.1 - 1) k)) → eqo [2, 3] Z Z' → eqo [26, 28, 29, 37] F F' → Q (BB X Z' V' P F' L g)) : CallV X 4 yX6_findHighest [rf X 33, .int (nI s.1)] (BB X Z V P F L g) Q := by
  refine CallM_intro (own := RX6) [some (rf X 33), some (.int (nI s.1)), none] wX6_findHighest (by decide) (by decide) rfl (Nat.le_of_ble_eq_true rfl) rfl (fun K hK hR => ?_)
  refine q_iconst (v := nI 0) hK dX6_findHighest_0 (by decide) ?_
  refine q_istore_n hK 2 dX6_findHighest_1 rfl (by decide) ?_
  have loop : ∀ m i M Z' V' F', i + m = s.1 → (1 ≤ i → M < s.1 ∧ (∀ q, q < i → π q ≤ M) ∧ ∀ k, k < 6 → F' 37 k = jI (s.2.1 M k)) → eqo [2, 3] Z Z' → eqo [26, 28, 29, 37] F F' → K (BB X Z' V' P F' L g) 2 [some (rf X 33), some (.int (nI s.1)), some (.int (nI i))] [] := by
    intro m
    induction m with
    | zero =>
      intro i M Z' V' F' hi0 ha z1 z2
      obtain ⟨a1, a2, a3⟩ := ha (by omega)
      refine q_iload_n hK 2 dX6_findHighest_2 rfl rfl ?_
      refine q_iload_n hK 1 dX6_findHighest_3 rfl rfl ?_
      refine q_icmp_ge hK 50 dX6_findHighest_4 (by decide) (fun c4 => ?_) (fun c4 => ?_)
      rotate_left
      · exact absurd ((nI_leI (by omega) (by omega)).mpr (by omega)) c4
      have := hH.1 (s.1 - 1) (by omega)
      have h2 := a2 (ρ (s.1 - 1)) (by omega)
      rw [this.2.2.2] at h2
      rw [show M = s.1 - 1 by omega] at a3
      exact q_vret hR dX6_findHighest_50 ⟨rfl, h Z' V' F' a3 z1 z2⟩
    | succ m ih =>
      intro i M Z' V' F' hi0 ha z1 z2
      have hir := hK8.1 i (by omega)
      have pi := hH.1 i (by omega)
      have e1 : ∀ {F'}, eqo [26, 28, 29, 37] F F' → ∀ k, k < 6 → F' (P 38 i) k = jI (s.2.1 (π i) k) := fun z2 k hk => by rw [z2 _ (by simp; omega)]; exact (hH.2 i (by omega)).1 k hk
      have take : ∀ Z' V' F', (∀ q, q < i → π q ≤ π i) → eqo [2, 3] Z Z' → eqo [26, 28, 29, 37] F F' → K (BB X Z' V' P F' L g) 31 [some (rf X 33), some (.int (nI s.1)), some (.int (nI i))] [] := by
        intro Z' V' F' hq z1 z2
        refine q_aload_n hK 0 dX6_findHighest_31 rfl rfl ?_
        refine q_getf hK dX6_findHighest_32 fX6_32 (by decide) rfl rfl ?_
        refine q_iload_n hK 2 dX6_findHighest_35 rfl rfl ?_
        refine qb_aald38 hK dX6_findHighest_36 (k := i) rfl (by omega) ?_
        refine q_aload_n hK 0 dX6_findHighest_37 rfl rfl ?_
        refine q_getf hK dX6_findHighest_38 fX6_25 (by decide) rfl rfl ?_
        refine q_cSv2 hK dX6_findHighest_41 lX6_50 (by decide) (Nat.le_of_ble_eq_true rfl) (b_copy (hK8.R (by omega)) (m := 37) rfl (fun f hf => ?_))
        refine q_inc1 hK dX6_findHighest_44 rfl (by decide) ?_
        refine q_goto hK 2 dX6_findHighest_47 (by decide) ?_
        refine ih (i + 1) (π i) Z' V' _ (by omega) (fun _ => ⟨pi.1, fun q hq2 => ?_, fun k hk => ?_⟩) z1 (z2.up (by decide))
        · by_cases e : q = i
          · rw [e]; exact Nat.le_refl _
          · exact hq q (by omega)
        · rw [up_same, hf k hk]
          exact e1 z2 k hk
      refine q_iload_n hK 2 dX6_findHighest_2 rfl rfl ?_
      refine q_iload_n hK 1 dX6_findHighest_3 rfl rfl ?_
      refine q_icmp_ge hK 50 dX6_findHighest_4 (by decide) (fun c4 => ?_) (fun c4 => ?_)
      · have := (nI_leI (by omega) (by omega)).mp c4
        omega
      refine q_iload_n hK 2 dX6_findHighest_7 rfl rfl ?_
      refine q_if_eq hK 31 dX6_findHighest_8 (by decide) (fun c8 => ?_) (fun c8 => ?_)
      · have hi00 : i = 0 := (nI_eq (b := 0) (by omega) (by decide)).mp c8
        exact take Z' V' F' (fun q hq => by omega) z1 z2
      have hi00 : i ≠ 0 := fun z => c8 (by rw [z]; rfl)
      obtain ⟨a1, a2, a3⟩ := ha (by omega)
      refine q_aload_n hK 0 dX6_findHighest_11 rfl rfl ?_
      refine q_getf hK dX6_findHighest_12 fX6_9 (by decide) rfl rfl ?_
      refine q_aload_n hK 0 dX6_findHighest_15 rfl rfl ?_
      refine q_getf hK dX6_findHighest_16 fX6_32 (by decide) rfl rfl ?_
      refine q_iload_n hK 2 dX6_findHighest_19 rfl rfl ?_
      refine qb_aald38 hK dX6_findHighest_20 (k := i) rfl (by omega) ?_
      refine q_aload_n hK 0 dX6_findHighest_21 rfl rfl ?_
      refine q_getf hK dX6_findHighest_22 fX6_25 (by decide) rfl rfl ?_
      refine q_cVi2 hK dX6_findHighest_25 lX6_103 (by decide) (by decide) rfl (Nat.le_of_ble_eq_true rfl) (b_compare (hK8.R (by omega)) (b := 37) rfl (e1 z2) a3 (fun k hk => by have := hb (π i) pi.1 k hk; have := hb M a1 k hk; omega) (fun Z2 V2 F2 y1 y2 => ?_))
      have sr := sgn_range (fun k => s.2.1 (π i) k - s.2.1 M k)
      refine q_if_le hK 44 dX6_findHighest_28 (by decide) (fun c28 => ?_) (fun c28 => ?_)
      · have q := (jI_le0 (by omega) (by omega)).mp c28
        refine q_inc1 hK dX6_findHighest_44 rfl (by decide) ?_
        refine q_goto hK 2 dX6_findHighest_47 (by decide) ?_
        refine ih (i + 1) M Z2 V2 F2 (by omega) (fun _ => ⟨a1, fun w hw => ?_, fun k hk => by rw [y2 37 (by decide)]; exact a3 k hk⟩) (z1.tr y1) (z2.tr (y2.mono (by decide)))
        by_cases e : w = i
        · rw [e]
          rcases Nat.lt_or_ge M (π i) with z | z
          · have := hs M (π i) z pi.1
            omega
          · exact z
        · exact a2 w (by omega)
      · have q := mt (jI_le0 (b := sgn (fun k => s.2.1 (π i) k - s.2.1 M k)) (by omega) (by omega)).mpr c28
        refine take Z2 V2 F2 (fun w hw => ?_) (z1.tr y1) (z2.tr (y2.mono (by decide)))
        have h1 := a2 w hw
        rcases Nat.lt_or_ge M (π i) with z | z
        · omega
        · exfalso
          by_cases e : π i = M
          · rw [e] at q
            have : sgn (fun k => s.2.1 M k - s.2.1 M k) = 0 := sgn_one.mpr (fun k _ => by show s.2.1 M k - s.2.1 M k = 0; omega)
            omega
          · have := (srt_lt hs pi.1 a1).mpr (by omega)
            omega
  exact loop s.1 0 0 Z V F (by omega) (fun z => by omega) eqo.rf eqo.rf
end BT
