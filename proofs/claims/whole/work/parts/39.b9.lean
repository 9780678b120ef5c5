-- ===== commas, in the class
def tPo (P : Nat → Nat → Nat) : Prop := (∀ k, k < 6 → 69 ≤ P 32 k ∧ P 32 k ≤ 74) ∧ ∀ i j, i < 6 → j < 6 → P 32 i = P 32 j → i = j
def swP (p : Nat → Nat) (a b : Nat) : Nat → Nat := va_up (va_up p a (p b)) b (p a)
theorem swP_at (p : Nat → Nat) (a b i : Nat) : swP p a b i = if i = b then p a else if i = a then p b else p i := by
  unfold swP
  by_cases e : i = b
  · rw [e, up_same, if_pos rfl]
  · rw [up_ne e, if_neg e]
    by_cases e2 : i = a
    · rw [e2, up_same, if_pos rfl]
    · rw [up_ne e2, if_neg e2]
theorem swP_tbl {α : Type} (L : Nat → Nat → α) (p : Nat → Nat) (a b r k : Nat) : L (swP p a b r) k = swp (fun r k => L (p r) k) a b r k := by
  rw [swP_at]
  unfold swp
  by_cases e : r = b
  · rw [if_pos e]
    by_cases e2 : r = a
    · rw [if_pos e2, ← e, ← e2]
    · rw [if_neg e2, if_pos e]
  · rw [if_neg e]
    by_cases e2 : r = a
    · rw [if_pos e2, if_pos e2]
    · rw [if_neg e2, if_neg e2, if_neg e]
theorem tPo.sw {P : Nat → Nat → Nat} {a b : Nat} (h : tPo P) (ha : a < 6) (hb : b < 6) : tPo (va_up P 32 (swP (P 32) a b)) := by
  unfold tPo
  rw [up_same]
  refine ⟨fun k hk => ?_, fun i j hi hj he => ?_⟩
  · rw [swP_at]
    split
    · exact h.1 a ha
    · split
      · exact h.1 b hb
      · exact h.1 k hk
  · rw [swP_at, swP_at] at he
    have key := h.2
    by_cases e1 : i = b
    · rw [if_pos e1] at he
      by_cases e2 : j = b
      · omega
      · rw [if_neg e2] at he
        by_cases e3 : j = a
        · rw [if_pos e3] at he
          have := key a b ha hb he
          omega
        · rw [if_neg e3] at he
          have := key a j ha hj he
          omega
    · rw [if_neg e1] at he
      by_cases e4 : i = a
      · rw [if_pos e4] at he
        by_cases e2 : j = b
        · rw [if_pos e2] at he
          have := key b a hb ha he
          omega
        · rw [if_neg e2] at he
          by_cases e3 : j = a
          · omega
          · rw [if_neg e3] at he
            have := key b j hb hj he
            omega
      · rw [if_neg e4] at he
        by_cases e2 : j = b
        · rw [if_pos e2] at he
          have := key i a hi ha he
          omega
        · rw [if_neg e2] at he
          by_cases e3 : j = a
          · rw [if_pos e3] at he
            have := key i b hi hb he
            omega
          · rw [if_neg e3] at he
            exact key i j hi hj he
section BC
variable {X : Cx} {Z : Nat → Int32} {V : Nat → Int64} {P : Nat → Nat → Nat} {F : Nat → Nat → Int32} {L : Nat → Nat → Int64} {g : Mem}
theorem b_raisePivot {d m c : Nat} {Q : Int32 → Mem → Prop} (hP : tPo P) (hd : d < m) (hm : m ≤ 6) (hc : c < 6) (h0 : fpv (fun r k => L (P 32 r) k) c (m - d) d = m → Q 0 (BB X Z V P F L g)) (h1 : ∀ p, fpv (fun r k => L (P 32 r) k) c (m - d) d = p → p < m → Q 1 (BB X Z V (va_up P 32 (swP (P 32) p d)) F L g)) : CallI X 0 yX0_raisePivot [rf X 30, .int (nI d), .int (nI m), .int (nI c)] (BB X Z V P F L g) Q := by
  refine CallM_intro (own := RX0) [some (rf X 30), some (.int (nI d)), some (.int (nI m)), some (.int (nI c)), none, none] wX0_raisePivot (by decide) (by decide) rfl (Nat.le_of_ble_eq_true rfl) rfl (fun K hK hR => ?_)
  refine q_iload_n hK 1 dX0_raisePivot_0 rfl rfl ?_
  refine q_istore hK dX0_raisePivot_1 (by decide) ?_
  generalize hR : fpv (fun r k => L (P 32 r) k) c (m - d) d = res at h0 h1
  have loop : ∀ e p, p + e = m → d ≤ p → fpv (fun r k => L (P 32 r) k) c e p = res → K (BB X Z V P F L g) 3 [some (rf X 30), some (.int (nI d)), some (.int (nI m)), some (.int (nI c)), some (.int (nI p)), none] [] := by
    rename ClR _ _ _ _ => hRet
    intro e
    induction e with
    | zero =>
      intro p hp hdp hf
      have : p = res := hf
      refine q_iload hK dX0_raisePivot_3 rfl ?_
      refine q_iload_n hK 2 dX0_raisePivot_5 rfl rfl ?_
      refine q_icmp_ge hK 61 dX0_raisePivot_6 (by decide) (fun c6 => ?_) (fun c6 => ?_)
      · refine q_iconst (v := nI 0) hK dX0_raisePivot_61 (by decide) ?_
        exact q_iret hRet dX0_raisePivot_62 rfl ⟨_, rfl, h0 (by omega)⟩
      · exact absurd ((nI_leI (by omega) (by omega)).mpr (by omega)) c6
    | succ e ih =>
      intro p hp hdp hf
      have hpr := hP.1 p (by omega)
      have hdr := hP.1 d (by omega)
      unfold fpv at hf
      refine q_iload hK dX0_raisePivot_3 rfl ?_
      refine q_iload_n hK 2 dX0_raisePivot_5 rfl rfl ?_
      refine q_icmp_ge hK 61 dX0_raisePivot_6 (by decide) (fun c6 => ?_) (fun c6 => ?_)
      · have := (nI_leI (by omega) (by omega)).mp c6
        omega
      refine q_aload_n hK 0 dX0_raisePivot_9 rfl rfl ?_
      refine q_getf hK dX0_raisePivot_10 fX0_18 (by decide) rfl rfl ?_
      refine q_iload hK dX0_raisePivot_13 rfl ?_
      refine qb_aald32 hK dX0_raisePivot_15 (k := p) rfl (by omega) ?_
      refine q_iload_n hK 3 dX0_raisePivot_16 rfl rfl ?_
      refine qb_lald hK dX0_raisePivot_17 (k := c) hpr.1 hpr.2 rfl hc ?_
      refine q_lconst (v := 0) hK dX0_raisePivot_18 (by decide) ?_
      refine q_lcmp hK dX0_raisePivot_19 ?_
      refine q_if_eq hK 55 dX0_raisePivot_20 (by decide) (fun c20 => ?_) (fun c20 => ?_)
      · have hz := (lg_cmp_eq _ _).mp c20
        rw [if_pos hz] at hf
        refine q_inc1 hK dX0_raisePivot_55 rfl (by decide) ?_
        refine q_goto hK 3 dX0_raisePivot_58 (by decide) ?_
        exact ih (p + 1) (by omega) (by omega) hf
      · have hz : ¬ L (P 32 p) c = 0 := fun z => c20 ((lg_cmp_eq _ _).mpr z)
        rw [if_neg hz] at hf
        refine q_aload_n hK 0 dX0_raisePivot_23 rfl rfl ?_
        refine q_getf hK dX0_raisePivot_24 fX0_18 (by decide) rfl rfl ?_
        refine q_iload hK dX0_raisePivot_27 rfl ?_
        refine qb_aald32 hK dX0_raisePivot_29 (k := p) rfl (by omega) ?_
        refine q_astore hK dX0_raisePivot_30 (by decide) ?_
        refine q_aload_n hK 0 dX0_raisePivot_32 rfl rfl ?_
        refine q_getf hK dX0_raisePivot_33 fX0_18 (by decide) rfl rfl ?_
        refine q_iload hK dX0_raisePivot_36 rfl ?_
        refine q_aload_n hK 0 dX0_raisePivot_38 rfl rfl ?_
        refine q_getf hK dX0_raisePivot_39 fX0_18 (by decide) rfl rfl ?_
        refine q_iload_n hK 1 dX0_raisePivot_42 rfl rfl ?_
        refine qb_aald32 hK dX0_raisePivot_43 (k := d) rfl (by omega) ?_
        refine qb_aast32 hK dX0_raisePivot_44 (k := p) rfl (by omega) hdr.1 hdr.2 ?_
        refine q_aload_n hK 0 dX0_raisePivot_45 rfl rfl ?_
        refine q_getf hK dX0_raisePivot_46 fX0_18 (by decide) rfl rfl ?_
        refine q_iload_n hK 1 dX0_raisePivot_49 rfl rfl ?_
        refine q_aload hK dX0_raisePivot_50 rfl ?_
        refine qb_aast32 hK dX0_raisePivot_52 (k := d) rfl (by omega) hpr.1 hpr.2 ?_
        rw [up_up, up_same]
        refine q_iconst (v := nI 1) hK dX0_raisePivot_53 (by decide) ?_
        exact q_iret hRet dX0_raisePivot_54 rfl ⟨_, rfl, h1 p hf.symm (by omega)⟩
  exact loop (m - d) d (by omega) (Nat.le_refl _) hR
theorem b_reduceLine {a b c n : Nat} {l : Int64} {Q : Mem → Prop} (ha : 69 ≤ a) (ha2 : a ≤ 74) (hb : 69 ≤ b) (hb2 : b ≤ 74) (hab : a ≠ b) (hl : V 2 = l) (hl0 : l ≠ 0) (hc : c < n) (hn : n ≤ 6) (h : ∀ f, (∀ k, c ≤ k → k < n → f k = (L a k * L b c - L a c * L b k) / l) → Q (BB X Z V P F (va_up L a f) g)) : CallV X 0 yX0_reduceLine [rf X 30, rf X a, rf X b, .int (nI c), .int (nI n)] (BB X Z V P F L g) Q := by
  refine CallM_intro (own := RX0) [some (rf X 30), some (rf X a), some (rf X b), some (.int (nI c)), some (.int (nI n)), none, none, none] wX0_reduceLine (by decide) (by decide) rfl (Nat.le_of_ble_eq_true rfl) rfl (fun K hK hR => ?_)
  refine q_aload_n hK 0 dX0_reduceLine_0 rfl rfl ?_
  refine q_getf hK dX0_reduceLine_1 fX0_25 (by decide) rfl rfl ?_
  refine q_lconst (v := 0) hK dX0_reduceLine_4 (by decide) ?_
  refine q_lcmp hK dX0_reduceLine_5 ?_
  rw [hl]
  refine q_if_ne hK 10 dX0_reduceLine_6 (by decide) (fun c6 => ?_) (fun c6 => ?_)
  rotate_left
  · exact absurd ((lg_cmp_eq _ _).mp c6) hl0
  refine q_aload_n hK 1 dX0_reduceLine_10 rfl rfl ?_
  refine q_iload_n hK 3 dX0_reduceLine_11 rfl rfl ?_
  refine qb_lald hK dX0_reduceLine_12 (k := c) ha ha2 rfl (by omega) ?_
  refine q_lstore hK dX0_reduceLine_13 (by decide) ?_
  refine q_iload_n hK 3 dX0_reduceLine_15 rfl rfl ?_
  refine q_istore hK dX0_reduceLine_16 (by decide) ?_
  have loop : ∀ m i f, i + m = n → c ≤ i → (∀ k, c ≤ k → k < i → f k = (L a k * L b c - L a c * L b k) / l) → (∀ k, i ≤ k → f k = L a k) → K (BB X Z V P F (va_up L a f) g) 18 [some (rf X 30), some (rf X a), some (rf X b), some (.int (nI c)), some (.int (nI n)), some (.long (L a c)), none, some (.int (nI i))] [] := by
    intro m
    induction m with
    | zero =>
      intro i f hi hci hf hg
      refine q_iload hK dX0_reduceLine_18 rfl ?_
      refine q_iload hK dX0_reduceLine_20 rfl ?_
      refine q_icmp_ge hK 56 dX0_reduceLine_22 (by decide) (fun c22 => ?_) (fun c22 => ?_)
      rotate_left
      · exact absurd ((nI_leI (by omega) (by omega)).mpr (by omega)) c22
      exact q_vret hR dX0_reduceLine_56 ⟨rfl, h f (fun k k1 k2 => hf k k1 (by omega))⟩
    | succ m ih =>
      intro i f hi hci hf hg
      refine q_iload hK dX0_reduceLine_18 rfl ?_
      refine q_iload hK dX0_reduceLine_20 rfl ?_
      refine q_icmp_ge hK 56 dX0_reduceLine_22 (by decide) (fun c22 => ?_) (fun c22 => ?_)
      · have := (nI_leI (by omega) (by omega)).mp c22
        omega
      refine q_aload_n hK 1 dX0_reduceLine_25 rfl rfl ?_
      refine q_iload hK dX0_reduceLine_26 rfl ?_
      refine q_aload_n hK 1 dX0_reduceLine_28 rfl rfl ?_
      refine q_iload hK dX0_reduceLine_29 rfl ?_
      refine qb_lald hK dX0_reduceLine_31 (k := i) ha ha2 rfl (by omega) ?_
      refine q_aload_n hK 2 dX0_reduceLine_32 rfl rfl ?_
      refine q_iload_n hK 3 dX0_reduceLine_33 rfl rfl ?_
      refine qb_lald hK dX0_reduceLine_34 (k := c) hb hb2 rfl (by omega) ?_
      refine q_lmul hK dX0_reduceLine_35 ?_
      refine q_lload hK dX0_reduceLine_36 rfl ?_
      refine q_aload_n hK 2 dX0_reduceLine_38 rfl rfl ?_
      refine q_iload hK dX0_reduceLine_39 rfl ?_
      refine qb_lald hK dX0_reduceLine_41 (k := i) hb hb2 rfl (by omega) ?_
      refine q_lmul hK dX0_reduceLine_42 ?_
      refine q_lsub hK dX0_reduceLine_43 ?_
      refine q_aload_n hK 0 dX0_reduceLine_44 rfl rfl ?_
      refine q_getf hK dX0_reduceLine_45 fX0_25 (by decide) rfl rfl ?_
      rw [up_same, up_ne (Ne.symm hab), hl, hg i (Nat.le_refl i)]
      refine q_ldiv hK dX0_reduceLine_48 hl0 ?_
      refine qb_last hK dX0_reduceLine_49 (k := i) ha ha2 rfl (by omega) ?_
      refine q_inc1 hK dX0_reduceLine_50 rfl (by decide) ?_
      refine q_goto hK 18 dX0_reduceLine_53 (by decide) ?_
      rw [up_up, up_same]
      refine ih (i + 1) _ (by omega) (by omega) (fun k k1 k2 => ?_) (fun k hk => ?_)
      · unfold vp_updL
        by_cases e : k = i
        · rw [if_pos e, e]
        · rw [if_neg e]
          exact hf k k1 (by omega)
      · unfold vp_updL
        rw [if_neg (by omega)]
        exact hg k (by omega)
  have := loop (n - c) c (L a) (by omega) (Nat.le_refl _) (fun k k1 k2 => by omega) (fun k _ => rfl)
  rw [up_id] at this
  exact this
theorem b_eliminate {m n : Nat} {T : Tb} {Q : Int32 → Mem → Prop} (hm : m ≤ 6) (hn : n ≤ 6) (hP : tPo P) (hT : ∀ r, r < m → ∀ k, k < n → L (P 32 r) k = T r k) (h : ∀ V' P' L', tPo P' → eqo [32] P P' → V' 2 = (el m n 0 0 1 T).2.1 → Q (nI (el m n 0 0 1 T).1) (BB X Z V' P' F L' g)) : CallI X 1 yX0_eliminate [rf X 30, .int (nI m), .int (nI n)] (BB X Z V P F L g) Q := by
  refine CallM_intro (own := RX0) [some (rf X 30), some (.int (nI m)), some (.int (nI n)), none, none, none, none, none] wX0_eliminate (by decide) (by decide) rfl (Nat.le_of_ble_eq_true rfl) rfl (fun K hK hR => ?_)
  refine q_iconst (v := nI 0) hK dX0_eliminate_0 (by decide) ?_
  refine q_istore_n hK 3 dX0_eliminate_1 rfl (by decide) ?_
  refine q_aload_n hK 0 dX0_eliminate_2 rfl rfl ?_
  refine q_lconst (v := 1) hK dX0_eliminate_3 (by decide) ?_
  refine qb_put30_3 hK dX0_eliminate_4 pX0_25 ?_
  refine q_iconst (v := nI 0) hK dX0_eliminate_7 (by decide) ?_
  refine q_istore hK dX0_eliminate_8 (by decide) ?_
  generalize hRs : el m n 0 0 1 T = Rs at h
  have loop : ∀ f c d l V' P' L' T v5 v6 v7, c + f = n → d ≤ m → V' 2 = l → l ≠ 0 → tPo P' → eqo [32] P P' → (∀ r, d ≤ r → r < m → ∀ k, c ≤ k → k < n → L' (P' 32 r) k = T r k) → el m f c d l T = Rs → K (BB X Z V' P' F L' g) 10 [some (rf X 30), some (.int (nI m)), some (.int (nI n)), some (.int (nI d)), some (.int (nI c)), v5, v6, v7] [] := by
    intro f
    induction f with
    | zero =>
      intro c d l V' P' L' T v5 v6 v7 hc hd hl hl0 hP z2 hT he
      rw [← he] at h
      refine q_iload hK dX0_eliminate_10 rfl ?_
      refine q_iload_n hK 2 dX0_eliminate_12 rfl rfl ?_
      refine q_icmp_ge hK 95 dX0_eliminate_13 (by decide) (fun c13 => ?_) (fun c13 => ?_)
      · refine q_iload_n hK 3 dX0_eliminate_95 rfl rfl ?_
        exact q_iret hR dX0_eliminate_96 rfl ⟨_, rfl, h V' P' L' hP z2 hl⟩
      · exact absurd ((nI_leI (by omega) (by omega)).mpr (by omega)) c13
    | succ f ih =>
      intro c d l V' P' L' T v5 v6 v7 hc hd hl hl0 hP z2 hT he
      unfold el at he
      refine q_iload hK dX0_eliminate_10 rfl ?_
      refine q_iload_n hK 2 dX0_eliminate_12 rfl rfl ?_
      refine q_icmp_ge hK 95 dX0_eliminate_13 (by decide) (fun c13 => ?_) (fun c13 => ?_)
      · have := (nI_leI (by omega) (by omega)).mp c13
        omega
      refine q_iload_n hK 3 dX0_eliminate_16 rfl rfl ?_
      refine q_iload_n hK 1 dX0_eliminate_17 rfl rfl ?_
      refine q_icmp_ge hK 95 dX0_eliminate_18 (by decide) (fun c18 => ?_) (fun c18 => ?_)
      · have hdm := (nI_leI (by omega) (by omega)).mp c18
        rw [if_neg (by omega)] at he
        rw [← he] at h
        refine q_iload_n hK 3 dX0_eliminate_95 rfl rfl ?_
        exact q_iret hR dX0_eliminate_96 rfl ⟨_, rfl, h V' P' L' hP z2 hl⟩
      have hdm : d < m := by have := mt (nI_leI (a := m) (b := d) (by omega) (by omega)).mpr c18; omega
      rw [if_pos hdm] at he
      have hfp : fpv (fun r k => L' (P' 32 r) k) c (m - d) d = fpv T c (m - d) d := fpv_congr (fun j j1 j2 => hT j j1 (by omega) c (Nat.le_refl _) (by omega))
      obtain ⟨q1, q2, q3, q4⟩ := fpv_spec T c (m - d) d
      refine q_aload_n hK 0 dX0_eliminate_21 rfl rfl ?_
      refine q_iload_n hK 3 dX0_eliminate_22 rfl rfl ?_
      refine q_iload_n hK 1 dX0_eliminate_23 rfl rfl ?_
      refine q_iload hK dX0_eliminate_24 rfl ?_
      refine q_cVi3 hK dX0_eliminate_26 lX0_76 (by decide) (by decide) rfl (Nat.le_of_ble_eq_true rfl) (b_raisePivot hP hdm hm (by omega) (fun h0 => ?_) (fun p hp hpm => ?_))
      · rw [hfp] at h0
        rw [if_pos h0] at he
        refine q_if_eq hK 89 dX0_eliminate_29 (by decide) (fun c29 => ?_) (fun c29 => ?_)
        rotate_left
        · exact absurd rfl c29
        refine q_inc1 hK dX0_eliminate_89 rfl (by decide) ?_
        refine q_goto hK 10 dX0_eliminate_92 (by decide) ?_
        exact ih (c + 1) d l V' P' L' T _ _ _ (by omega) hd hl hl0 hP z2 (fun r r1 r2 k k1 k2 => hT r r1 r2 k (by omega) k2) he
      · rw [hfp] at hp
        rw [hp] at he q1 q2 q3 q4
        rw [if_neg (by omega)] at he
        refine q_if_eq hK 89 dX0_eliminate_29 (by decide) (fun c29 => ?_) (fun c29 => ?_)
        · exact absurd c29 (by decide)
        have hits : swp T p d d c = T p c := by rw [swp_d]
        rw [← hits] at he q3
        have hP1 := hP.sw (a := p) (b := d) (by omega) (by omega)
        have hT1 : ∀ r, d ≤ r → r < m → ∀ k, c ≤ k → k < n → L' (va_up P' 32 (swP (P' 32) p d) 32 r) k = swp T p d r k := by
          intro r r1 r2 k k1 k2
          rw [up_same, swP_tbl L' (P' 32) p d r k]
          unfold swp
          split
          · exact hT d (Nat.le_refl _) hdm k k1 k2
          · split
            · exact hT p q1 hpm k k1 k2
            · exact hT r r1 r2 k k1 k2
        have z3 : eqo [32] P (va_up P' 32 (swP (P' 32) p d)) := z2.up (by decide)
        generalize va_up P' 32 (swP (P' 32) p d) = P1 at *
        generalize hTT : swp T p d = T1 at *
        have hdr := hP1.1 d (by omega)
        refine q_aload_n hK 0 dX0_eliminate_32 rfl rfl ?_
        refine q_getf hK dX0_eliminate_33 fX0_18 (by decide) rfl rfl ?_
        refine q_iload_n hK 3 dX0_eliminate_36 rfl rfl ?_
        refine qb_aald32 hK dX0_eliminate_37 (k := d) rfl (by omega) ?_
        refine q_iload hK dX0_eliminate_38 rfl ?_
        refine qb_lald hK dX0_eliminate_40 (k := c) hdr.1 hdr.2 rfl (by omega) ?_
        rw [hT1 d (Nat.le_refl _) hdm c (Nat.le_refl _) (by omega)]
        refine q_lstore hK dX0_eliminate_41 (by decide) ?_
        refine q_iload_n hK 3 dX0_eliminate_43 rfl rfl ?_
        refine q_iconst (v := nI 1) hK dX0_eliminate_44 (by decide) ?_
        refine q_iadd hK dX0_eliminate_45 ?_
        refine q_istore hK dX0_eliminate_46 (by decide) ?_
        rw [show nI d + nI 1 = nI (d + 1) from nI_add d 1]
        have rows : ∀ e i L2, i + e = m → d + 1 ≤ i → (∀ r, d ≤ r → r < m → ∀ k, c ≤ k → k < n → L2 (P1 32 r) k = if r < i then stp T1 d c l m r k else T1 r k) → K (BB X Z V' P1 F L2 g) 48 [some (rf X 30), some (.int (nI m)), some (.int (nI n)), some (.int (nI d)), some (.int (nI c)), some (.long (T1 d c)), none, some (.int (nI i))] [] := by
          intro e
          induction e with
          | zero =>
            intro i L2 hi hdi hL2
            refine q_iload hK dX0_eliminate_48 rfl ?_
            refine q_iload_n hK 1 dX0_eliminate_50 rfl rfl ?_
            refine q_icmp_ge hK 80 dX0_eliminate_51 (by decide) (fun c51 => ?_) (fun c51 => ?_)
            rotate_left
            · exact absurd ((nI_leI (by omega) (by omega)).mpr (by omega)) c51
            refine q_aload_n hK 0 dX0_eliminate_80 rfl rfl ?_
            refine q_lload hK dX0_eliminate_81 rfl ?_
            refine qb_put30_3 hK dX0_eliminate_83 pX0_25 ?_
            refine q_inc1 hK dX0_eliminate_86 rfl (by decide) ?_
            refine q_inc1 hK dX0_eliminate_89 rfl (by decide) ?_
            refine q_goto hK 10 dX0_eliminate_92 (by decide) ?_
            refine ih (c + 1) (d + 1) _ _ P1 L2 _ _ _ _ (by omega) (by omega) (up_same _ _ _) (q3 (by omega)) hP1 z3 (fun r r1 r2 k k1 k2 => ?_) he
            rw [hL2 r (by omega) r2 k (by omega) k2, if_pos (by omega)]
          | succ e ihe =>
            intro i L2 hi hdi hL2
            have hir := hP1.1 i (by omega)
            have hne : P1 32 i ≠ P1 32 d := fun z => by have := hP1.2 i d (by omega) (by omega) z; omega
            refine q_iload hK dX0_eliminate_48 rfl ?_
            refine q_iload_n hK 1 dX0_eliminate_50 rfl rfl ?_
            refine q_icmp_ge hK 80 dX0_eliminate_51 (by decide) (fun c51 => ?_) (fun c51 => ?_)
            · have := (nI_leI (by omega) (by omega)).mp c51
              omega
            refine q_aload_n hK 0 dX0_eliminate_54 rfl rfl ?_
            refine q_aload_n hK 0 dX0_eliminate_55 rfl rfl ?_
            refine q_getf hK dX0_eliminate_56 fX0_18 (by decide) rfl rfl ?_
            refine q_iload hK dX0_eliminate_59 rfl ?_
            refine qb_aald32 hK dX0_eliminate_61 (k := i) rfl (by omega) ?_
            refine q_aload_n hK 0 dX0_eliminate_62 rfl rfl ?_
            refine q_getf hK dX0_eliminate_63 fX0_18 (by decide) rfl rfl ?_
            refine q_iload_n hK 3 dX0_eliminate_66 rfl rfl ?_
            refine qb_aald32 hK dX0_eliminate_67 (k := d) rfl (by omega) ?_
            refine q_iload hK dX0_eliminate_68 rfl ?_
            refine q_iload_n hK 2 dX0_eliminate_70 rfl rfl ?_
            refine q_cVv4 hK dX0_eliminate_71 lX0_80 (by decide) (by decide) rfl (Nat.le_of_ble_eq_true rfl) (b_reduceLine (n := n) (c := c) hir.1 hir.2 hdr.1 hdr.2 hne hl hl0 (by omega) hn (fun f hf => ?_))
            refine q_inc1 hK dX0_eliminate_74 rfl (by decide) ?_
            refine q_goto hK 48 dX0_eliminate_77 (by decide) ?_
            refine ihe (i + 1) _ (by omega) (by omega) (fun r r1 r2 k k1 k2 => ?_)
            have hik := hL2 i (by omega) (by omega) k k1 k2
            have hic := hL2 i (by omega) (by omega) c (Nat.le_refl _) (by omega)
            have hdc := hL2 d (Nat.le_refl _) hdm c (Nat.le_refl _) (by omega)
            have hdk := hL2 d (Nat.le_refl _) hdm k k1 k2
            rw [if_neg (Nat.lt_irrefl i)] at hik hic
            rw [if_pos (by omega), show stp T1 d c l m d c = T1 d c from if_neg (by omega)] at hdc
            rw [if_pos (by omega), show stp T1 d c l m d k = T1 d k from if_neg (by omega)] at hdk
            by_cases er : r = i
            · rw [er, up_same, if_pos (by omega), hf k k1 k2, hik, hic, hdc, hdk, Int64.mul_comm (T1 i c)]
              exact (if_pos ⟨by omega, by omega⟩).symm
            · rw [up_ne (fun z => er (hP1.2 r i (by omega) (by omega) z)), hL2 r r1 r2 k k1 k2]
              by_cases e1 : r < i
              · rw [if_pos e1, if_pos (by omega)]
              · rw [if_neg e1, if_neg (by omega)]
        refine rows (m - (d + 1)) (d + 1) L' (by omega) (Nat.le_refl _) (fun r r1 r2 k k1 k2 => ?_)
        rw [hT1 r r1 r2 k k1 k2]
        by_cases e1 : r < d + 1
        · rw [if_pos e1]
          exact (if_neg (by omega)).symm
        · rw [if_neg e1]
  exact loop n 0 0 1 _ P L T none none none (by omega) (Nat.zero_le _) (up_same _ _ _) (by decide) hP eqo.rf (fun r _ r2 k _ k2 => hT r r2 k k2) hRs
/-- the commas that the class's rows hold -/
def cmI (Z : Nat → Int32) (F : Nat → Nat → Int32) (c : Nat) (R : Nat → Vec) : Prop := Z 4 = nI c ∧ c ≤ 5 ∧ ∀ i, i < c → has6 (F (64 + i)) (R i) 24
theorem bR_cm {i : Nat} (h : i < 5) : bR (64 + i) = true := by
  simp only [bR, Bool.or_eq_true, Bool.and_eq_true, decide_eq_true_eq]
  left
  right
  omega
theorem b_fillTable {c : Nat} {R : Nat → Vec} {Q : Mem → Prop} (hP : tPo P) (hC : cmI Z F c R) (h : ∀ L', (∀ r, r < c → ∀ k, k < 6 → L' (P 32 r) k = tbC R r k) → Q (BB X Z V P F L' g)) : CallV X 0 yX0_fillTable [rf X 30] (BB X Z V P F L g) Q := by
  obtain ⟨hz, hc5, hrow⟩ := hC
  refine CallM_intro (own := RX0) [some (rf X 30), none, none] wX0_fillTable (by decide) (by decide) rfl (Nat.le_of_ble_eq_true rfl) rfl (fun K hK hR => ?_)
  refine q_iconst (v := nI 0) hK dX0_fillTable_0 (by decide) ?_
  refine q_istore_n hK 1 dX0_fillTable_1 rfl (by decide) ?_
  have loop : ∀ m i L v2, i + m = c → (∀ r, r < i → ∀ k, k < 6 → L (P 32 r) k = tbC R r k) → K (BB X Z V P F L g) 2 [some (rf X 30), some (.int (nI i)), v2] [] := by
    intro m
    induction m with
    | zero =>
      intro i L v2 hi hL
      refine q_iload_n hK 1 dX0_fillTable_2 rfl rfl ?_
      refine q_aload_n hK 0 dX0_fillTable_3 rfl rfl ?_
      refine q_getf hK dX0_fillTable_4 fX0_21 (by decide) rfl rfl ?_
      rw [hz]
      refine q_icmp_ge hK 47 dX0_fillTable_7 (by decide) (fun c7 => ?_) (fun c7 => ?_)
      rotate_left
      · exact absurd ((nI_leI (by omega) (by omega)).mpr (by omega)) c7
      exact q_vret hR dX0_fillTable_47 ⟨rfl, h L (fun r hr k hk => hL r (by omega) k hk)⟩
    | succ m ih =>
      intro i L v2 hi hL
      have hir := hP.1 i (by omega)
      refine q_iload_n hK 1 dX0_fillTable_2 rfl rfl ?_
      refine q_aload_n hK 0 dX0_fillTable_3 rfl rfl ?_
      refine q_getf hK dX0_fillTable_4 fX0_21 (by decide) rfl rfl ?_
      rw [hz]
      refine q_icmp_ge hK 47 dX0_fillTable_7 (by decide) (fun c7 => ?_) (fun c7 => ?_)
      · have := (nI_leI (by omega) (by omega)).mp c7
        omega
      refine q_iconst (v := nI 0) hK dX0_fillTable_10 (by decide) ?_
      refine q_istore_n hK 2 dX0_fillTable_11 rfl (by decide) ?_
      have cols : ∀ m2 j L, j + m2 = 6 → (∀ r, r < i → ∀ k, k < 6 → L (P 32 r) k = tbC R r k) → (∀ k, k < j → L (P 32 i) k = tbC R i k) → K (BB X Z V P F L g) 12 [some (rf X 30), some (.int (nI i)), some (.int (nI j))] [] := by
        intro m2
        induction m2 with
        | zero =>
          intro j L hj hL hLi
          refine q_iload_n hK 2 dX0_fillTable_12 rfl rfl ?_
          refine q_bipush (v := nI 6) hK dX0_fillTable_13 (by decide) ?_
          refine q_icmp_ge hK 41 dX0_fillTable_15 (by decide) (fun c15 => ?_) (fun c15 => ?_)
          rotate_left
          · exact absurd ((nI_leI (by decide) (by omega)).mpr (by omega)) c15
          refine q_inc1 hK dX0_fillTable_41 rfl (by decide) ?_
          refine q_goto hK 2 dX0_fillTable_44 (by decide) ?_
          refine ih (i + 1) L _ (by omega) (fun r hr k hk => ?_)
          by_cases e : r = i
          · rw [e]; exact hLi k (by omega)
          · exact hL r (by omega) k hk
        | succ m2 ih2 =>
          intro j L hj hL hLi
          refine q_iload_n hK 2 dX0_fillTable_12 rfl rfl ?_
          refine q_bipush (v := nI 6) hK dX0_fillTable_13 (by decide) ?_
          refine q_icmp_ge hK 41 dX0_fillTable_15 (by decide) (fun c15 => ?_) (fun c15 => ?_)
          · have := (nI_leI (by decide) (by omega)).mp c15
            omega
          refine q_aload_n hK 0 dX0_fillTable_18 rfl rfl ?_
          refine q_getf hK dX0_fillTable_19 fX0_18 (by decide) rfl rfl ?_
          refine q_iload_n hK 1 dX0_fillTable_22 rfl rfl ?_
          refine qb_aald32 hK dX0_fillTable_23 (k := i) rfl (by omega) ?_
          refine q_iload_n hK 2 dX0_fillTable_24 rfl rfl ?_
          refine q_aload_n hK 0 dX0_fillTable_25 rfl rfl ?_
          refine q_getf hK dX0_fillTable_26 fX0_13 (by decide) rfl rfl ?_
          refine q_iload_n hK 1 dX0_fillTable_29 rfl rfl ?_
          refine qb_aald31 hK dX0_fillTable_30 (k := i) rfl (by omega) ?_
          refine q_iload_n hK 2 dX0_fillTable_31 rfl rfl ?_
          refine qb_ialdR hK dX0_fillTable_32 (bR_cm (by omega)) rfl (by omega) ?_
          rw [(hrow i (by omega) j (by omega)).1]
          refine q_i2l hK dX0_fillTable_33 ?_
          refine qb_last hK dX0_fillTable_34 (k := j) hir.1 hir.2 rfl (by omega) ?_
          refine q_inc1 hK dX0_fillTable_35 rfl (by decide) ?_
          refine q_goto hK 12 dX0_fillTable_38 (by decide) ?_
          refine ih2 (j + 1) _ (by omega) (fun r hr k hk => ?_) (fun k hk => ?_)
          · rw [up_ne (fun z => by have := hP.2 r i (by omega) (by omega) z; omega)]
            exact hL r hr k hk
          · rw [up_same]
            unfold vp_updL
            by_cases e : k = j
            · rw [if_pos e, e]; rfl
            · rw [if_neg e]
              exact hLi k (by omega)
      exact cols 6 0 L rfl hL (fun k hk => absurd hk (Nat.not_lt_zero k))
  exact loop c 0 L none (by omega) (fun r hr => absurd hr (Nat.not_lt_zero r))
theorem b_findRank {c : Nat} {R : Nat → Vec} {Q : Int32 → Mem → Prop} (hP : tPo P) (hC : cmI Z F c R) (h : ∀ V' P' L', tPo P' → eqo [32] P P' → Q (nI (rkv c R)) (BB X Z V' P' F L' g)) : CallI X 2 yX0_findRank [rf X 30] (BB X Z V P F L g) Q := by
  refine CallM_intro (own := RX0) [some (rf X 30)] wX0_findRank (by decide) (by decide) rfl (Nat.le_of_ble_eq_true rfl) rfl (fun K hK hR => ?_)
  refine q_aload_n hK 0 dX0_findRank_0 rfl rfl ?_
  refine q_cVv0 hK dX0_findRank_1 lX0_35 (by decide) (by decide) rfl (Nat.le_of_ble_eq_true rfl) (b_fillTable hP hC (fun L' hL' => ?_))
  refine q_aload_n hK 0 dX0_findRank_4 rfl rfl ?_
  refine q_aload_n hK 0 dX0_findRank_5 rfl rfl ?_
  refine q_getf hK dX0_findRank_6 fX0_21 (by decide) rfl rfl ?_
  refine q_bipush (v := nI 6) hK dX0_findRank_9 (by decide) ?_
  rw [hC.1]
  have := hC.2.1
  refine q_cVi2 hK dX0_findRank_11 lX0_38 (by decide) (by decide) rfl (Nat.le_of_ble_eq_true rfl) (b_eliminate (n := 6) (by omega) (by decide) hP hL' (fun V2 P2 L2 y1 y2 y3 => ?_))
  exact q_iret hR dX0_findRank_14 rfl ⟨_, rfl, h V2 P2 L2 y1 y2⟩
theorem b_spans {c n : Nat} {R : Nat → Vec} {e : Vec} {Q : Int32 → Mem → Prop} (hP : tPo P) (hC : cmI Z F c R) (hn : bR n = true) (he : has6 (F n) e 24) (h : ∀ V' P' L', tPo P' → eqo [32] P P' → Q (b2i (decide (rkv (c + 1) (fun i => if i = c then e else R i) = rkv c R))) (BB X Z V' P' F L' g)) : CallI X 3 yX0_spans [rf X 30, rf X n] (BB X Z V P F L g) Q := by
  have hc5 := hC.2.1
  refine CallM_intro (own := RX0) [some (rf X 30), some (rf X n), none, none] wX0_spans (by decide) (by decide) rfl (Nat.le_of_ble_eq_true rfl) rfl (fun K hK hR => ?_)
  refine q_aload_n hK 0 dX0_spans_0 rfl rfl ?_
  refine q_cVi0 hK dX0_spans_1 lX0_42 (by decide) (by decide) rfl (Nat.le_of_ble_eq_true rfl) (b_findRank hP hC (fun V1 P1 L1 x1 x2 => ?_))
  have hrk := rkv_le c R
  generalize rkv c R = rk at *
  refine q_istore_n hK 2 dX0_spans_4 rfl (by decide) ?_
  refine q_aload_n hK 0 dX0_spans_5 rfl rfl ?_
  refine q_cVv0 hK dX0_spans_6 lX0_35 (by decide) (by decide) rfl (Nat.le_of_ble_eq_true rfl) (b_fillTable x1 hC (fun L2 hL2 => ?_))
  refine q_iconst (v := nI 0) hK dX0_spans_9 (by decide) ?_
  refine q_istore_n hK 3 dX0_spans_10 rfl (by decide) ?_
  have hir := x1.1 c (by omega)
  have loop : ∀ m i L, i + m = 6 → (∀ r, r < c → ∀ k, k < 6 → L (P1 32 r) k = tbC R r k) → (∀ k, k < i → L (P1 32 c) k = (jI (e k)).toInt64) → K (BB X Z V1 P1 F L g) 11 [some (rf X 30), some (rf X n), some (.int (nI rk)), some (.int (nI i))] [] := by
    intro m
    induction m with
    | zero =>
      intro i L hi hL hLc
      refine q_iload_n hK 3 dX0_spans_11 rfl rfl ?_
      refine q_bipush (v := nI 6) hK dX0_spans_12 (by decide) ?_
      refine q_icmp_ge hK 38 dX0_spans_14 (by decide) (fun c14 => ?_) (fun c14 => ?_)
      rotate_left
      · exact absurd ((nI_leI (by decide) (by omega)).mpr (by omega)) c14
      refine q_aload_n hK 0 dX0_spans_38 rfl rfl ?_
      refine q_aload_n hK 0 dX0_spans_39 rfl rfl ?_
      refine q_getf hK dX0_spans_40 fX0_21 (by decide) rfl rfl ?_
      refine q_iconst (v := nI 1) hK dX0_spans_43 (by decide) ?_
      refine q_iadd hK dX0_spans_44 ?_
      refine q_bipush (v := nI 6) hK dX0_spans_45 (by decide) ?_
      rw [hC.1, show nI c + nI 1 = nI (c + 1) from nI_add c 1]
      have hT : ∀ r, r < c + 1 → ∀ k, k < 6 → L (P1 32 r) k = tbC (fun i => if i = c then e else R i) r k := fun r hr k hk => by
        unfold tbC
        dsimp only
        by_cases q : r = c
        · rw [if_pos q, q]
          exact hLc k (by omega)
        · rw [if_neg q]
          exact hL r (by omega) k hk
      refine q_cVi2 hK dX0_spans_47 lX0_38 (by decide) (by decide) rfl (Nat.le_of_ble_eq_true rfl) (b_eliminate (n := 6) (by omega) (by decide) x1 hT (fun V2 P2 L3 y1 y2 y3 => ?_))
      have hh := h V2 P2 L3 y1 (x2.tr y2)
      have hrk2 := rkv_le (c + 1) (fun i => if i = c then e else R i)
      show K (BB X Z V2 P2 F L3 g) (47 + 3) _ (.int (nI (rkv (c + 1) (fun i => if i = c then e else R i))) :: [])
      generalize rkv (c + 1) (fun i => if i = c then e else R i) = n2 at *
      refine q_iload_n hK 2 dX0_spans_50 rfl rfl ?_
      refine q_icmp_ne hK 58 dX0_spans_51 (by decide) (fun c51 => ?_) (fun c51 => ?_)
      · have hne : ¬ n2 = rk := fun z => c51 (by rw [z])
        rw [show decide (n2 = rk) = false by simp [hne]] at hh
        refine q_iconst (v := nI 0) hK dX0_spans_58 (by decide) ?_
        exact q_iret hR dX0_spans_59 rfl ⟨_, rfl, hh⟩
      · have heq : n2 = rk := (nI_eq (by omega) (by omega)).mp c51
        rw [show decide (n2 = rk) = true by simp [heq]] at hh
        refine q_iconst (v := nI 1) hK dX0_spans_54 (by decide) ?_
        refine q_goto hK 59 dX0_spans_55 (by decide) ?_
        exact q_iret hR dX0_spans_59 rfl ⟨_, rfl, hh⟩
    | succ m ih =>
      intro i L hi hL hLc
      refine q_iload_n hK 3 dX0_spans_11 rfl rfl ?_
      refine q_bipush (v := nI 6) hK dX0_spans_12 (by decide) ?_
      refine q_icmp_ge hK 38 dX0_spans_14 (by decide) (fun c14 => ?_) (fun c14 => ?_)
      · have := (nI_leI (by decide) (by omega)).mp c14
        omega
      refine q_aload_n hK 0 dX0_spans_17 rfl rfl ?_
      refine q_getf hK dX0_spans_18 fX0_18 (by decide) rfl rfl ?_
      refine q_aload_n hK 0 dX0_spans_21 rfl rfl ?_
      refine q_getf hK dX0_spans_22 fX0_21 (by decide) rfl rfl ?_
      rw [hC.1]
      refine qb_aald32 hK dX0_spans_25 (k := c) rfl (by omega) ?_
      refine q_iload_n hK 3 dX0_spans_26 rfl rfl ?_
      refine q_aload_n hK 1 dX0_spans_27 rfl rfl ?_
      refine q_iload_n hK 3 dX0_spans_28 rfl rfl ?_
      refine qb_ialdR hK dX0_spans_29 hn rfl (by omega) ?_
      rw [(he i (by omega)).1]
      refine q_i2l hK dX0_spans_30 ?_
      refine qb_last hK dX0_spans_31 (k := i) hir.1 hir.2 rfl (by omega) ?_
      refine q_inc1 hK dX0_spans_32 rfl (by decide) ?_
      refine q_goto hK 11 dX0_spans_35 (by decide) ?_
      refine ih (i + 1) _ (by omega) (fun r hr k hk => ?_) (fun k hk => ?_)
      · rw [up_ne (fun z => by have := x1.2 r c (by omega) (by omega) z; omega)]
        exact hL r hr k hk
      · rw [up_same]
        unfold vp_updL
        by_cases q : k = i
        · rw [if_pos q, q]
        · rw [if_neg q]
          exact hLc k (by omega)
  exact loop 6 0 L2 rfl hL2 (fun k hk => absurd hk (Nat.not_lt_zero k))
end BC
