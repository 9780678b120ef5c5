-- ===== lists of notes
def isNL (n : Nat) : Prop := n = 40 ∨ n = 42
def nlZ (n : Nat) : Nat := if n = 40 then 5 else 6
def nlO (n : Nat) : Nat := if n = 40 then 99 else 123
theorem nl_lt {n : Nat} (h : isNL n) : n < 147 := by rcases h with rfl | rfl <;> decide
/-- the rows that a list's places hold -/
def nlP (P : Nat → Nat → Nat) (n : Nat) : Prop := (∀ k, k < 24 → nlO n ≤ P (n + 1) k ∧ P (n + 1) k < nlO n + 24) ∧ ∀ i j, i < 24 → j < 24 → P (n + 1) i = P (n + 1) j → i = j
theorem bR_note {m : Nat} (h1 : 99 ≤ m) (h2 : m ≤ 146) : bR m = true := by
  simp only [bR, Bool.or_eq_true, Bool.and_eq_true, decide_eq_true_eq]
  right
  omega
theorem nlO_rng (n : Nat) : 99 ≤ nlO n ∧ nlO n + 24 ≤ 147 := by
  unfold nlO
  split <;> decide
theorem nlP.rng {P : Nat → Nat → Nat} {n k : Nat} (h : nlP P n) (hk : k < 24) : 99 ≤ P (n + 1) k ∧ P (n + 1) k ≤ 146 := by
  have h1 := h.1 k hk
  have h2 := nlO_rng n
  omega
theorem nlP.R {P : Nat → Nat → Nat} {n k : Nat} (h : nlP P n) (hk : k < 24) : bR (P (n + 1) k) = true := bR_note (h.rng hk).1 (h.rng hk).2
section BB1
variable {X : Cx} {own : String} {cc : ByteArray} {nL d : Nat} {K : KT} {Z : Nat → Int32} {V : Nat → Int64} {P : Nat → Nat → Nat} {F : Nat → Nat → Int32} {L : Nat → Nat → Int64} {g : Mem} {pc : Nat} {vs : Lv} {st : List Value}
theorem BB_nl {n : Nat} (h : isNL n) : BB X Z V P F L g n = .inr (3, [rf X (n + 1), .int (Z (nlZ n))]) := by rcases h with rfl | rfl <;> rfl
theorem qb_putLc {n : Nat} (ho : isNL n) (hK : Cl X own cc nL d K) {v : Int32} {idx : Nat} (hd : decode cc pc = .ok (.putfield idx, 3)) (hF : FP own idx 3 1 .int) (h : K (BB X (va_up Z (nlZ n) v) V P F L g) (pc + 3) vs st) : K (BB X Z V P F L g) pc vs (.int v :: rf X n :: st) := by
  rcases ho with rfl | rfl
  · exact qb_put40_1 hK hd hF h
  · exact qb_put42_1 hK hd hF h
theorem qb_aaldN (hK : Cl X own cc nL d K) {n k : Nat} {i : Int32} (hd : decode cc pc = .ok (.aaload, 1)) (ho : isNL n) (hi : i = nI k) (hk : k < 24) (h : K (BB X Z V P F L g) (pc + 1) vs (rf X (P (n + 1) k) :: st)) : K (BB X Z V P F L g) pc vs (.int i :: rf X (n + 1) :: st) := by
  rcases ho with rfl | rfl
  · exact qb_aald41 hK hd hi hk h
  · exact qb_aald43 hK hd hi hk h
theorem qb_aastN (hK : Cl X own cc nL d K) {n k q : Nat} {i : Int32} (hd : decode cc pc = .ok (.aastore, 1)) (ho : isNL n) (hi : i = nI k) (hk : k < 24) (hq : bR q = true) (h : K (BB X Z V (va_up P (n + 1) (va_up (P (n + 1)) k q)) F L g) (pc + 1) vs st) : K (BB X Z V P F L g) pc vs (rf X q :: .int i :: rf X (n + 1) :: st) := by
  rcases ho with rfl | rfl
  · exact qb_aast41 hK hd hi hk hq h
  · exact qb_aast43 hK hd hi hk hq h
end BB1
section BB2
variable {X : Cx} {Z : Nat → Int32} {V : Nat → Int64} {P : Nat → Nat → Nat} {F : Nat → Nat → Int32} {L : Nat → Nat → Int64} {g : Mem}
theorem b_isFull {n c : Nat} {Q : Int32 → Mem → Prop} (ho : isNL n) (hc : Z (nlZ n) = nI c) (hc2 : c ≤ 24) (h : Q (b2i (decide (c = 24))) (BB X Z V P F L g)) : CallI X 0 yX4_isFull [rf X n] (BB X Z V P F L g) Q := by
  refine CallM_intro (own := RX4) [some (rf X n)] wX4_isFull (by decide) (by decide) rfl (Nat.le_of_ble_eq_true rfl) rfl (fun K hK hR => ?_)
  refine q_aload_n hK 0 dX4_isFull_0 rfl rfl ?_
  refine q_getf hK dX4_isFull_1 fX4_16 (nl_lt ho) (BB_nl ho) rfl ?_
  refine q_bipush (v := nI 24) hK dX4_isFull_4 (by decide) ?_
  rw [hc]
  refine q_icmp_lt hK 13 dX4_isFull_6 (by decide) (fun c6 => ?_) (fun c6 => ?_)
  · have := (nI_ltI (by omega) (by decide)).mp c6
    rw [show decide (c = 24) = false by simp; omega] at h
    refine q_iconst (v := nI 0) hK dX4_isFull_13 (by decide) ?_
    exact q_iret hR dX4_isFull_14 rfl ⟨_, rfl, h⟩
  · have := mt (nI_ltI (a := c) (b := 24) (by omega) (by decide)).mpr c6
    rw [show decide (c = 24) = true by simp; omega] at h
    refine q_iconst (v := nI 1) hK dX4_isFull_9 (by decide) ?_
    refine q_goto hK 14 dX4_isFull_10 (by decide) ?_
    exact q_iret hR dX4_isFull_14 rfl ⟨_, rfl, h⟩
theorem b_restart {n : Nat} {Q : Mem → Prop} (ho : isNL n) (hP : nlP P n) (h : ∀ f, (∀ k, k < 6 → f k = 0) → Q (BB X (va_up Z (nlZ n) (nI 1)) V P (va_up F (P (n + 1) 0) f) L g)) : CallV X 1 yX4_restart [rf X n] (BB X Z V P F L g) Q := by
  refine CallM_intro (own := RX4) [some (rf X n)] wX4_restart (by decide) (by decide) rfl (Nat.le_of_ble_eq_true rfl) rfl (fun K hK hR => ?_)
  refine q_aload_n hK 0 dX4_restart_0 rfl rfl ?_
  refine q_getf hK dX4_restart_1 fX4_13 (nl_lt ho) (BB_nl ho) rfl ?_
  refine q_iconst (v := nI 0) hK dX4_restart_4 (by decide) ?_
  refine qb_aaldN hK dX4_restart_5 ho (k := 0) rfl (by decide) ?_
  refine q_cSv1 hK dX4_restart_6 lX4_20 (by decide) (Nat.le_of_ble_eq_true rfl) (b_makeOne (hP.R (by decide)) (fun f hf => ?_))
  refine q_aload_n hK 0 dX4_restart_9 rfl rfl ?_
  refine q_iconst (v := nI 1) hK dX4_restart_10 (by decide) ?_
  refine qb_putLc ho hK dX4_restart_11 pX4_16 ?_
  exact q_vret hR dX4_restart_14 ⟨rfl, h f hf⟩
theorem b_has {n c r : Nat} {Q : Int32 → Mem → Prop} (ho : isNL n) (hP : nlP P n) (hr : bR r = true) (hc : Z (nlZ n) = nI c) (hc2 : c ≤ 24) (h : Q (b2i (anyN (fun i => sameN (F (P (n + 1) i)) (F r) 6) c)) (BB X Z V P F L g)) : CallI X 1 yX4_has [rf X n, rf X r] (BB X Z V P F L g) Q := by
  refine CallM_intro (own := RX4) [some (rf X n), some (rf X r), none] wX4_has (by decide) (by decide) rfl (Nat.le_of_ble_eq_true rfl) rfl (fun K hK hR => ?_)
  refine q_iconst (v := nI 0) hK dX4_has_0 (by decide) ?_
  refine q_istore_n hK 2 dX4_has_1 rfl (by decide) ?_
  have loop : ∀ m i, i + m = c → anyN (fun i => sameN (F (P (n + 1) i)) (F r) 6) i = false → K (BB X Z V P F L g) 2 [some (rf X n), some (rf X r), some (.int (nI i))] [] := by
    intro m
    induction m with
    | zero =>
      intro i hi hf
      have : i = c := by omega
      subst this
      rw [hf] at h
      refine q_iload_n hK 2 dX4_has_2 rfl rfl ?_
      refine q_aload_n hK 0 dX4_has_3 rfl rfl ?_
      refine q_getf hK dX4_has_4 fX4_16 (nl_lt ho) (BB_nl ho) rfl ?_
      rw [hc]
      refine q_icmp_ge hK 31 dX4_has_7 (by decide) (fun c7 => ?_) (fun c7 => ?_)
      · refine q_iconst (v := nI 0) hK dX4_has_31 (by decide) ?_
        exact q_iret hR dX4_has_32 rfl ⟨_, rfl, h⟩
      · exact absurd ((nI_leI (by omega) (by omega)).mpr (Nat.le_refl _)) c7
    | succ m ih =>
      intro i hi hf
      refine q_iload_n hK 2 dX4_has_2 rfl rfl ?_
      refine q_aload_n hK 0 dX4_has_3 rfl rfl ?_
      refine q_getf hK dX4_has_4 fX4_16 (nl_lt ho) (BB_nl ho) rfl ?_
      rw [hc]
      refine q_icmp_ge hK 31 dX4_has_7 (by decide) (fun c7 => ?_) (fun c7 => ?_)
      · have := (nI_leI (by omega) (by omega)).mp c7
        omega
      refine q_aload_n hK 0 dX4_has_10 rfl rfl ?_
      refine q_getf hK dX4_has_11 fX4_13 (nl_lt ho) (BB_nl ho) rfl ?_
      refine q_iload_n hK 2 dX4_has_14 rfl rfl ?_
      refine qb_aaldN hK dX4_has_15 ho (k := i) rfl (by omega) ?_
      refine q_aload_n hK 1 dX4_has_16 rfl rfl ?_
      refine q_cSi2 hK dX4_has_17 lX4_26 (by decide) (Nat.le_of_ble_eq_true rfl) (b_isSame (hP.R (by omega)) hr ?_)
      refine q_if_eq hK 25 dX4_has_20 (by decide) (fun c20 => ?_) (fun c20 => ?_)
      · have hs := (b2i_eq0 _).mp c20
        refine q_inc1 hK dX4_has_25 rfl (by decide) ?_
        refine q_goto hK 2 dX4_has_28 (by decide) ?_
        exact ih (i + 1) (by omega) (by simp [anyN, hf, hs])
      · have hs := (b2i_ne0 _).mp c20
        have hall : ∀ t, anyN (fun i => sameN (F (P (n + 1) i)) (F r) 6) (i + 1 + t) = true := by
          intro t
          induction t with
          | zero => simp [anyN, hs]
          | succ t iht =>
            show (anyN _ (i + 1 + t) || _) = true
            rw [iht]
            rfl
        have := hall (c - (i + 1))
        rw [show i + 1 + (c - (i + 1)) = c by omega] at this
        rw [this] at h
        refine q_iconst (v := nI 1) hK dX4_has_23 (by decide) ?_
        exact q_iret hR dX4_has_24 rfl ⟨_, rfl, h⟩
  exact loop c 0 (by omega) rfl
/-- a place's row after one has come in at a -/
def insP (p : Nat → Nat) (a c : Nat) : Nat → Nat := fun i => if i < a then p i else if i = a then p c else if i ≤ c then p (i - 1) else p i
theorem b_insert {n c a r : Nat} {Q : Int32 → Mem → Prop} (ho : isNL n) (hP : nlP P n) (hr : bR r = true) (hc : Z (nlZ n) = nI c) (hc2 : c < 24) (ha : a ≤ c) (h : ∀ f, (∀ k, k < 6 → f k = F r k) → Q (nI a) (BB X (va_up Z (nlZ n) (nI (c + 1))) V (va_up P (n + 1) (insP (P (n + 1)) a c)) (va_up F (P (n + 1) c) f) L g)) : CallI X 2 yX4_insert [rf X n, .int (nI a), rf X r] (BB X Z V P F L g) Q := by
  refine CallM_intro (own := RX4) [some (rf X n), some (.int (nI a)), some (rf X r), none, none] wX4_insert (by decide) (by decide) rfl (Nat.le_of_ble_eq_true rfl) rfl (fun K hK hR => ?_)
  refine q_aload_n hK 0 dX4_insert_0 rfl rfl ?_
  refine q_getf hK dX4_insert_1 fX4_16 (nl_lt ho) (BB_nl ho) rfl ?_
  rw [hc]
  refine q_if_lt hK 28 dX4_insert_4 (by decide) (fun c4 => ?_) (fun c4 => ?_)
  · exact absurd c4 (nI_pos (by omega))
  refine q_aload_n hK 0 dX4_insert_7 rfl rfl ?_
  refine q_getf hK dX4_insert_8 fX4_16 (nl_lt ho) (BB_nl ho) rfl ?_
  refine q_bipush (v := nI 24) hK dX4_insert_11 (by decide) ?_
  rw [hc]
  refine q_icmp_ge hK 28 dX4_insert_13 (by decide) (fun c13 => ?_) (fun c13 => ?_)
  · have := (nI_leI (by decide) (by omega)).mp c13
    omega
  refine q_iload_n hK 1 dX4_insert_16 rfl rfl ?_
  refine q_if_lt hK 28 dX4_insert_17 (by decide) (fun c17 => ?_) (fun c17 => ?_)
  · exact absurd c17 (nI_pos (by omega))
  refine q_iload_n hK 1 dX4_insert_20 rfl rfl ?_
  refine q_aload_n hK 0 dX4_insert_21 rfl rfl ?_
  refine q_getf hK dX4_insert_22 fX4_16 (nl_lt ho) (BB_nl ho) rfl ?_
  rw [hc]
  refine q_icmp_le hK 30 dX4_insert_25 (by decide) (fun c25 => ?_) (fun c25 => ?_)
  rotate_left
  · exact absurd ((nI_leI (by omega) (by omega)).mpr ha) c25
  refine q_aload_n hK 0 dX4_insert_30 rfl rfl ?_
  refine q_getf hK dX4_insert_31 fX4_13 (nl_lt ho) (BB_nl ho) rfl ?_
  refine q_aload_n hK 0 dX4_insert_34 rfl rfl ?_
  refine q_getf hK dX4_insert_35 fX4_16 (nl_lt ho) (BB_nl ho) rfl ?_
  rw [hc]
  refine qb_aaldN hK dX4_insert_38 ho (k := c) rfl (by omega) ?_
  refine q_astore_n hK 3 dX4_insert_39 rfl (by decide) ?_
  refine q_aload_n hK 0 dX4_insert_40 rfl rfl ?_
  refine q_getf hK dX4_insert_41 fX4_16 (nl_lt ho) (BB_nl ho) rfl ?_
  rw [hc]
  refine q_istore hK dX4_insert_44 (by decide) ?_
  have loop : ∀ m i p, i = a + m → i ≤ c → (∀ j, p j = if i < j ∧ j ≤ c then P (n + 1) (j - 1) else P (n + 1) j) → K (BB X Z V (va_up P (n + 1) p) F L g) 46 [some (rf X n), some (.int (nI a)), some (rf X r), some (rf X (P (n + 1) c)), some (.int (nI i))] [] := by
    intro m
    induction m with
    | zero =>
      intro i p hi hic hp
      have : i = a := by omega
      subst this
      refine q_iload hK dX4_insert_46 rfl ?_
      refine q_iload_n hK 1 dX4_insert_48 rfl rfl ?_
      refine q_icmp_le hK 74 dX4_insert_49 (by decide) (fun c49 => ?_) (fun c49 => ?_)
      rotate_left
      · exact absurd ((nI_leI (by omega) (by omega)).mpr (Nat.le_refl _)) c49
      refine q_aload_n hK 0 dX4_insert_74 rfl rfl ?_
      refine q_getf hK dX4_insert_75 fX4_13 (nl_lt ho) (BB_nl ho) rfl ?_
      refine q_iload_n hK 1 dX4_insert_78 rfl rfl ?_
      refine q_aload_n hK 3 dX4_insert_79 rfl rfl ?_
      refine qb_aastN hK dX4_insert_80 ho (k := i) rfl (by omega) (hP.R (by omega)) ?_
      rw [up_up, up_same]
      refine q_aload_n hK 2 dX4_insert_81 rfl rfl ?_
      refine q_aload_n hK 3 dX4_insert_82 rfl rfl ?_
      refine q_cSv2 hK dX4_insert_83 lX4_30 (by decide) (Nat.le_of_ble_eq_true rfl) (b_copy hr (hP.R (by omega)) (fun f hf => ?_))
      refine q_aload_n hK 0 dX4_insert_86 rfl rfl ?_
      refine q_dup hK dX4_insert_87 rfl ?_
      refine q_getf hK dX4_insert_88 fX4_16 (nl_lt ho) (BB_nl ho) rfl ?_
      refine q_iconst (v := nI 1) hK dX4_insert_91 (by decide) ?_
      refine q_iadd hK dX4_insert_92 ?_
      refine qb_putLc ho hK dX4_insert_93 pX4_16 ?_
      refine q_iload_n hK 1 dX4_insert_96 rfl rfl ?_
      rw [hc, show nI c + nI 1 = nI (c + 1) from nI_add c 1]
      have hpp : va_up p i (P (n + 1) c) = insP (P (n + 1)) i c := by
        funext j
        unfold insP
        by_cases e : j = i
        · rw [e, up_same, if_neg (Nat.lt_irrefl i), if_pos rfl]
        · rw [up_ne e, hp j]
          by_cases e1 : j < i
          · rw [if_neg (by omega), if_pos e1]
          · rw [if_neg e1, if_neg e]
            by_cases e2 : j ≤ c
            · rw [if_pos ⟨by omega, e2⟩, if_pos e2]
            · rw [if_neg (by omega), if_neg e2]
      rw [hpp]
      exact q_iret hR dX4_insert_97 rfl ⟨_, rfl, h f hf⟩
    | succ m ih =>
      intro i p hi hic hp
      refine q_iload hK dX4_insert_46 rfl ?_
      refine q_iload_n hK 1 dX4_insert_48 rfl rfl ?_
      refine q_icmp_le hK 74 dX4_insert_49 (by decide) (fun c49 => ?_) (fun c49 => ?_)
      · have := (nI_leI (by omega) (by omega)).mp c49
        omega
      refine q_aload_n hK 0 dX4_insert_52 rfl rfl ?_
      refine q_getf hK dX4_insert_53 fX4_13 (nl_lt ho) (BB_nl ho) rfl ?_
      refine q_iload hK dX4_insert_56 rfl ?_
      refine q_aload_n hK 0 dX4_insert_58 rfl rfl ?_
      refine q_getf hK dX4_insert_59 fX4_13 (nl_lt ho) (BB_nl ho) rfl ?_
      refine q_iload hK dX4_insert_62 rfl ?_
      refine q_iconst (v := nI 1) hK dX4_insert_64 (by decide) ?_
      refine q_isub hK dX4_insert_65 ?_
      rw [show nI i - nI 1 = nI (i - 1) from pk_sub (by omega)]
      refine qb_aaldN hK dX4_insert_66 ho (k := i - 1) rfl (by omega) ?_
      rw [up_same, hp (i - 1), if_neg (by omega)]
      refine qb_aastN hK dX4_insert_67 ho (k := i) rfl (by omega) (hP.R (by omega)) ?_
      rw [up_up, up_same]
      refine q_iinc hK dX4_insert_68 rfl (show _ = nI (i - 1) by rw [← pk_sub (by omega : 1 ≤ i), jI_nat i, jI_nat 1, jI_add, jI_sub]; rfl) (by decide) ?_
      refine q_goto hK 46 dX4_insert_71 (by decide) ?_
      refine ih (i - 1) _ (by omega) (by omega) (fun j => ?_)
      by_cases e : j = i
      · rw [e, up_same, if_pos (by omega)]
      · rw [up_ne e, hp j]
        by_cases e1 : i < j ∧ j ≤ c
        · rw [if_pos e1, if_pos (by omega)]
        · rw [if_neg e1, if_neg (by omega)]
  have := loop (c - a) c (P (n + 1)) (by omega) (Nat.le_refl _) (fun j => (if_neg (by omega)).symm)
  rw [up_id] at this
  exact this
theorem b_placeOf {n c r : Nat} {R : Nat → Vec} {e : Vec} {Q : Int32 → Mem → Prop} (ho : isNL n) (hP : nlP P n) (hr : bR r = true) (hr9 : r ∉ [26, 28, 29]) (hc : Z (nlZ n) = nI c) (hc2 : c ≤ 24) (hRw : ∀ i, i < c → has6 (F (P (n + 1) i)) (R i) 24) (he : has6 (F r) e 24) (hmono : ∀ i j, i ≤ j → j < c → sgn (fun k => R j k - e k) < 0 → sgn (fun k => R i k - e k) < 0)
    (h : ∀ j Z' V' F', j ≤ c → (∀ i, i < j → sgn (fun k => R i k - e k) < 0) → (∀ i, j ≤ i → i < c → 0 ≤ sgn (fun k => R i k - e k)) → eqo [2, 3] Z Z' → eqo [26, 28, 29] F F' → Q (nI j) (BB X Z' V' P F' L g)) : CallI X 4 yX4_placeOf [rf X n, rf X r, rf X 24] (BB X Z V P F L g) Q := by
  have nz : nlZ n ∉ [2, 3] := by unfold nlZ; split <;> decide
  refine CallM_intro (own := RX4) [some (rf X n), some (rf X r), some (rf X 24), none, none, none, none] wX4_placeOf (by decide) (by decide) rfl (Nat.le_of_ble_eq_true rfl) rfl (fun K hK hR => ?_)
  refine q_iconst (v := nI 0) hK dX4_placeOf_0 (by decide) ?_
  refine q_istore_n hK 3 dX4_placeOf_1 rfl (by decide) ?_
  refine q_aload_n hK 0 dX4_placeOf_2 rfl rfl ?_
  refine q_getf hK dX4_placeOf_3 fX4_16 (nl_lt ho) (BB_nl ho) rfl ?_
  rw [hc]
  refine q_istore hK dX4_placeOf_6 (by decide) ?_
  refine q_iconst (v := nI 0) hK dX4_placeOf_8 (by decide) ?_
  refine q_istore hK dX4_placeOf_9 (by decide) ?_
  have loop : ∀ s i low high v6 Z' V' F', i + s = 8 → low ≤ high → high ≤ c → high - low < 2 ^ s → (∀ i, i < low → sgn (fun k => R i k - e k) < 0) → (∀ i, high ≤ i → i < c → 0 ≤ sgn (fun k => R i k - e k)) → eqo [2, 3] Z Z' → eqo [26, 28, 29] F F' → K (BB X Z' V' P F' L g) 11 [some (rf X n), some (rf X r), some (rf X 24), some (.int (nI low)), some (.int (nI high)), some (.int (nI i)), v6] [] := by
    intro s
    induction s with
    | zero =>
      intro i low high v6 Z' V' F' hi h1 h2 h3 h4 h5 z1 z2
      have h3' : high - low < 1 := h3
      have : low = high := by omega
      subst this
      refine q_iload hK dX4_placeOf_11 rfl ?_
      refine q_bipush (v := nI 8) hK dX4_placeOf_13 (by decide) ?_
      refine q_icmp_ge hK 65 dX4_placeOf_15 (by decide) (fun c15 => ?_) (fun c15 => ?_)
      · refine q_iload_n hK 3 dX4_placeOf_65 rfl rfl ?_
        exact q_iret hR dX4_placeOf_66 rfl ⟨_, rfl, h low Z' V' F' h2 h4 h5 z1 z2⟩
      · exact absurd ((nI_leI (by decide) (by omega)).mpr (by omega)) c15
    | succ s ih =>
      intro i low high v6 Z' V' F' hi h1 h2 h3 h4 h5 z1 z2
      refine q_iload hK dX4_placeOf_11 rfl ?_
      refine q_bipush (v := nI 8) hK dX4_placeOf_13 (by decide) ?_
      refine q_icmp_ge hK 65 dX4_placeOf_15 (by decide) (fun c15 => ?_) (fun c15 => ?_)
      · have := (nI_leI (by decide) (by omega)).mp c15
        omega
      refine q_iload_n hK 3 dX4_placeOf_18 rfl rfl ?_
      refine q_iload hK dX4_placeOf_19 rfl ?_
      refine q_icmp_ge hK 65 dX4_placeOf_21 (by decide) (fun c21 => ?_) (fun c21 => ?_)
      · have := (nI_leI (by omega) (by omega)).mp c21
        have : low = high := by omega
        subst this
        refine q_iload_n hK 3 dX4_placeOf_65 rfl rfl ?_
        exact q_iret hR dX4_placeOf_66 rfl ⟨_, rfl, h low Z' V' F' h2 h4 h5 z1 z2⟩
      have hlt := mt (nI_leI (a := high) (b := low) (by omega) (by omega)).mpr c21
      refine q_iload_n hK 3 dX4_placeOf_24 rfl rfl ?_
      refine q_iload hK dX4_placeOf_25 rfl ?_
      refine q_iadd hK dX4_placeOf_27 ?_
      refine q_iconst (v := nI 2) hK dX4_placeOf_28 (by decide) ?_
      refine q_idiv hK dX4_placeOf_29 (by decide) ?_
      rw [show nI low + nI high = nI (low + high) from nI_add low high, show nI (low + high) / nI 2 = nI ((low + high) / 2) from pk_div (by omega) (by decide) (by decide)]
      have hp2 : 2 ^ (s + 1) = 2 ^ s * 2 := Nat.pow_succ ..
      have m1 : low ≤ (low + high) / 2 ∧ (low + high) / 2 < high := by omega
      have m2 : high - ((low + high) / 2 + 1) < 2 ^ s := by omega
      have m3 : (low + high) / 2 - low < 2 ^ s := by omega
      generalize (low + high) / 2 = mid at *
      refine q_istore hK dX4_placeOf_30 (by decide) ?_
      refine q_aload_n hK 2 dX4_placeOf_32 rfl rfl ?_
      refine q_aload_n hK 0 dX4_placeOf_33 rfl rfl ?_
      refine q_getf hK dX4_placeOf_34 fX4_13 (nl_lt ho) (BB_nl ho) rfl ?_
      refine q_iload hK dX4_placeOf_37 rfl ?_
      refine qb_aaldN hK dX4_placeOf_39 ho (k := mid) rfl (by omega) ?_
      refine q_aload_n hK 1 dX4_placeOf_40 rfl rfl ?_
      have hrm : ∀ k, k < 6 → F' (P (n + 1) mid) k = jI (R mid k) := fun k hk => by
        have := hP.rng (show mid < 24 by omega)
        rw [z2 _ (by simp; omega)]
        exact (hRw mid (by omega) k hk).1
      have hre : ∀ k, k < 6 → F' r k = jI (e k) := fun k hk => by
        rw [z2 _ hr9]
        exact (he k hk).1
      refine q_cVi2 hK dX4_placeOf_41 lX4_34 (by decide) (by decide) rfl (Nat.le_of_ble_eq_true rfl) (b_compare (hP.R (by omega)) hr hrm hre (fun k hk => by have := (hRw mid (by omega) k hk).2; have := (he k hk).2; omega) (fun Z2 V2 F2 y1 y2 => ?_))
      have sr := sgn_range (fun k => R mid k - e k)
      refine q_if_ge hK 55 dX4_placeOf_44 (by decide) (fun c44 => ?_) (fun c44 => ?_)
      · have q := (jI_0le (by omega) (by omega)).mp c44
        refine q_iload hK dX4_placeOf_55 rfl ?_
        refine q_istore hK dX4_placeOf_57 (by decide) ?_
        refine q_inc1 hK dX4_placeOf_59 rfl (by decide) ?_
        refine q_goto hK 11 dX4_placeOf_62 (by decide) ?_
        refine ih (i + 1) low mid _ Z2 V2 F2 (by omega) (by omega) (by omega) m3 h4 (fun j j1 j2 => ?_) (z1.tr y1) (z2.tr y2)
        rcases Int.lt_or_le (sgn (fun k => R j k - e k)) 0 with z | z
        · have := hmono mid j j1 j2 z
          omega
        · exact z
      · have q := mt (jI_0le (b := sgn (fun k => R mid k - e k)) (by omega) (by omega)).mpr c44
        refine q_iload hK dX4_placeOf_47 rfl ?_
        refine q_iconst (v := nI 1) hK dX4_placeOf_49 (by decide) ?_
        refine q_iadd hK dX4_placeOf_50 ?_
        refine q_istore_n hK 3 dX4_placeOf_51 rfl (by decide) ?_
        refine q_goto hK 59 dX4_placeOf_52 (by decide) ?_
        refine q_inc1 hK dX4_placeOf_59 rfl (by decide) ?_
        refine q_goto hK 11 dX4_placeOf_62 (by decide) ?_
        rw [show nI mid + nI 1 = nI (mid + 1) from nI_add mid 1]
        exact ih (i + 1) (mid + 1) high _ Z2 V2 F2 (by omega) (by omega) (by omega) m2 (fun j hj => hmono j mid (by omega) (by omega) (by omega)) h5 (z1.tr y1) (z2.tr y2)
  exact loop 8 0 0 c none Z V F rfl (Nat.zero_le _) (Nat.le_refl _) (by omega) (fun i hi => absurd hi (Nat.not_lt_zero i)) (fun i h1 h2 => by omega) eqo.rf eqo.rf
end BB2
