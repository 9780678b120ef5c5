-- ===== the class's cells hold the state
def pOk (P : Nat → Nat → Nat) : Prop := tPo P ∧ kPo P ∧ isXY P ∧ (isNL (P 33 7) ∧ isNL (P 33 8) ∧ P 33 7 ≠ P 33 8) ∧ nlP P 40 ∧ nlP P 42
theorem pOk.at {P : Nat → Nat → Nat} (h : pOk P) {n : Nat} (hn : isNL n) : nlP P n := by
  rcases hn with rfl | rfl
  · exact h.2.2.2.2.1
  · exact h.2.2.2.2.2
theorem pOk.of {P P' : Nat → Nat → Nat} (h : pOk P) {n : Nat} (hn : isNL n) (he : eqo [n + 1] P P') (hp : nlP P' n) : pOk P' := by
  obtain ⟨h1, h2, h3, h4, h5, h6⟩ := h
  unfold pOk tPo kPo isXY nlP at *
  rcases hn with rfl | rfl
  · rw [he 32 (by decide), he 38 (by decide), he 44 (by decide), he 33 (by decide), he 43 (by decide)]
    exact ⟨h1, h2, h3, h4, hp, h6⟩
  · rw [he 32 (by decide), he 38 (by decide), he 44 (by decide), he 33 (by decide), he 41 (by decide)]
    exact ⟨h1, h2, h3, h4, h5, hp⟩
theorem pOk.of32 {P P' : Nat → Nat → Nat} (h : pOk P) (he : eqo [32] P P') (hp : tPo P') : pOk P' := by
  obtain ⟨h1, h2, h3, h4, h5, h6⟩ := h
  refine ⟨hp, ?_⟩
  unfold kPo isXY nlP at *
  rw [he 38 (by decide), he 44 (by decide), he 33 (by decide), he 41 (by decide), he 43 (by decide)]
  exact ⟨h2, h3, h4, h5, h6⟩
theorem pOk.of38 {P P' : Nat → Nat → Nat} (h : pOk P) (he : eqo [38] P P') (hp : kPo P') : pOk P' := by
  obtain ⟨h1, h2, h3, h4, h5, h6⟩ := h
  refine ⟨?_, hp, ?_⟩
  · unfold tPo at *
    rw [he 32 (by decide)]
    exact h1
  · unfold isXY nlP at *
    rw [he 44 (by decide), he 33 (by decide), he 41 (by decide), he 43 (by decide)]
    exact ⟨h3, h4, h5, h6⟩
theorem pOk.of44 {P P' : Nat → Nat → Nat} (h : pOk P) (he : eqo [44] P P') (hp : isXY P') : pOk P' := by
  obtain ⟨h1, h2, h3, h4, h5, h6⟩ := h
  refine ⟨?_, ?_, hp, ?_⟩
  · unfold tPo at *
    rw [he 32 (by decide)]
    exact h1
  · unfold kPo at *
    rw [he 38 (by decide)]
    exact h2
  · unfold nlP at *
    rw [he 33 (by decide), he 41 (by decide), he 43 (by decide)]
    exact ⟨h4, h5, h6⟩
theorem pOk.take {P : Nat → Nat → Nat} (h : pOk P) : pOk (va_up P 33 (va_up (va_up (P 33) 7 (P 33 8)) 8 (P 33 7))) := by
  obtain ⟨h1, h2, h3, h4, h5, h6⟩ := h
  unfold pOk tPo kPo isXY nlP at *
  rw [up_ne (by decide : (32 : Nat) ≠ 33), up_ne (by decide : (38 : Nat) ≠ 33), up_ne (by decide : (44 : Nat) ≠ 33), up_same, up_ne (by decide : (40 + 1 : Nat) ≠ 33), up_ne (by decide : (42 + 1 : Nat) ≠ 33), up_same, up_ne (by decide : (7 : Nat) ≠ 8), up_same]
  exact ⟨h1, h2, h3, ⟨h4.2.1, h4.1, Ne.symm h4.2.2⟩, h5, h6⟩
def BI (Z : Nat → Int32) (P : Nat → Nat → Nat) (F : Nat → Nat → Int32) (σ : Sg) : Prop :=
  Z 1 = σ.1 ∧ (∀ i, i < 16 → F 21 i = b2i (gOn σ i)) ∧ (∀ i, i < 16 → gOn σ i = true → has6 (F (48 + i)) (gRow σ i) 24) ∧ cmI Z F (gC σ) (gCr σ) ∧
  (gN σ ≤ 24 ∧ Z (nlZ (P 33 7)) = nI (gN σ) ∧ (0 < gN σ → scI Z P F (gN σ) (gNt σ)) ∧ wfS (gN σ) (gNt σ)) ∧
  (Z 0 = nI (gOl σ) ∧ gOl σ ≤ 256 ∧ ∀ k, k < gOl σ → F 23 k = gOb σ k) ∧ pOk P
theorem nlZ_ne {a b : Nat} (ha : isNL a) (hb : isNL b) (h : a ≠ b) : nlZ a ≠ nlZ b := by
  rcases ha with rfl | rfl <;> rcases hb with rfl | rfl <;> first | exact absurd rfl h | decide
theorem nlZ_in {a : Nat} : nlZ a = 5 ∨ nlZ a = 6 := by unfold nlZ; split <;> simp
theorem nlO_ne {a b : Nat} (ha : isNL a) (hb : isNL b) (h : a ≠ b) : nlO a + 24 ≤ nlO b ∨ nlO b + 24 ≤ nlO a := by
  rcases ha with rfl | rfl <;> rcases hb with rfl | rfl <;> first | exact absurd rfl h | decide
theorem BI.fr {Z Z' : Nat → Int32} {P P' : Nat → Nat → Nat} {F F' : Nat → Nat → Int32} {σ : Sg} (h : BI Z P F σ) (hz : eqo [2, 3, nlZ (P 33 8)] Z Z') (hf : frB (P 33 8) F F') (hp : pOk P') (h7 : P' 33 = P 33) (hn : P' (P 33 7 + 1) = P (P 33 7 + 1)) : BI Z' P' F' σ := by
  obtain ⟨b1, b2, b3, b4, b5, b6, b7⟩ := h
  obtain ⟨n1, n2, n3⟩ := b7.2.2.2.1
  have hi := nlZ_in (a := P 33 8)
  have ho8 := nlO_rng (P 33 8)
  have hoo := nlO_ne n1 n2 n3
  have hz7 : Z' (nlZ (P 33 7)) = Z (nlZ (P 33 7)) := hz _ (by
    have := nlZ_in (a := P 33 7)
    have := nlZ_ne n1 n2 n3
    simp
    omega)
  refine ⟨?_, ?_, ?_, ?_, ?_, ?_, hp⟩
  · rw [hz 1 (by simp; omega)]; exact b1
  · rw [hf 21 (by unfold scB; omega)]; exact b2
  · intro i hi2 ho
    rw [hf _ (by unfold scB; omega)]
    exact b3 i hi2 ho
  · refine ⟨by rw [hz 4 (by simp; omega)]; exact b4.1, b4.2.1, fun i hi2 => ?_⟩
    have := b4.2.1
    rw [hf _ (by unfold scB; omega)]
    exact b4.2.2 i hi2
  · rw [h7, hz7]
    refine ⟨b5.1, b5.2.1, fun h0 => ?_, b5.2.2.2⟩
    obtain ⟨s1, s2, s3, s4, s5, s6⟩ := b5.2.2.1 h0
    unfold scI
    rw [h7, hn]
    refine ⟨s1, ?_, by rw [hz7]; exact s3, s4, fun i hi2 => ?_, ?_⟩
    · unfold nlP at s2 ⊢
      rw [hn]
      exact s2
    · have := s2.1 i (by omega)
      have := nlO_rng (P 33 7)
      rw [hf _ (by unfold scB; omega)]
      exact s5 i hi2
    · rw [hf 34 (by unfold scB; omega)]; exact s6
  · rw [hz 0 (by simp; omega), hf 23 (by unfold scB; omega)]; exact b6
theorem BI.st {Z : Nat → Int32} {P : Nat → Nat → Nat} {F : Nat → Nat → Int32} {σ : Sg} (h : BI Z P F σ) (v : Int32) : BI (va_up Z 1 v) P F (sSt σ v) := by
  obtain ⟨b1, b2, b3, b4, b5, b6, b7⟩ := h
  have hi := nlZ_in (a := P 33 7)
  refine ⟨up_same _ _ _, b2, b3, ?_, ?_, ?_, b7⟩
  · exact ⟨by rw [up_ne (by decide)]; exact b4.1, b4.2⟩
  · refine ⟨b5.1, by rw [up_ne (by omega)]; exact b5.2.1, fun h0 => ?_, b5.2.2.2⟩
    obtain ⟨s1, s2, s3, s4⟩ := b5.2.2.1 h0
    exact ⟨s1, s2, by rw [up_ne (by omega)]; exact s3, s4⟩
  · exact ⟨by rw [up_ne (by decide)]; exact b6.1, b6.2⟩
theorem mono_srt {c : Nat} {R : Nat → Vec} {e : Vec} (hs : srt c R) : ∀ i j, i ≤ j → j < c → sgn (fun k => R j k - e k) < 0 → sgn (fun k => R i k - e k) < 0 := by
  intro i j hij hj h
  by_cases q : i = j
  · rw [q]; exact h
  · exact sgn_flip' (sgn_tr (hs i j (by omega) hj) (sgn_flip h))
section BV
variable {X : Cx} {Z : Nat → Int32} {V : Nat → Int64} {P : Nat → Nat → Nat} {F : Nat → Nat → Int32} {L : Nat → Nat → Int64} {g : Mem}
/-- what lay and mode may have changed ere they end -/
def lyF (Z Z' : Nat → Int32) (P P' : Nat → Nat → Nat) (F F' : Nat → Nat → Int32) : Prop := eqo [2, 3, nlZ (P 33 8)] Z Z' ∧ eqo [P 33 8 + 1] P P' ∧ nlP P' (P 33 8) ∧ frB (P 33 8) F F'
theorem has_iff {c : Nat} {R : Nat → Vec} {r : Vec} {p : Nat → Nat} {t : Nat} {F : Nat → Nat → Int32} (hR : ∀ i, i < c → has6 (F (p i)) (R i) 24) (hr : has6 (F t) r 24) (hs : srt c R) : anyN (fun i => sameN (F (p i)) (F t) 6) c = true ↔ plcv R r c < 0 := by
  constructor
  · intro h
    obtain ⟨i, hi, hi2⟩ := anyN_true h
    have := sameN_all.mp hi2
    by_cases q : plcv R r c < 0
    · exact q
    · exfalso
      refine plcv_none hs q i hi (fun k hk => ?_)
      have h1 := this k hk
      have h2 := hR i hi k hk
      have h3 := hr k hk
      rw [h2.1, h3.1] at h1
      exact ((jI_eq (by omega) (by omega) (by omega) (by omega)).mp h1).symm
  · intro h
    obtain ⟨j, j1, j2, j3⟩ := plcv_neg h
    cases hq : anyN (fun i => sameN (F (p i)) (F t) 6) c
    · have := anyN_false.mp hq j j1
      rw [sameN_all.mpr (fun k hk => by rw [(hR j j1 k hk).1, (hr k hk).1, j3 k hk])] at this
      cases this
    · rfl
theorem b_stack {a b m : Nat} {p q : Vec} {Q : Int32 → Mem → Prop} (hO : pOk P) (ha : bR a = true) (ha1 : 48 ≤ a) (ha2 : a ≤ 63) (hb : bR b = true) (hb1 : 48 ≤ b) (hb2 : b ≤ 63) (hp : has6 (F a) p 24) (hq : has6 (F b) q 24) (hps : 0 < sgn p) (hm1 : 1 ≤ m) (hm : m ≤ 24)
    (h4 : layS p q (m - 1) = none → ∀ Z' V' P' F', lyF Z Z' P P' F F' → Q (nI 4) (BB X Z' V' P' F' L g))
    (h8 : ∀ s, layS p q (m - 1) = some s → s.2.2 = true → ∀ Z' V' P' F', lyF Z Z' P P' F F' → Q (nI 8) (BB X Z' V' P' F' L g))
    (h0 : ∀ s, layS p q (m - 1) = some s → s.2.2 = false → ∀ Z' V' P' F' f, lyF Z Z' P P' F F' → Z' (nlZ (P 33 8)) = nI s.1 → (∀ i, i < s.1 → has6 (F' (P' (P 33 8 + 1) i)) (s.2.1 i) 24) → (∀ k, k < 6 → f k = jI (p k)) → Q 0 (BB X Z' V' (va_up P' 33 (va_up (va_up (P 33) 7 (P 33 8)) 8 (P 33 7))) (va_up F' 34 f) L g)) : CallI X 5 yX6_stack [rf X 33, rf X a, rf X b, .int (nI m)] (BB X Z V P F L g) Q := by
  obtain ⟨n1, n2, n3⟩ := hO.2.2.2.1
  have hzi := nlZ_in (a := P 33 8)
  have hor := nlO_rng (P 33 8)
  have h33 : ∀ {P'}, eqo [P 33 8 + 1] P P' → P' 33 = P 33 := fun he => he 33 (by simp; rcases n2 with z | z <;> omega)
  have naS : ∀ {j}, 48 ≤ j → j ≤ 63 → ¬ scB (P 33 8) j := fun h1 h2 z => by unfold scB at z; omega
  have row_in : ∀ {P'} {i}, nlP P' (P 33 8) → i < 24 → scB (P 33 8) (P' (P 33 8 + 1) i) := fun hP hi => by
    have := hP.1 _ hi
    unfold scB
    omega
  refine CallM_intro (own := RX6) [some (rf X 33), some (rf X a), some (rf X b), some (.int (nI m)), none, none] wX6_stack (by decide) (by decide) rfl (Nat.le_of_ble_eq_true rfl) rfl (fun K hK hR => ?_)
  refine q_iconst (v := nI 0) hK dX6_stack_0 (by decide) ?_
  refine q_istore hK dX6_stack_1 (by decide) ?_
  refine q_aload_n hK 0 dX6_stack_3 rfl rfl ?_
  refine q_getf hK dX6_stack_4 fX6_43 (by decide) rfl rfl ?_
  refine q_cVv0 hK dX6_stack_7 lX6_56 (by decide) (nl_lt n2) (BB_nl n2) (Nat.le_of_ble_eq_true rfl) (b_restart n2 (hO.at n2) (fun f0 hf0 => ?_))
  refine q_iconst (v := nI 1) hK dX6_stack_10 (by decide) ?_
  refine q_istore hK dX6_stack_11 (by decide) ?_
  have loop : ∀ e j s Z' V' P' F', j + e + 1 = m → layS p q j = some s → lyF Z Z' P P' F F' → Z' (nlZ (P 33 8)) = nI s.1 → (∀ i, i < s.1 → has6 (F' (P' (P 33 8 + 1) i)) (s.2.1 i) 24) → K (BB X Z' V' P' F' L g) 13 [some (rf X 33), some (rf X a), some (rf X b), some (.int (nI m)), some (.int (b2i s.2.2)), some (.int (nI (j + 1)))] [] := by
    intro e
    induction e with
    | zero =>
      intro j s Z' V' P' F' hj hs hly hz hrow
      obtain ⟨y1, y2, y3, y4⟩ := hly
      have e33 := h33 y2
      have hjm : j = m - 1 := by omega
      rw [hjm] at hs
      refine q_iload hK dX6_stack_13 rfl ?_
      refine q_iload_n hK 3 dX6_stack_15 rfl rfl ?_
      refine q_icmp_ge hK 106 dX6_stack_16 (by decide) (fun c16 => ?_) (fun c16 => ?_)
      rotate_left
      · exact absurd ((nI_leI (by omega) (by omega)).mpr (by omega)) c16
      refine q_iload hK dX6_stack_106 rfl ?_
      refine q_if_eq hK 114 dX6_stack_108 (by decide) (fun c108 => ?_) (fun c108 => ?_)
      rotate_left
      · have := h8 s hs ((b2i_ne0 _).mp c108) Z' V' P' F' ⟨y1, y2, y3, y4⟩
        refine q_bipush (v := nI 8) hK dX6_stack_111 (by decide) ?_
        exact q_iret hR dX6_stack_113 rfl ⟨_, rfl, this⟩
      have hs2 := (b2i_eq0 _).mp c108
      refine q_aload_n hK 1 dX6_stack_114 rfl rfl ?_
      refine q_aload_n hK 0 dX6_stack_115 rfl rfl ?_
      refine q_getf hK dX6_stack_116 fX6_15 (by decide) rfl rfl ?_
      refine q_cSv2 hK dX6_stack_119 lX6_50 (by decide) (Nat.le_of_ble_eq_true rfl) (b_copy ha (m := 34) rfl (fun f hf => ?_))
      refine q_aload_n hK 0 dX6_stack_122 rfl rfl ?_
      refine q_cVv0 hK dX6_stack_123 lX6_81 (by decide) (by decide) rfl (Nat.le_of_ble_eq_true rfl) (b_takeComing ?_)
      have := h0 s hs hs2 Z' V' P' F' f ⟨y1, y2, y3, y4⟩ hz hrow (fun k hk => by rw [hf k hk, y4 a (naS ha1 ha2)]; exact (hp k hk).1)
      rw [e33]
      refine q_iconst (v := nI 0) hK dX6_stack_126 (by decide) ?_
      exact q_iret hR dX6_stack_127 rfl ⟨_, rfl, this⟩
    | succ e ih =>
      intro j s Z' V' P' F' hj hs hly hz hrow
      obtain ⟨y1, y2, y3, y4⟩ := hly
      have e33 := h33 y2
      have hlay := layS_ok hps hs
      have hsr := wf_srt hlay.1
      have hle := hlay.2.2.1
      have hl1 := hlay.2.1
      refine q_iload hK dX6_stack_13 rfl ?_
      refine q_iload_n hK 3 dX6_stack_15 rfl rfl ?_
      refine q_icmp_ge hK 106 dX6_stack_16 (by decide) (fun c16 => ?_) (fun c16 => ?_)
      · have := (nI_leI (by omega) (by omega)).mp c16
        omega
      refine q_aload_n hK 2 dX6_stack_19 rfl rfl ?_
      refine q_aload_n hK 2 dX6_stack_20 rfl rfl ?_
      refine q_iload hK dX6_stack_21 rfl ?_
      refine q_iconst (v := nI 1) hK dX6_stack_23 (by decide) ?_
      refine q_isub hK dX6_stack_24 ?_
      refine q_aload_n hK 0 dX6_stack_25 rfl rfl ?_
      refine q_getf hK dX6_stack_26 fX6_22 (by decide) rfl rfl ?_
      rw [show nI (j + 1) - nI 1 = nI j from pk_sub (by omega)]
      refine q_cSv4 hK dX6_stack_29 lX6_59 (by decide) (Nat.le_of_ble_eq_true rfl) (b_combine hb hb (t := 36) rfl (fun fu hfu => ?_))
      have hun : has6 (va_up F' 36 fu 36) (fun k => ((j + 1 : Nat) : Int) * q k) 900 := fun k hk => by
        have h1 := hq k hk
        have h2 := mul_bd (x := ((j + 1 : Nat) : Int)) (y := q k) (s := 24) (t := 24) (by omega) (by omega) h1.2.1 h1.2.2
        rw [up_same, hfu k hk, y4 b (naS hb1 hb2), h1.1, jI_nat, jI_mul, jI_add]
        refine ⟨by congr 1; show _ = ((j + 1 : Nat) : Int) * q k; rw [Int.natCast_add, Int.add_mul]; omega, by show _ ≤ ((j + 1 : Nat) : Int) * q k; omega, by show ((j + 1 : Nat) : Int) * q k ≤ _; omega⟩
      have hpp : has6 (va_up F' 36 fu a) p 24 := fun k hk => by
        rw [up_ne (by omega), y4 a (naS ha1 ha2)]
        exact hp k hk
      refine q_aload_n hK 0 dX6_stack_32 rfl rfl ?_
      refine q_getf hK dX6_stack_33 fX6_9 (by decide) rfl rfl ?_
      refine q_aload_n hK 0 dX6_stack_36 rfl rfl ?_
      refine q_getf hK dX6_stack_37 fX6_22 (by decide) rfl rfl ?_
      refine q_aload_n hK 1 dX6_stack_40 rfl rfl ?_
      refine q_aload_n hK 0 dX6_stack_41 rfl rfl ?_
      refine q_getf hK dX6_stack_42 fX6_19 (by decide) rfl rfl ?_
      refine q_cVi3 hK dX6_stack_45 lX6_63 (by decide) (by decide) rfl (Nat.le_of_ble_eq_true rfl) (b_foldInto (n := 36) (m := a) (t := 35) rfl ha rfl (by decide) (by omega) (by decide) (by decide) (by omega) hun hpp hps (fun Z2 V2 F2 x1 x2 => ⟨fun r hr hr2 => ?_, fun hr => ?_⟩))
      rotate_left
      · have hno : layS p q (m - 1) = none := by
          have hn1 : layS p q (j + 1) = none := by
            rw [layS, hs]
            dsimp only
            rw [hr]
          have := layS_none hn1 (m - 1 - (j + 1))
          rw [show j + 1 + (m - 1 - (j + 1)) = m - 1 by omega] at this
          exact this
        have hh := h4 hno Z2 V2 P' F2 ⟨y1.tr (x1.mono (by simp)), y2, y3, (y4.up (by unfold scB; omega)).tr (frB_e x2 (fun w hw => by simp at hw; unfold scB; omega))⟩
        refine q_if_ne hK 53 dX6_stack_48 (by decide) (fun c48 => ?_) (fun c48 => ?_)
        · exact absurd rfl c48
        refine q_iconst (v := nI 4) hK dX6_stack_51 (by decide) ?_
        exact q_iret hR dX6_stack_52 rfl ⟨_, rfl, hh⟩
      have hnr := foldv_near hps hr
      have hnf := farV_false.mp hnr
      have y4' : frB (P 33 8) F F2 := (y4.up (by unfold scB; omega)).tr (frB_e x2 (fun w hw => by simp at hw; unfold scB; omega))
      have y1' : eqo [2, 3, nlZ (P 33 8)] Z Z2 := y1.tr (x1.mono (by simp))
      have hz2 : Z2 (nlZ (P 33 8)) = nI s.1 := by rw [x1 _ (by simp; omega)]; exact hz
      have hrow2 : ∀ i, i < s.1 → has6 (F2 (P' (P 33 8 + 1) i)) (s.2.1 i) 24 := fun i hi k hk => by
        have h1 := y3.rng (show i < 24 by omega)
        rw [x2 _ (by simp; omega), up_ne (by omega)]
        exact hrow i hi k hk
      have hr35 : has6 (F2 35) r 24 := fun k hk => ⟨hr2 k hk, (hnf k hk).1, (hnf k hk).2⟩
      refine q_if_ne hK 53 dX6_stack_48 (by decide) (fun c48 => ?_) (fun c48 => ?_)
      rotate_left
      · exact absurd c48 (by decide)
      refine q_aload_n hK 0 dX6_stack_53 rfl rfl ?_
      refine q_getf hK dX6_stack_54 fX6_43 (by decide) rfl rfl ?_
      refine q_aload_n hK 0 dX6_stack_57 rfl rfl ?_
      refine q_getf hK dX6_stack_58 fX6_19 (by decide) rfl rfl ?_
      rw [e33]
      refine q_cVi1 hK dX6_stack_61 lX6_69 (by decide) (nl_lt n2) (BB_nl n2) (Nat.le_of_ble_eq_true rfl) (b_has n2 y3 (r := 35) rfl hz2 (by omega) ?_)
      have hiff := has_iff hrow2 hr35 hsr
      have hl : layS p q (j + 1) = if plcv s.2.1 r s.1 < 0 then some (s.1, s.2.1, true) else some (s.1 + 1, insR s.2.1 (plcv s.2.1 r s.1).toNat r, s.2.2) := by
        rw [layS, hs]
        dsimp only
        rw [hr]
      refine q_if_eq hK 73 dX6_stack_64 (by decide) (fun c64 => ?_) (fun c64 => ?_)
      rotate_left
      · have hneg := hiff.mp ((b2i_ne0 _).mp c64)
        rw [if_pos hneg] at hl
        refine q_iconst (v := nI 1) hK dX6_stack_67 (by decide) ?_
        refine q_istore hK dX6_stack_68 (by decide) ?_
        refine q_goto hK 100 dX6_stack_70 (by decide) ?_
        refine q_inc1 hK dX6_stack_100 rfl (by decide) ?_
        refine q_goto hK 13 dX6_stack_103 (by decide) ?_
        exact ih (j + 1) _ Z2 V2 P' F2 (by omega) hl ⟨y1', y2, y3, y4'⟩ hz2 hrow2
      have hneg : ¬ plcv s.2.1 r s.1 < 0 := fun z => by
        rw [hiff.mpr z] at c64
        exact absurd c64 (by decide)
      rw [if_neg hneg] at hl
      refine q_aload_n hK 0 dX6_stack_73 rfl rfl ?_
      refine q_getf hK dX6_stack_74 fX6_43 (by decide) rfl rfl ?_
      refine q_aload_n hK 0 dX6_stack_77 rfl rfl ?_
      refine q_getf hK dX6_stack_78 fX6_43 (by decide) rfl rfl ?_
      refine q_aload_n hK 0 dX6_stack_81 rfl rfl ?_
      refine q_getf hK dX6_stack_82 fX6_19 (by decide) rfl rfl ?_
      refine q_aload_n hK 0 dX6_stack_85 rfl rfl ?_
      refine q_getf hK dX6_stack_86 fX6_9 (by decide) rfl rfl ?_
      rw [e33]
      refine q_cVi2 hK dX6_stack_89 lX6_73 (by decide) (nl_lt n2) (BB_nl n2) (Nat.le_of_ble_eq_true rfl) (b_placeOf n2 y3 (r := 35) rfl (by decide) hz2 (by omega) hrow2 hr35 (mono_srt hsr) (fun w Z3 V3 F3 w1 w2 w3 v1 v2 => ?_))
      have hpl := plcv_j hneg w1 w2 w3
      rw [hpl, Int.toNat_natCast] at hl
      have hz3 : Z3 (nlZ (P 33 8)) = nI s.1 := by rw [v1 _ (by simp; omega)]; exact hz2
      refine q_aload_n hK 0 dX6_stack_92 rfl rfl ?_
      refine q_getf hK dX6_stack_93 fX6_19 (by decide) rfl rfl ?_
      refine q_cVi2 hK dX6_stack_96 lX6_77 (by decide) (nl_lt n2) (BB_nl n2) (Nat.le_of_ble_eq_true rfl) (b_insert n2 y3 (r := 35) rfl hz3 (by omega) w1 (fun fi hfi => ?_))
      refine q_pop hK dX6_stack_99 rfl ?_
      refine q_inc1 hK dX6_stack_100 rfl (by decide) ?_
      refine q_goto hK 13 dX6_stack_103 (by decide) ?_
      have hrc := y3.rng (show s.1 < 24 by omega)
      refine ih (j + 1) (s.1 + 1, insR s.2.1 w r, s.2.2) _ V3 _ _ (by omega) hl ⟨(y1'.tr (v1.mono (by simp))).up (by simp), y2.up (by simp), nlP_ins y3 w1 (by omega), (y4'.tr (frB_e v2 (fun w hw => by simp at hw; unfold scB; omega))).up (row_in y3 (by omega))⟩ (up_same _ _ _) (fun i hi => ?_)
      have hi' : i < s.1 + 1 := hi
      show has6 _ (insR s.2.1 w r i) 24
      rw [up_same]
      have old : ∀ t, t < s.1 → has6 (va_up F3 (P' (P 33 8 + 1) s.1) fi (P' (P 33 8 + 1) t)) (s.2.1 t) 24 := fun t ht k hk => by
        have h1 := y3.rng (show t < 24 by omega)
        rw [up_ne (fun z => by have := y3.2 t s.1 (by omega) (by omega) z; omega), v2 _ (by simp; omega)]
        exact hrow2 t ht k hk
      unfold insP insR
      by_cases e1 : i < w
      · rw [if_pos e1, if_pos e1]; exact old i (by omega)
      · rw [if_neg e1, if_neg e1]
        by_cases e2 : i = w
        · rw [if_pos e2, if_pos e2]
          intro k hk
          rw [up_same, hfi k hk, v2 35 (by decide)]
          exact hr35 k hk
        · rw [if_neg e2, if_neg e2, if_pos (by omega)]
          exact old (i - 1) (by omega)
  refine loop (m - 1) 0 (1, (fun i => if i = 0 then (fun _ => 0) else p), false) _ V P _ (by omega) rfl ⟨eqo.rf.up (by simp), eqo.rf, hO.at n2, frB.rf.up (row_in (hO.at n2) (by decide))⟩ (up_same _ _ _) (fun i hi => ?_)
  have : i = 0 := by
    have : i < 1 := hi
    omega
  subst this
  intro k hk
  rw [up_same, hf0 k hk]
  exact ⟨rfl, by show -(24 : Int) ≤ 0; decide, by show (0 : Int) ≤ 24; decide⟩
theorem b_turn {n i : Nat} {nt : Nat → Vec} {Q : Int32 → Mem → Prop} (hO : pOk P) (hS : scI Z P F n nt) (hi : i < n)
    (h0 : farM n nt i n = true → ∀ F', frB (P 33 8) F F' → Q 0 (BB X Z V P F' L g))
    (h1 : farM n nt i n = false → ∀ F', frB (P 33 8) F F' → (∀ t, t < n → has6 (F' (P (P 33 8 + 1) t)) (stV n nt t i) 24) → Q 1 (BB X (va_up Z (nlZ (P 33 8)) (nI n)) V (va_up P 33 (va_up (va_up (P 33) 7 (P 33 8)) 8 (P 33 7))) F' L g)) : CallI X 3 yX6_turn [rf X 33, .int (nI i)] (BB X Z V P F L g) Q := by
  obtain ⟨n1, n2, n3⟩ := hO.2.2.2.1
  have hP8 := hO.at n2
  have hP7 := hO.at n1
  have ho := hS.1
  have hz := hS.2.2.1
  have hn := hS.2.2.2.1
  have hbd := hS.bd
  have hor := nlO_rng (P 33 8)
  have hoo := nlO_ne n1 n2 n3
  have mvF : ∀ {F'}, frB (P 33 8) F F' → scI Z P F' n nt := fun hf => by
    obtain ⟨s1, s2, s3, s4, s5, s6⟩ := hS
    refine ⟨s1, s2, s3, s4, fun t ht => ?_, by rw [hf 34 (by unfold scB; omega)]; exact s6⟩
    have := s2.1 t (by omega)
    have := nlO_rng (P 33 7)
    rw [hf _ (by unfold scB; omega)]
    exact s5 t ht
  refine CallM_intro (own := RX6) [some (rf X 33), some (.int (nI i)), none] wX6_turn (by decide) (by decide) rfl (Nat.le_of_ble_eq_true rfl) rfl (fun K hK hR => ?_)
  refine q_iconst (v := nI 0) hK dX6_turn_0 (by decide) ?_
  refine q_istore_n hK 2 dX6_turn_1 rfl (by decide) ?_
  have loop : ∀ e m F', m + e = n → farM n nt i m = false → frB (P 33 8) F F' → (∀ t, t < m → has6 (F' (P (P 33 8 + 1) t)) (stV n nt t i) 24) → K (BB X Z V P F' L g) 2 [some (rf X 33), some (.int (nI i)), some (.int (nI m))] [] := by
    intro e
    induction e with
    | zero =>
      intro m F' hm hfar hf hrow
      have : m = n := by omega
      subst this
      refine q_iload_n hK 2 dX6_turn_2 rfl rfl ?_
      refine q_aload_n hK 0 dX6_turn_3 rfl rfl ?_
      refine q_getf hK dX6_turn_4 fX6_39 (by decide) rfl rfl ?_
      refine q_getf hK dX6_turn_7 fX6_46 (nl_lt n1) (BB_nl n1) rfl ?_
      rw [hz]
      refine q_icmp_ge hK 53 dX6_turn_10 (by decide) (fun c10 => ?_) (fun c10 => ?_)
      rotate_left
      · exact absurd ((nI_leI (by omega) (by omega)).mpr (Nat.le_refl _)) c10
      refine q_aload_n hK 0 dX6_turn_53 rfl rfl ?_
      refine q_getf hK dX6_turn_54 fX6_43 (by decide) rfl rfl ?_
      refine q_aload_n hK 0 dX6_turn_57 rfl rfl ?_
      refine q_getf hK dX6_turn_58 fX6_39 (by decide) rfl rfl ?_
      refine q_getf hK dX6_turn_61 fX6_46 (nl_lt n1) (BB_nl n1) rfl ?_
      rw [hz]
      refine qb_putLc n2 hK dX6_turn_64 pX6_46 ?_
      refine q_aload_n hK 0 dX6_turn_67 rfl rfl ?_
      refine q_cVv0 hK dX6_turn_68 lX6_81 (by decide) (by decide) rfl (Nat.le_of_ble_eq_true rfl) (b_takeComing ?_)
      have := h1 hfar F' hf hrow
      refine q_iconst (v := nI 1) hK dX6_turn_71 (by decide) ?_
      exact q_iret hR dX6_turn_72 rfl ⟨_, rfl, this⟩
    | succ e ih =>
      intro m F' hm hfar hf hrow
      have hmr := hP8.1 m (by omega)
      have hir := hP7.1 i (by omega)
      refine q_iload_n hK 2 dX6_turn_2 rfl rfl ?_
      refine q_aload_n hK 0 dX6_turn_3 rfl rfl ?_
      refine q_getf hK dX6_turn_4 fX6_39 (by decide) rfl rfl ?_
      refine q_getf hK dX6_turn_7 fX6_46 (nl_lt n1) (BB_nl n1) rfl ?_
      rw [hz]
      refine q_icmp_ge hK 53 dX6_turn_10 (by decide) (fun c10 => ?_) (fun c10 => ?_)
      · have := (nI_leI (by omega) (by omega)).mp c10
        omega
      refine q_aload_n hK 0 dX6_turn_13 rfl rfl ?_
      refine q_iload_n hK 1 dX6_turn_14 rfl rfl ?_
      refine q_iload_n hK 2 dX6_turn_15 rfl rfl ?_
      refine q_aload_n hK 0 dX6_turn_16 rfl rfl ?_
      refine q_getf hK dX6_turn_17 fX6_43 (by decide) rfl rfl ?_
      refine q_getf hK dX6_turn_20 fX6_84 (nl_lt n2) (BB_nl n2) rfl ?_
      refine q_iload_n hK 2 dX6_turn_23 rfl rfl ?_
      refine qb_aaldN hK dX6_turn_24 n2 (k := m) rfl (by omega) ?_
      refine q_cVv3 hK dX6_turn_25 lX6_87 (by decide) (by decide) rfl (Nat.le_of_ble_eq_true rfl) (b_readStep (mvF hf) (hP8.R (by omega)) hi (by omega) (by omega) (fun f hff => ?_))
      have hX : hasX (va_up F' (P (P 33 8 + 1) m) f (P (P 33 8 + 1) m)) (stV n nt m i) := fun k hk => by
        have := stV_bd (k := m) hn.1 (by omega) hi hbd hk
        rw [up_same, hff k hk]
        exact ⟨rfl, by omega, by omega⟩
      have hf' : frB (P 33 8) F (va_up F' (P (P 33 8 + 1) m) f) := hf.up (by unfold scB; omega)
      refine q_aload_n hK 0 dX6_turn_28 rfl rfl ?_
      refine q_getf hK dX6_turn_29 fX6_43 (by decide) rfl rfl ?_
      refine q_getf hK dX6_turn_32 fX6_84 (nl_lt n2) (BB_nl n2) rfl ?_
      refine q_iload_n hK 2 dX6_turn_35 rfl rfl ?_
      refine qb_aaldN hK dX6_turn_36 n2 (k := m) rfl (by omega) ?_
      refine q_bipush (v := nI 24) hK dX6_turn_37 (by decide) ?_
      refine q_cSi2 hK dX6_turn_39 lX6_91 (by decide) (Nat.le_of_ble_eq_true rfl) (b_isWithin (t := 24) (hP8.R (by omega)) ?_)
      rw [farN_V (by decide) hX]
      refine q_if_ne hK 47 dX6_turn_42 (by decide) (fun c42 => ?_) (fun c42 => ?_)
      · have hnf : farV 24 (stV n nt m i) = false := by simpa using (b2i_ne0 _).mp c42
        have hnn := farV_false.mp hnf
        refine q_inc1 hK dX6_turn_47 rfl (by decide) ?_
        refine q_goto hK 2 dX6_turn_50 (by decide) ?_
        refine ih (m + 1) _ (by omega) (by simp [farM, hfar, hnf]) hf' (fun t ht => ?_)
        by_cases e1 : t = m
        · rw [e1]
          exact fun k hk => ⟨(hX k hk).1, (hnn k hk).1, (hnn k hk).2⟩
        · intro k hk
          rw [up_ne (fun z => e1 (hP8.2 t m (by omega) (by omega) z))]
          exact hrow t (by omega) k hk
      · have hnf : farV 24 (stV n nt m i) = true := by simpa using (b2i_eq0 _).mp c42
        have := h0 (farM_true hnf (by omega)) _ hf'
        refine q_iconst (v := nI 0) hK dX6_turn_45 (by decide) ?_
        exact q_iret hR dX6_turn_46 rfl ⟨_, rfl, this⟩
  exact loop n 0 F (by omega) rfl frB.rf (fun t ht => absurd ht (Nat.not_lt_zero t))
end BV
