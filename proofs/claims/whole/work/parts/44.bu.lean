-- ===== order, follows, lay, mode, in the class
theorem stN_congr {a b : Vec} {n : Nat} : ∀ {t : Nat}, (∀ k, k < t → a k = b k) → stN a n t = stN b n t
  | 0, _ => rfl
  | t + 1, h => by
    unfold stN
    rw [stN_congr (t := t) (fun k hk => h k (by omega)), h t (by omega)]
theorem wf_srt {n : Nat} {R : Nat → Vec} (h : wfS n R) : srt n R := by
  intro i j hij hj
  obtain ⟨-, w⟩ := h (by omega)
  induction j with
  | zero => omega
  | succ j ih =>
    have h1 := w j (by omega)
    by_cases e : i = j
    · rw [e]; exact h1
    · exact sgn_tr (ih (by omega) (by omega)) h1
theorem nlP_ins {P : Nat → Nat → Nat} {n a c : Nat} (h : nlP P n) (hac : a ≤ c) (hc : c < 24) : nlP (va_up P (n + 1) (insP (P (n + 1)) a c)) n := by
  have key : ∀ i, i < 24 → ∃ j, j < 24 ∧ insP (P (n + 1)) a c i = P (n + 1) j ∧ j = (if i < a then i else if i = a then c else if i ≤ c then i - 1 else i) := by
    intro i hi
    unfold insP
    by_cases e1 : i < a
    · exact ⟨i, hi, by rw [if_pos e1], by rw [if_pos e1]⟩
    · by_cases e2 : i = a
      · exact ⟨c, hc, by rw [if_neg e1, if_pos e2], by rw [if_neg e1, if_pos e2]⟩
      · by_cases e3 : i ≤ c
        · exact ⟨i - 1, by omega, by rw [if_neg e1, if_neg e2, if_pos e3], by rw [if_neg e1, if_neg e2, if_pos e3]⟩
        · exact ⟨i, hi, by rw [if_neg e1, if_neg e2, if_neg e3], by rw [if_neg e1, if_neg e2, if_neg e3]⟩
  unfold nlP
  rw [up_same]
  refine ⟨fun k hk => ?_, fun i j hi hj he => ?_⟩
  · obtain ⟨q, q1, q2, -⟩ := key k hk
    rw [q2]
    exact h.1 q q1
  · obtain ⟨q, q1, q2, q3⟩ := key i hi
    obtain ⟨w, w1, w2, w3⟩ := key j hj
    rw [q2, w2] at he
    have := h.2 q w q1 w1 he
    subst this
    rw [q3] at w3
    clear q2 w2 he
    (repeat' split at w3) <;> omega
theorem plcv_j {R : Nat → Vec} {e : Vec} {m j : Nat} (hq : ¬ plcv R e m < 0) (hj : j ≤ m) (h1 : ∀ i, i < j → sgn (fun k => R i k - e k) < 0) (h2 : ∀ i, j ≤ i → i < m → 0 ≤ sgn (fun k => R i k - e k)) : plcv R e m = (j : Int) := by
  unfold plcv at hq ⊢
  rcases plc_range (R := R) (e := e) (f := m) (i := 0) with ⟨a1, -⟩ | ⟨a, a2, a3, a4, a5, a6⟩
  · exact absurd a1 hq
  · rw [a4]
    have : a = j := by
      rcases Nat.lt_trichotomy a j with q | q | q
      · have := h1 a q
        have := sgn_flip (a6 (by omega))
        omega
      · exact q
      · have := sgn_flip' (a5 j (Nat.zero_le _) q)
        have := h2 j (Nat.le_refl _) (by omega)
        omega
    rw [this]
theorem layS_none {p b : Vec} {m : Nat} (h : layS p b m = none) : ∀ t, layS p b (m + t) = none
  | 0 => h
  | t + 1 => by
    rw [show m + (t + 1) = (m + t) + 1 by omega, layS, layS_none h t]
/-- scratch: what no answer rests on -/
def scB (c j : Nat) : Prop := j = 22 ∨ j = 26 ∨ j = 28 ∨ j = 29 ∨ (35 ≤ j ∧ j ≤ 37) ∨ j = 39 ∨ (45 ≤ j ∧ j ≤ 47) ∨ (75 ≤ j ∧ j ≤ 98) ∨ (nlO c ≤ j ∧ j < nlO c + 24)
def frB (c : Nat) (F F' : Nat → Nat → Int32) : Prop := ∀ j, ¬ scB c j → F' j = F j
theorem frB.rf {c : Nat} {F : Nat → Nat → Int32} : frB c F F := fun _ _ => rfl
theorem frB.tr {c : Nat} {F F' F'' : Nat → Nat → Int32} (h : frB c F F') (h2 : frB c F' F'') : frB c F F'' := fun j hj => (h2 j hj).trans (h j hj)
theorem frB.up {c : Nat} {F F' : Nat → Nat → Int32} {k : Nat} {v : Nat → Int32} (h : frB c F F') (hk : scB c k) : frB c F (va_up F' k v) := fun j hj => by
  rw [up_ne (fun z => hj (by rw [z]; exact hk))]
  exact h j hj
theorem frB_S {c : Nat} {F F' : Nat → Nat → Int32} (h : frS F F') : frB c F F' := fun j hj => h j (fun z => hj (by unfold scB; unfold scS at z; omega))
theorem frB_e {c : Nat} {S : List Nat} {F F' : Nat → Nat → Int32} (h : eqo S F F') (hs : ∀ j ∈ S, scB c j) : frB c F F' := fun j hj => h j (fun z => hj (hs j z))
section BU
variable {X : Cx} {Z : Nat → Int32} {V : Nat → Int64} {P : Nat → Nat → Nat} {F : Nat → Nat → Int32} {L : Nat → Nat → Int64} {g : Mem}
theorem b_isOrderly {n : Nat} {nt : Nat → Vec} {st : Bool} {Q : Int32 → Mem → Prop} (hS : scI Z P F n nt) (hK8 : kPo P) (h : ∀ Z' V' F', eqo [2, 3] Z Z' → frS F F' → Q (b2i (prop st n nt)) (BB X Z' V' P F' L g)) : CallI X 5 yX6_isOrderly [rf X 33, .int (b2i st)] (BB X Z V P F L g) Q := by
  have ho := hS.1
  have hn := hS.2.2.2.1
  have hbd := hS.bd
  have nz : nlZ (P 33 7) ∉ [2, 3] := by unfold nlZ; split <;> decide
  refine CallM_intro (own := RX6) [some (rf X 33), some (.int (b2i st)), none, none, none] wX6_isOrderly (by decide) (by decide) rfl (Nat.le_of_ble_eq_true rfl) rfl (fun K hK hR => ?_)
  refine q_iconst (v := nI 1) hK dX6_isOrderly_0 (by decide) ?_
  refine q_istore_n hK 2 dX6_isOrderly_1 rfl (by decide) ?_
  have body : ∀ k v3 v4 Z' V' F', 1 ≤ k → k ≤ n → eqo [2, 3] Z Z' → frS F F' → (2 ≤ k → ∀ j, j < 6 → F' 37 j = jI ((kS n nt (k - 1) n).2.1 ((kS n nt (k - 1) n).1 - 1) j)) → (2 ≤ k → (0 < hlS n nt (k - 1) ∨ (st = true ∧ hlS n nt (k - 1) = 0)) → prop st n nt = false) → (∀ v3 v4 Z' V' F', (2 ≤ k → ¬ (0 < hlS n nt (k - 1) ∨ (st = true ∧ hlS n nt (k - 1) = 0))) → eqo [2, 3] Z Z' → frS F F' → (∀ j, j < 6 → F' 37 j = jI ((kS n nt k n).2.1 ((kS n nt k n).1 - 1) j)) → K (BB X Z' V' P F' L g) 2 [some (rf X 33), some (.int (b2i st)), some (.int (nI (k + 1))), v3, v4] []) → K (BB X Z' V' P F' L g) 2 [some (rf X 33), some (.int (b2i st)), some (.int (nI k)), v3, v4] [] := by
    intro k v3 v4 Z' V' F' hk1 hkn z1 z2 h37 hbad hnext
    have hS' := hS.fr z1 z2
    have hz := hS'.2.2.1
    have hle := kS_le n nt k n
    have hps := kS_pos n nt k n hn.1
    have hsr := kS_srt n nt k n
    have hkb := kS_bd hn.1 hkn hbd n (Nat.le_refl _)
    refine q_iload_n hK 2 dX6_isOrderly_2 rfl rfl ?_
    refine q_aload_n hK 0 dX6_isOrderly_3 rfl rfl ?_
    refine q_getf hK dX6_isOrderly_4 fX6_39 (by decide) rfl rfl ?_
    refine q_getf hK dX6_isOrderly_7 fX6_46 (nl_lt ho) (BB_nl ho) rfl ?_
    rw [hz]
    refine q_icmp_gt hK 58 dX6_isOrderly_10 (by decide) (fun c10 => ?_) (fun c10 => ?_)
    · have := (nI_ltI (by omega) (by omega)).mp c10
      omega
    refine q_aload_n hK 0 dX6_isOrderly_13 rfl rfl ?_
    refine q_iload_n hK 2 dX6_isOrderly_14 rfl rfl ?_
    refine q_cVi1 hK dX6_isOrderly_15 lX6_111 (by decide) (by decide) rfl (Nat.le_of_ble_eq_true rfl) (b_gather hS' hK8 hkn (fun F2 π ρ y1 y2 => ?_))
    have f37 : F2 37 = F' 37 := y1 37 (by decide) (by decide) (by decide)
    have z3 : frS F F2 := z2.tr (frS_g y1)
    refine q_istore_n hK 3 dX6_isOrderly_18 rfl (by decide) ?_
    refine q_iload_n hK 1 dX6_isOrderly_19 rfl rfl ?_
    have s2 : ∀ Z' V' F2, (2 ≤ k → ¬ (0 < hlS n nt (k - 1) ∨ (st = true ∧ hlS n nt (k - 1) = 0))) → eqo [2, 3] Z Z' → frS F F2 → kH P F2 (kS n nt k n) π ρ → K (BB X Z' V' P F2 L g) 47 [some (rf X 33), some (.int (b2i st)), some (.int (nI k)), some (.int (nI (kS n nt k n).1)), some (.int (nI (if st then 1 else 0)))] [] := by
      intro Z' V' F2 hg z1 z3 y2
      refine q_aload_n hK 0 dX6_isOrderly_47 rfl rfl ?_
      refine q_iload_n hK 3 dX6_isOrderly_48 rfl rfl ?_
      refine q_cVv1 hK dX6_isOrderly_49 lX6_119 (by decide) (by decide) rfl (Nat.le_of_ble_eq_true rfl) (b_findHighest hK8 y2 (by omega) hps hsr hkb (fun Z4 V4 F4 x1 x2 x3 => ?_))
      refine q_inc1 hK dX6_isOrderly_52 rfl (by decide) ?_
      refine q_goto hK 2 dX6_isOrderly_55 (by decide) ?_
      refine hnext _ _ Z4 V4 F4 hg (z1.tr x2) (fun j hj => ?_) x1
      rw [x3 j (by unfold scS at hj; simp; omega)]
      exact z3 j hj
    have s1 : K (BB X Z' V' P F2 L g) 28 [some (rf X 33), some (.int (b2i st)), some (.int (nI k)), some (.int (nI (kS n nt k n).1)), v4] [.int (nI (if st then 1 else 0))] := by
      refine q_istore hK dX6_isOrderly_28 (by decide) ?_
      refine q_iload_n hK 2 dX6_isOrderly_30 rfl rfl ?_
      refine q_iconst (v := nI 1) hK dX6_isOrderly_31 (by decide) ?_
      refine q_icmp_le hK 47 dX6_isOrderly_32 (by decide) (fun c32 => ?_) (fun c32 => ?_)
      · have := (nI_leI (by omega) (by decide)).mp c32
        exact s2 Z' V' F2 (fun z => by omega) z1 z3 y2
      have hk2 := mt (nI_leI (a := k) (b := 1) (by omega) (by decide)).mpr c32
      refine q_aload_n hK 0 dX6_isOrderly_35 rfl rfl ?_
      refine q_iload_n hK 3 dX6_isOrderly_36 rfl rfl ?_
      refine q_iload hK dX6_isOrderly_37 rfl ?_
      have hle' := kS_le n nt (k - 1) n
      have hps' := kS_pos n nt (k - 1) n hn.1
      have hhb : ∀ j, j < 6 → F2 37 j = jI ((kS n nt (k - 1) n).2.1 ((kS n nt (k - 1) n).1 - 1) j) ∧ -100 ≤ (kS n nt (k - 1) n).2.1 ((kS n nt (k - 1) n).1 - 1) j ∧ (kS n nt (k - 1) n).2.1 ((kS n nt (k - 1) n).1 - 1) j ≤ 100 := fun j hj => ⟨by rw [f37]; exact h37 (by omega) j hj, kS_bd hn.1 (by omega) hbd n (Nat.le_refl _) _ (by omega) j hj⟩
      refine q_cVi2 hK dX6_isOrderly_39 lX6_115 (by decide) (by decide) rfl (Nat.le_of_ble_eq_true rfl) (b_allReach hK8 y2 (by omega) hkb hhb (by split <;> decide) (fun r Z4 V4 F4 x1 x2 x3 => ?_))
      have hhl : hlS n nt (k - 1) = -sgn (fun j => (kS n nt k n).2.1 0 j - (kS n nt (k - 1) n).2.1 ((kS n nt (k - 1) n).1 - 1) j) := by
        unfold hlS
        rw [show k - 1 + 1 = k by omega, ← sgn_opp]
        exact sgn_congr (fun j _ => by omega)
      have hall : r = true ↔ (((if st then 1 else 0 : Nat)) : Int) ≤ sgn (fun j => (kS n nt k n).2.1 0 j - (kS n nt (k - 1) n).2.1 ((kS n nt (k - 1) n).1 - 1) j) := by
        rw [x1]
        constructor
        · intro z
          exact z 0 (by omega)
        · intro z t ht
          by_cases e : t = 0
          · rw [e]; exact z
          · have h1 := hsr 0 t (by omega) ht
            have h2 := sgn_add (a := fun j => (kS n nt k n).2.1 0 j - (kS n nt (k - 1) n).2.1 ((kS n nt (k - 1) n).1 - 1) j) (b := fun j => (kS n nt k n).2.1 t j - (kS n nt k n).2.1 0 j) (by split at z <;> omega) h1
            rw [sgn_congr (b := fun j => (kS n nt k n).2.1 t j - (kS n nt (k - 1) n).2.1 ((kS n nt (k - 1) n).1 - 1) j) (fun j _ => by omega)] at h2
            split <;> omega
      have sr := sgn_range (fun j => (kS n nt k n).2.1 0 j - (kS n nt (k - 1) n).2.1 ((kS n nt (k - 1) n).1 - 1) j)
      refine q_if_ne hK 47 dX6_isOrderly_42 (by decide) (fun c42 => ?_) (fun c42 => ?_)
      · have hr := (b2i_ne0 _).mp c42
        refine s2 Z4 V4 F4 (fun _ => ?_) (z1.tr x2) (z3.tr (frS_e x3)) ⟨y2.1, fun q hq => ?_⟩
        · have := hall.mp hr
          cases st
          · simp at this ⊢
            omega
          · simp at this ⊢
            omega
        · have hqr := hK8.1 q (by omega)
          rw [x3 (P 38 q) (by simp; omega), x3 39 (by decide)]
          exact y2.2 q hq
      · have hr := (b2i_eq0 _).mp c42
        have hnr : ¬ (((if st then 1 else 0 : Nat)) : Int) ≤ sgn (fun j => (kS n nt k n).2.1 0 j - (kS n nt (k - 1) n).2.1 ((kS n nt (k - 1) n).1 - 1) j) := fun z => by rw [hall.mpr z] at hr; cases hr
        have hpr := hbad (by omega) (by
          cases st
          · simp at hnr ⊢
            omega
          · simp at hnr ⊢
            omega)
        have hh := h Z4 V4 F4 (z1.tr x2) (z3.tr (frS_e x3))
        rw [hpr] at hh
        refine q_iconst (v := nI 0) hK dX6_isOrderly_45 (by decide) ?_
        exact q_iret hR dX6_isOrderly_46 rfl ⟨_, rfl, hh⟩
    cases st with
    | true =>
      refine q_if_eq hK 27 dX6_isOrderly_20 (by decide) (fun c20 => ?_) (fun c20 => ?_)
      · exact absurd c20 (by decide)
      refine q_iconst (v := nI 1) hK dX6_isOrderly_23 (by decide) ?_
      refine q_goto hK 28 dX6_isOrderly_24 (by decide) ?_
      exact s1
    | false =>
      refine q_if_eq hK 27 dX6_isOrderly_20 (by decide) (fun c20 => ?_) (fun c20 => ?_)
      rotate_left
      · exact absurd rfl c20
      refine q_iconst (v := nI 0) hK dX6_isOrderly_27 (by decide) ?_
      exact s1
  have loop : ∀ f k v3 v4 Z' V' F', k + f = n + 1 → 2 ≤ k → prop st n nt = propF st n nt f (k - 1) → eqo [2, 3] Z Z' → frS F F' → (∀ j, j < 6 → F' 37 j = jI ((kS n nt (k - 1) n).2.1 ((kS n nt (k - 1) n).1 - 1) j)) → K (BB X Z' V' P F' L g) 2 [some (rf X 33), some (.int (b2i st)), some (.int (nI k)), v3, v4] [] := by
    intro f
    induction f with
    | zero =>
      intro k v3 v4 Z' V' F' hk hk2 hp z1 z2 h37
      have hz := (hS.fr z1 z2).2.2.1
      have hh := h Z' V' F' z1 z2
      rw [hp] at hh
      refine q_iload_n hK 2 dX6_isOrderly_2 rfl rfl ?_
      refine q_aload_n hK 0 dX6_isOrderly_3 rfl rfl ?_
      refine q_getf hK dX6_isOrderly_4 fX6_39 (by decide) rfl rfl ?_
      refine q_getf hK dX6_isOrderly_7 fX6_46 (nl_lt ho) (BB_nl ho) rfl ?_
      rw [hz]
      refine q_icmp_gt hK 58 dX6_isOrderly_10 (by decide) (fun c10 => ?_) (fun c10 => ?_)
      rotate_left
      · exact absurd ((nI_ltI (by omega) (by omega)).mpr (by omega)) c10
      refine q_iconst (v := nI 1) hK dX6_isOrderly_58 (by decide) ?_
      exact q_iret hR dX6_isOrderly_59 rfl ⟨_, rfl, hh⟩
    | succ f ih =>
      intro k v3 v4 Z' V' F' hk hk2 hp z1 z2 h37
      unfold propF at hp
      refine body k v3 v4 Z' V' F' (by omega) (by omega) z1 z2 (fun _ => h37) (fun _ hb => ?_) (fun v3 v4 Z' V' F' hg z1 z2 h37 => ?_)
      · rw [if_pos hb] at hp
        exact hp
      · rw [if_neg (hg hk2), show k - 1 + 1 = k by omega] at hp
        exact ih (k + 1) v3 v4 Z' V' F' (by omega) (by omega) (by rw [Nat.add_sub_cancel]; exact hp) z1 z2 (by rw [Nat.add_sub_cancel]; exact h37)
  refine body 1 none none Z V F (Nat.le_refl _) hn.1 eqo.rf frS.rf (fun z => by omega) (fun z => by omega) (fun v3 v4 Z' V' F' _ z1 z2 h37 => ?_)
  exact loop (n - 1) 2 v3 v4 Z' V' F' (by omega) (Nat.le_refl _) rfl z1 z2 h37
theorem b_agreesWith {n d : Nat} {nt : Nat → Vec} {Q : Int32 → Mem → Prop} (hS : scI Z P F n nt) (hw : wfS n nt) (hd1 : 1 ≤ d) (hd : d ≤ 99) (h : ∀ F', frS F F' → Q (b2i (folF n nt d (n + 1) 0)) (BB X Z V P F' L g)) : CallI X 3 yX6_agreesWith [rf X 33, .int (nI d)] (BB X Z V P F L g) Q := by
  have ho := hS.1
  have hz := hS.2.2.1
  have hn := hS.2.2.2.1
  have hbd := hS.bd
  obtain ⟨w1, -⟩ := hw (by omega)
  have hnA : ∀ i, i ≤ n → ∀ k, k < 6 → ntA n nt i k = nt i k := by
    intro i hi k hk
    by_cases e : i = n
    · unfold ntA
      rw [e, Nat.mod_self, Nat.div_self (by omega), w1 k hk]
      simp
    · exact ntA_lt (by omega) k
  refine CallM_intro (own := RX6) [some (rf X 33), some (.int (nI d)), none] wX6_agreesWith (by decide) (by decide) rfl (Nat.le_of_ble_eq_true rfl) rfl (fun K hK hR => ?_)
  refine q_iconst (v := nI 0) hK dX6_agreesWith_0 (by decide) ?_
  refine q_istore_n hK 2 dX6_agreesWith_1 rfl (by decide) ?_
  generalize hres : folF n nt d (n + 1) 0 = res at h
  have loop : ∀ f i F', i + f = n + 1 → folF n nt d f i = res → frS F F' → K (BB X Z V P F' L g) 2 [some (rf X 33), some (.int (nI d)), some (.int (nI i))] [] := by
    intro f
    induction f with
    | zero =>
      intro i F' hi hr z2
      have hh := h F' z2
      rw [← hr] at hh
      refine q_iload_n hK 2 dX6_agreesWith_2 rfl rfl ?_
      refine q_aload_n hK 0 dX6_agreesWith_3 rfl rfl ?_
      refine q_getf hK dX6_agreesWith_4 fX6_39 (by decide) rfl rfl ?_
      refine q_getf hK dX6_agreesWith_7 fX6_46 (nl_lt ho) (BB_nl ho) rfl ?_
      rw [hz]
      refine q_icmp_gt hK 42 dX6_agreesWith_10 (by decide) (fun c10 => ?_) (fun c10 => ?_)
      rotate_left
      · exact absurd ((nI_ltI (by omega) (by omega)).mpr (by omega)) c10
      refine q_iconst (v := nI 1) hK dX6_agreesWith_42 (by decide) ?_
      exact q_iret hR dX6_agreesWith_43 rfl ⟨_, rfl, hh⟩
    | succ f ih =>
      intro i F' hi hr z2
      unfold folF at hr
      refine q_iload_n hK 2 dX6_agreesWith_2 rfl rfl ?_
      refine q_aload_n hK 0 dX6_agreesWith_3 rfl rfl ?_
      refine q_getf hK dX6_agreesWith_4 fX6_39 (by decide) rfl rfl ?_
      refine q_getf hK dX6_agreesWith_7 fX6_46 (nl_lt ho) (BB_nl ho) rfl ?_
      rw [hz]
      refine q_icmp_gt hK 42 dX6_agreesWith_10 (by decide) (fun c10 => ?_) (fun c10 => ?_)
      · have := (nI_ltI (by omega) (by omega)).mp c10
        omega
      refine q_aload_n hK 0 dX6_agreesWith_13 rfl rfl ?_
      refine q_iload_n hK 2 dX6_agreesWith_14 rfl rfl ?_
      refine q_aload_n hK 0 dX6_agreesWith_15 rfl rfl ?_
      refine q_getf hK dX6_agreesWith_16 fX6_19 (by decide) rfl rfl ?_
      refine q_cVv2 hK dX6_agreesWith_19 lX6_95 (by decide) (by decide) rfl (Nat.le_of_ble_eq_true rfl) (b_readNote (hS.fr eqo.rf z2) (t := 35) rfl (by omega) (fun f35 hf35 => ?_))
      have z3 : frS F (va_up F' 35 f35) := z2.up (by unfold scS; omega)
      have he : ∀ k, k < 6 → va_up F' 35 f35 35 k = jI (nt i k) ∧ -1000000 ≤ nt i k ∧ nt i k ≤ 1000000 := fun k hk => by
        have := hbd i (by omega) k hk
        rw [up_same, hf35 k hk, hnA i (by omega) k hk]
        exact ⟨rfl, by omega, by omega⟩
      have hb6 := stN_bd hd1 hd (hbd i (by omega)) 6 (Nat.le_refl 6)
      refine q_aload_n hK 0 dX6_agreesWith_22 rfl rfl ?_
      refine q_getf hK dX6_agreesWith_23 fX6_19 (by decide) rfl rfl ?_
      refine q_iload_n hK 1 dX6_agreesWith_26 rfl rfl ?_
      refine q_cSi2 hK dX6_agreesWith_27 lX6_123 (by decide) (Nat.le_of_ble_eq_true rfl) (b_stepsOf (a := 35) (e := nt i) rfl he hd ?_)
      refine q_iload_n hK 2 dX6_agreesWith_30 rfl rfl ?_
      rw [jI_nat i]
      refine q_icmp_eq hK 36 dX6_agreesWith_31 (by decide) (fun c31 => ?_) (fun c31 => ?_)
      · have q := (jI_eq (by omega) (by omega) (by omega) (by omega)).mp c31
        rw [if_pos q] at hr
        refine q_iinc hK dX6_agreesWith_36 rfl (show _ = nI (i + 1) by rw [← jI_nat]; exact nI_1 i) (by decide) ?_
        refine q_goto hK 2 dX6_agreesWith_39 (by decide) ?_
        exact ih (i + 1) _ (by omega) hr z3
      · have q : ¬ stN (nt i) d 6 = (i : Int) := fun z => c31 (by rw [z])
        rw [if_neg q] at hr
        have hh := h _ z3
        rw [← hr] at hh
        refine q_iconst (v := nI 0) hK dX6_agreesWith_34 (by decide) ?_
        exact q_iret hR dX6_agreesWith_35 rfl ⟨_, rfl, hh⟩
  exact loop (n + 1) 0 F (by omega) hres frS.rf
theorem b_takeComing {Q : Mem → Prop} (h : Q (BB X Z V (va_up P 33 (va_up (va_up (P 33) 7 (P 33 8)) 8 (P 33 7))) F L g)) : CallV X 0 yX6_takeComing [rf X 33] (BB X Z V P F L g) Q := by
  refine CallM_intro (own := RX6) [some (rf X 33), none] wX6_takeComing (by decide) (by decide) rfl (Nat.le_of_ble_eq_true rfl) rfl (fun K hK hR => ?_)
  refine q_aload_n hK 0 dX6_takeComing_0 rfl rfl ?_
  refine q_getf hK dX6_takeComing_1 fX6_39 (by decide) rfl rfl ?_
  refine q_astore_n hK 1 dX6_takeComing_4 rfl (by decide) ?_
  refine q_aload_n hK 0 dX6_takeComing_5 rfl rfl ?_
  refine q_aload_n hK 0 dX6_takeComing_6 rfl rfl ?_
  refine q_getf hK dX6_takeComing_7 fX6_43 (by decide) rfl rfl ?_
  refine qb_put33_7 hK dX6_takeComing_10 pX6_39 ?_
  refine q_aload_n hK 0 dX6_takeComing_13 rfl rfl ?_
  refine q_aload_n hK 1 dX6_takeComing_14 rfl rfl ?_
  refine qb_put33_8 hK dX6_takeComing_15 pX6_43 ?_
  simp only [up_up, up_same]
  exact q_vret hR dX6_takeComing_18 ⟨rfl, h⟩
end BU
