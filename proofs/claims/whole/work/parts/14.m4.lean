def zerN (f : Nat → Int32) : Nat → Bool
  | 0 => true
  | i + 1 => zerN f i && decide (f i = 0)
theorem zerN_all {f : Nat → Int32} : ∀ {n : Nat}, zerN f n = true ↔ ∀ k, k < n → f k = 0
  | 0 => by simp [zerN]
  | n + 1 => by
    simp only [zerN, Bool.and_eq_true, decide_eq_true_eq, zerN_all (n := n)]
    constructor
    · rintro ⟨h1, h2⟩ k hk
      by_cases e : k = n
      · rw [e]; exact h2
      · exact h1 k (by omega)
    · intro h
      exact ⟨fun k hk => h k (by omega), h n (by omega)⟩
theorem has6_zero {f : Nat → Int32} {e : Vec} {b : Nat} (h : has6 f e b) (hb : b < 2147483648) {k : Nat} (hk : k < 6) : f k = 0 ↔ e k = 0 := by
  obtain ⟨h1, h2, h3⟩ := h k hk
  rw [h1]
  exact jI_eq (b := 0) (by omega) (by omega) (by decide) (by decide)
section M4
variable {X : Cx} {Z : Nat → Int32} {F : Nat → Nat → Int32} {L : Nat → Int64} {g : Mem}
theorem m_sign {e : Vec} {Q : Int32 → Mem → Prop} (he : has6 (F 5) e 1000) (hf : fits130 e) (h : ∀ Z' F', eqo [5, 6] Z Z' → eqo [3, 4] F F' → Q (jI (sgn e)) (MM X Z' F' L g)) : CallI X 2 yX9_sign [rf X 0] (MM X Z F L g) Q := by
  refine CallM_intro (own := RX9) [some (rf X 0), none, none] wX9_sign (by decide) (by decide) rfl (Nat.le_of_ble_eq_true rfl) rfl (fun K hK hR => ?_)
  refine q_iconst (v := nI 1) hK dX9_sign_0 (by decide) ?_
  refine q_istore_n hK 1 dX9_sign_1 rfl (by decide) ?_
  refine q_iconst (v := nI 0) hK dX9_sign_2 (by decide) ?_
  refine q_istore_n hK 2 dX9_sign_3 rfl (by decide) ?_
  have loop : ∀ m i, i + m = 6 → K (MM X Z F L g) 4 [some (rf X 0), some (.int (b2i (zerN (F 5) i))), some (.int (nI i))] [] := by
    intro m
    induction m with
    | zero =>
      intro i hi
      have : i = 6 := by omega
      subst this
      refine q_iload_n hK 2 dX9_sign_4 rfl rfl ?_
      refine q_bipush (v := nI 6) hK dX9_sign_5 (by decide) ?_
      refine q_icmp_ge hK 35 dX9_sign_7 (by decide) (fun c7 => ?_) (fun c7 => ?_)
      · refine q_iload_n hK 1 dX9_sign_35 rfl rfl ?_
        refine q_if_eq hK 41 dX9_sign_36 (by decide) (fun c36 => ?_) (fun c36 => ?_)
        · have hne : ¬ zerN (F 5) 6 = true := by rw [(b2i_eq0 _).mp c36]; decide
          refine q_aload_n hK 0 dX9_sign_41 rfl rfl ?_
          refine q_cVv0 hK dX9_sign_42 lX9_86 (by decide) (by decide) rfl (Nat.le_of_ble_eq_true rfl) (m_products he hf (fun Z' F' hI => ?_))
          obtain ⟨i1, i2, am, bm, wa, wb, h3, h4, h5, h6, h7, h8, h9, h10⟩ := hI
          have hup : bv wa am = upP e := by rw [h9, PP_6]; simp [upP]
          have hlo : bv wb bm = loP e := by rw [h10, PP_6]; simp [loP]
          have ham : am ≤ 130 := nrm_room h5 (by rw [hup]; exact hf.1)
          have hbm : bm ≤ 130 := nrm_room h6 (by rw [hlo]; exact hf.2)
          refine q_aload_n hK 0 dX9_sign_45 rfl rfl ?_
          refine q_getf hK dX9_sign_46 fX9_72 (by decide) rfl rfl ?_
          refine q_aload_n hK 0 dX9_sign_49 rfl rfl ?_
          refine q_getf hK dX9_sign_50 fX9_75 (by decide) rfl rfl ?_
          rw [h3, h4]
          refine q_icmp_eq hK 73 dX9_sign_53 (by decide) (fun c53 => ?_) (fun c53 => ?_)
          · have hab : am = bm := (nI_eq (by omega) (by omega)).mp c53
            subst hab
            refine q_aload_n hK 0 dX9_sign_73 rfl rfl ?_
            refine q_getf hK dX9_sign_74 fX9_72 (by decide) rfl rfl ?_
            refine q_iconst (v := nI 1) hK dX9_sign_77 (by decide) ?_
            rw [h3]
            refine q_isub hK dX9_sign_78 ?_
            refine q_istore_n hK 2 dX9_sign_79 rfl (by decide) ?_
            have lp : ∀ m, m ≤ am → (∀ t, m ≤ t → t < am → wa t = wb t) → K (MM X Z' F' L g) 80 [some (rf X 0), some (.int (b2i (zerN (F 5) 6))), some (.int (jI ((m : Int) - 1)))] [] := by
              intro m
              induction m with
              | zero =>
                intro hm hq
                refine q_iload_n hK 2 dX9_sign_80 rfl rfl ?_
                refine q_if_lt hK 126 dX9_sign_81 (by decide) (fun c81 => ?_) (fun c81 => ?_)
                · refine q_iconst (v := nI 0) hK dX9_sign_126 (by decide) ?_
                  have : sgn e = 0 := by
                    have hv : upP e = loP e := by rw [← hup, ← hlo]; exact bv_congr (fun i hi => hq i (by omega) hi)
                    unfold sgn
                    rw [hv]
                    simp
                  have hh := h Z' F' i1 i2
                  rw [this] at hh
                  exact q_iret hR dX9_sign_127 rfl ⟨_, rfl, hh⟩
                · exact absurd (show jI (((0 : Nat) : Int) - 1) < 0 by decide) c81
              | succ m ih =>
                intro hm hq
                rw [show (((m + 1 : Nat) : Int) - 1) = (m : Int) by omega, ← jI_nat]
                refine q_iload_n hK 2 dX9_sign_80 rfl rfl ?_
                refine q_if_lt hK 126 dX9_sign_81 (by decide) (fun c81 => ?_) (fun c81 => ?_)
                · exact absurd c81 (nI_pos (by omega))
                · refine q_aload_n hK 0 dX9_sign_84 rfl rfl ?_
                  refine q_getf hK dX9_sign_85 fX9_17 (by decide) rfl rfl ?_
                  refine q_iload_n hK 2 dX9_sign_88 rfl rfl ?_
                  refine qm_iald hK dX9_sign_89 (n := 3) (k := m) rfl rfl (by show m < 130; omega) ?_
                  refine q_aload_n hK 0 dX9_sign_90 rfl rfl ?_
                  refine q_getf hK dX9_sign_91 fX9_20 (by decide) rfl rfl ?_
                  refine q_iload_n hK 2 dX9_sign_94 rfl rfl ?_
                  refine qm_iald hK dX9_sign_95 (n := 4) (k := m) rfl rfl (by show m < 130; omega) ?_
                  rw [h7 m (by omega), h8 m (by omega)]
                  have q1 := h5.2.1 m (by omega)
                  have q2 := h6.2.1 m (by omega)
                  have hB : bB = 1000000000 := rfl
                  refine q_icmp_eq hK 120 dX9_sign_96 (by decide) (fun c96 => ?_) (fun c96 => ?_)
                  · have hw : wa m = wb m := (nI_eq (by omega) (by omega)).mp c96
                    refine q_iinc hK dX9_sign_120 rfl (show _ = jI ((m : Int) - 1) by rw [jI_nat, jI_add]; rfl) (by decide) ?_
                    refine q_goto hK 80 dX9_sign_123 (by decide) ?_
                    refine ih (by omega) (fun t h1 h2 => ?_)
                    by_cases et : t = m
                    · rw [et]; exact hw
                    · exact hq t (by omega) h2
                  · have hw : wa m ≠ wb m := fun q => c96 (by rw [q])
                    refine q_aload_n hK 0 dX9_sign_99 rfl rfl ?_
                    refine q_getf hK dX9_sign_100 fX9_17 (by decide) rfl rfl ?_
                    refine q_iload_n hK 2 dX9_sign_103 rfl rfl ?_
                    refine qm_iald hK dX9_sign_104 (n := 3) (k := m) rfl rfl (by show m < 130; omega) ?_
                    refine q_aload_n hK 0 dX9_sign_105 rfl rfl ?_
                    refine q_getf hK dX9_sign_106 fX9_20 (by decide) rfl rfl ?_
                    refine q_iload_n hK 2 dX9_sign_109 rfl rfl ?_
                    refine qm_iald hK dX9_sign_110 (n := 4) (k := m) rfl rfl (by show m < 130; omega) ?_
                    rw [h7 m (by omega), h8 m (by omega)]
                    refine q_icmp_le hK 118 dX9_sign_111 (by decide) (fun c111 => ?_) (fun c111 => ?_)
                    · have hle := (nI_leI (by omega) (by omega)).mp c111
                      have hv : upP e < loP e := by
                        rw [← hup, ← hlo]
                        exact bv_top (k := m) (by omega) h5.2.1 (fun i a b => hq i (by omega) b) (by omega)
                      have hs : sgn e = -1 := by
                        have := sgn_neg.mpr hv
                        rcases sgn_range e with q | q | q <;> omega
                      have hh := h Z' F' i1 i2
                      rw [hs] at hh
                      refine q_iconst (v := jI (-1)) hK dX9_sign_118 (by decide) ?_
                      exact q_iret hR dX9_sign_119 rfl ⟨_, rfl, hh⟩
                    · have hle := mt (nI_leI (by omega) (by omega)).mpr c111
                      have hv : loP e < upP e := by
                        rw [← hup, ← hlo]
                        exact bv_top (k := m) (by omega) h6.2.1 (fun i a b => (hq i (by omega) b).symm) (by omega)
                      have hs : sgn e = 1 := by
                        have := sgn_pos.mpr hv
                        rcases sgn_range e with q | q | q <;> omega
                      have hh := h Z' F' i1 i2
                      rw [hs] at hh
                      refine q_iconst (v := nI 1) hK dX9_sign_114 (by decide) ?_
                      refine q_goto hK 119 dX9_sign_115 (by decide) ?_
                      exact q_iret hR dX9_sign_119 rfl ⟨_, rfl, hh⟩
            have hlp := lp am (Nat.le_refl am) (fun t a b => by omega)
            rw [show nI am - nI 1 = jI ((am : Int) - 1) by rw [jI_nat, jI_nat, jI_sub]; rfl]
            exact hlp
          · have hab : am ≠ bm := fun q => c53 (by rw [q])
            refine q_aload_n hK 0 dX9_sign_56 rfl rfl ?_
            refine q_getf hK dX9_sign_57 fX9_72 (by decide) rfl rfl ?_
            refine q_aload_n hK 0 dX9_sign_60 rfl rfl ?_
            refine q_getf hK dX9_sign_61 fX9_75 (by decide) rfl rfl ?_
            rw [h3, h4]
            refine q_icmp_le hK 71 dX9_sign_64 (by decide) (fun c64 => ?_) (fun c64 => ?_)
            · have hle := (nI_leI (by omega) (by omega)).mp c64
              have hv : upP e < loP e := by
                rw [← hup, ← hlo]
                exact nrm_len h5 h6 (by omega)
              have hs : sgn e = -1 := by
                have := sgn_neg.mpr hv
                rcases sgn_range e with q | q | q <;> omega
              have hh := h Z' F' i1 i2
              rw [hs] at hh
              refine q_iconst (v := jI (-1)) hK dX9_sign_71 (by decide) ?_
              exact q_iret hR dX9_sign_72 rfl ⟨_, rfl, hh⟩
            · have hle := mt (nI_leI (by omega) (by omega)).mpr c64
              have hv : loP e < upP e := by
                rw [← hup, ← hlo]
                exact nrm_len h6 h5 (by omega)
              have hs : sgn e = 1 := by
                have := sgn_pos.mpr hv
                rcases sgn_range e with q | q | q <;> omega
              have hh := h Z' F' i1 i2
              rw [hs] at hh
              refine q_iconst (v := nI 1) hK dX9_sign_67 (by decide) ?_
              refine q_goto hK 72 dX9_sign_68 (by decide) ?_
              exact q_iret hR dX9_sign_72 rfl ⟨_, rfl, hh⟩
        · have hz := zerN_all.mp ((b2i_ne0 _).mp c36)
          have hs : sgn e = 0 := sgn_one.mpr (fun k hk => (has6_zero he (by decide) hk).mp (hz k hk))
          have hh := h Z F eqo.rf eqo.rf
          rw [hs] at hh
          refine q_iconst (v := nI 0) hK dX9_sign_39 (by decide) ?_
          exact q_iret hR dX9_sign_40 rfl ⟨_, rfl, hh⟩
      · exact absurd ((nI_leI (by decide) (by decide)).mpr (by decide)) c7
    | succ m ih =>
      intro i hi
      have ih := ih (i + 1) (by omega)
      refine q_iload_n hK 2 dX9_sign_4 rfl rfl ?_
      refine q_bipush (v := nI 6) hK dX9_sign_5 (by decide) ?_
      refine q_icmp_ge hK 35 dX9_sign_7 (by decide) (fun c7 => ?_) (fun c7 => ?_)
      · have := (nI_leI (by decide) (by omega)).mp c7
        omega
      · refine q_iload_n hK 1 dX9_sign_10 rfl rfl ?_
        refine q_if_eq hK 27 dX9_sign_11 (by decide) (fun c11 => ?_) (fun c11 => ?_)
        · refine q_iconst (v := nI 0) hK dX9_sign_27 (by decide) ?_
          refine q_istore_n hK 1 dX9_sign_28 rfl (by decide) ?_
          refine q_inc1 hK dX9_sign_29 rfl (by decide) ?_
          refine q_goto hK 4 dX9_sign_32 (by decide) ?_
          rw [show zerN (F 5) (i + 1) = false by simp [zerN, (b2i_eq0 _).mp c11]] at ih
          exact ih
        · refine q_aload_n hK 0 dX9_sign_14 rfl rfl ?_
          refine q_getf hK dX9_sign_15 fX9_23 (by decide) rfl rfl ?_
          refine q_iload_n hK 2 dX9_sign_18 rfl rfl ?_
          refine qm_iald hK dX9_sign_19 (n := 5) (k := i) rfl rfl (by show i < 6; omega) ?_
          refine q_if_ne hK 27 dX9_sign_20 (by decide) (fun c20 => ?_) (fun c20 => ?_)
          · refine q_iconst (v := nI 0) hK dX9_sign_27 (by decide) ?_
            refine q_istore_n hK 1 dX9_sign_28 rfl (by decide) ?_
            refine q_inc1 hK dX9_sign_29 rfl (by decide) ?_
            refine q_goto hK 4 dX9_sign_32 (by decide) ?_
            rw [show zerN (F 5) (i + 1) = false by simp [zerN, c20]] at ih
            exact ih
          · refine q_iconst (v := nI 1) hK dX9_sign_23 (by decide) ?_
            refine q_goto hK 28 dX9_sign_24 (by decide) ?_
            refine q_istore_n hK 1 dX9_sign_28 rfl (by decide) ?_
            refine q_inc1 hK dX9_sign_29 rfl (by decide) ?_
            refine q_goto hK 4 dX9_sign_32 (by decide) ?_
            rw [show zerN (F 5) (i + 1) = true by simp [zerN, c20, (b2i_ne0 _).mp c11]] at ih
            exact ih
  exact loop 6 0 rfl
/-- six places of an array, from one on -/
def hasA (f : Nat → Int32) (a : Nat) (e : Vec) (b : Nat) : Prop := ∀ k, k < 6 → f (a + k) = jI (e k) ∧ -(b : Int) ≤ e k ∧ e k ≤ b
theorem fits_of {e : Vec} (h : ∀ k, k < 6 → -200 ≤ e k ∧ e k ≤ 200) : fits130 e := by
  have b1 : P6 (fun _ => 200) < bB ^ 130 := by decide +kernel
  constructor
  · exact Nat.lt_of_le_of_lt (P6_mono (fun k hk => by have := h k hk; show (e k).toNat ≤ 200; omega)) b1
  · exact Nat.lt_of_le_of_lt (P6_mono (fun k hk => by have := h k hk; show (-e k).toNat ≤ 200; omega)) b1
theorem m_compare {n a n2 a2 : Nat} {e e2 : Vec} {Q : Int32 → Mem → Prop} (hn : mI n = true) (h5 : n ≠ 5) (ha : a + 6 ≤ mlen n) (hn2 : mI n2 = true) (h52 : n2 ≠ 5) (ha2 : a2 + 6 ≤ mlen n2) (he : hasA (F n) a e 100) (he2 : hasA (F n2) a2 e2 100) (h : ∀ Z' F', eqo [5, 6] Z Z' → eqo [3, 4, 5] F F' → Q (jI (sgn (fun k => e k - e2 k))) (MM X Z' F' L g)) : CallI X 3 yX9_compare [rf X 0, rf X n, .int (nI a), rf X n2, .int (nI a2)] (MM X Z F L g) Q := by
  refine CallM_intro (own := RX9) [some (rf X 0), some (rf X n), some (.int (nI a)), some (rf X n2), some (.int (nI a2))] wX9_compare (by decide) (by decide) rfl (Nat.le_of_ble_eq_true rfl) rfl (fun K hK hR => ?_)
  refine q_aload_n hK 0 dX9_compare_0 rfl rfl ?_
  refine q_aload_n hK 1 dX9_compare_1 rfl rfl ?_
  refine q_iload_n hK 2 dX9_compare_2 rfl rfl ?_
  refine q_cVv2 hK dX9_compare_3 lX9_89 (by decide) (by decide) rfl (Nat.le_of_ble_eq_true rfl) (m_hold hn h5 ha (fun f hf => ?_))
  refine q_aload_n hK 0 dX9_compare_6 rfl rfl ?_
  refine q_aload_n hK 3 dX9_compare_7 rfl rfl ?_
  refine q_iload hK dX9_compare_8 rfl ?_
  refine q_cVv2 hK dX9_compare_10 lX9_93 (by decide) (by decide) rfl (Nat.le_of_ble_eq_true rfl) (m_less hn2 h52 ha2 (fun f2 hf2 => ?_))
  rw [up_up]
  refine q_aload_n hK 0 dX9_compare_13 rfl rfl ?_
  refine q_cVi0 hK dX9_compare_14 lX9_96 (by decide) (by decide) rfl (Nat.le_of_ble_eq_true rfl) (m_sign (e := fun k => e k - e2 k) ?_ ?_ (fun Z' F' z1 z2 => ?_))
  · intro k hk
    obtain ⟨a1, a3, a4⟩ := he k hk
    obtain ⟨b1, b3, b4⟩ := he2 k hk
    refine ⟨?_, by dsimp only; omega, by dsimp only; omega⟩
    rw [up_same, hf2 k hk, up_same, up_ne h52, hf k hk, a1, b1, jI_sub]
  · refine fits_of (fun k hk => ?_)
    obtain ⟨a1, a3, a4⟩ := he k hk
    obtain ⟨b1, b3, b4⟩ := he2 k hk
    omega
  · refine q_iret hR dX9_compare_17 rfl ⟨_, rfl, h Z' F' z1 (fun j hj => ?_)⟩
    rw [z2 j (by simp at hj ⊢; omega), up_ne (by simp at hj; omega)]
theorem m_ref {k : Nat} {Q : Int32 → Mem → Prop} (hk : 0 < k) (hk2 : k < 2 ^ 31) (h : Q 0 (MM X (va_up Z 0 (nI k)) F L g)) : CallI X 0 yX9_refuse [rf X 0, .int (nI k)] (MM X Z F L g) Q := by
  refine m_refuse ?_
  rw [show decide (nI k = 0) = false by simpa using nI_ne0 hk hk2]
  exact h
theorem m_acc {Q : Int32 → Mem → Prop} (h : Q 1 (MM X (va_up Z 0 0) F L g)) : CallI X 0 yX9_refuse [rf X 0, .int (nI 0)] (MM X Z F L g) Q := m_refuse h
theorem m_set6 {n n2 a : Nat} {Q : Mem → Prop} (hn : mI n = true) (hl : mlen n = 6) (hn2 : mI n2 = true) (hne : n2 ≠ n) (ha : a + 6 ≤ mlen n2) (h : ∀ f, (∀ k, k < 6 → f k = F n2 (a + k)) → Q (MM X Z (va_up F n f) L g)) : CallV X 0 yX9_set6 [rf X 0, rf X n, rf X n2, .int (nI a)] (MM X Z F L g) Q := by
  refine CallM_intro (own := RX9) [some (rf X 0), some (rf X n), some (rf X n2), some (.int (nI a)), none] wX9_set6 (by decide) (by decide) rfl (Nat.le_of_ble_eq_true rfl) rfl (fun K hK hR => ?_)
  refine q_iconst (v := nI 0) hK dX9_set6_0 (by decide) ?_
  refine q_istore hK dX9_set6_1 (by decide) ?_
  have loop : ∀ m i f, i + m = 6 → (∀ k, k < i → f k = F n2 (a + k)) → K (MM X Z (va_up F n f) L g) 3 [some (rf X 0), some (rf X n), some (rf X n2), some (.int (nI a)), some (.int (nI i))] [] := by
    intro m
    induction m with
    | zero =>
      intro i f hi hf
      refine q_iload hK dX9_set6_3 rfl ?_
      refine q_bipush (v := nI 6) hK dX9_set6_5 (by decide) ?_
      refine q_icmp_ge hK 26 dX9_set6_7 (by decide) (fun c7 => ?_) (fun c7 => ?_)
      · exact q_vret hR dX9_set6_26 ⟨rfl, h f (fun k hk => hf k (by omega))⟩
      · exact absurd ((nI_leI (by decide) (by omega)).mpr (by omega)) c7
    | succ m ih =>
      intro i f hi hf
      refine q_iload hK dX9_set6_3 rfl ?_
      refine q_bipush (v := nI 6) hK dX9_set6_5 (by decide) ?_
      refine q_icmp_ge hK 26 dX9_set6_7 (by decide) (fun c7 => ?_) (fun c7 => ?_)
      · have := (nI_leI (by decide) (by omega)).mp c7
        omega
      · refine q_aload_n hK 1 dX9_set6_10 rfl rfl ?_
        refine q_iload hK dX9_set6_11 rfl ?_
        refine q_aload_n hK 2 dX9_set6_13 rfl rfl ?_
        refine q_iload_n hK 3 dX9_set6_14 rfl rfl ?_
        refine q_iload hK dX9_set6_15 rfl ?_
        refine q_iadd hK dX9_set6_17 ?_
        refine qm_iald hK dX9_set6_18 hn2 (nI_add a i) (by omega) ?_
        refine qm_iast hK dX9_set6_19 hn rfl (by omega) ?_
        refine q_inc1 hK dX9_set6_20 rfl (by decide) ?_
        refine q_goto hK 3 dX9_set6_23 (by decide) ?_
        rw [up_up, up_same, up_ne hne]
        refine ih (i + 1) (upd f i (F n2 (a + i))) (by omega) (fun k hk => ?_)
        by_cases e : k = i
        · rw [e, upd_same]
        · rw [upd_ne e]
          exact hf k (by omega)
  have := loop 6 0 (F n) rfl (fun k hk => by omega)
  rw [up_id] at this
  exact this
end M4
