/-- the same but at some places -/
def eqo {α : Type} (S : List Nat) (f f' : Nat → α) : Prop := ∀ j, j ∉ S → f' j = f j
theorem eqo.rf {α : Type} {S : List Nat} {f : Nat → α} : eqo S f f := fun _ _ => rfl
theorem eqo.tr {α : Type} {S : List Nat} {f f' f'' : Nat → α} (h : eqo S f f') (h2 : eqo S f' f'') : eqo S f f'' := fun j hj => (h2 j hj).trans (h j hj)
theorem eqo.up {α : Type} {S : List Nat} {f f' : Nat → α} {k : Nat} {v : α} (h : eqo S f f') (hk : k ∈ S) : eqo S f (va_up f' k v) := fun j hj => by
  rw [up_ne (fun q => hj (by rw [q]; exact hk))]
  exact h j hj
theorem eqo.mono {α : Type} {S T : List Nat} {f f' : Nat → α} (h : eqo S f f') (hs : ∀ k ∈ S, k ∈ T) : eqo T f f' := fun j hj => h j (fun q => hj (hs j q))
/-- the product of the first k primes' powers -/
def PP (x : Nat → Nat) : Nat → Nat
  | 0 => 1
  | k + 1 => PP x k * prN k ^ x k
theorem PP_6 (x : Nat → Nat) : PP x 6 = P6 x := by
  simp [PP, P6, prN]
theorem prN_pos (k : Nat) : 0 < prN k := by
  unfold prN
  split <;> decide
theorem prN_le (k : Nat) : prN k ≤ 13 := by
  unfold prN
  split <;> decide
theorem PP_pos (x : Nat → Nat) : ∀ k, 0 < PP x k
  | 0 => Nat.one_pos
  | k + 1 => Nat.mul_pos (PP_pos x k) (Nat.pow_pos (prN_pos k))
theorem PP_le (x : Nat → Nat) {k : Nat} : ∀ {m : Nat}, k ≤ m → PP x k ≤ PP x m
  | 0, h => by rw [show k = 0 by omega]; exact Nat.le_refl _
  | m + 1, h => by
    by_cases e : k = m + 1
    · rw [e]; exact Nat.le_refl _
    · exact Nat.le_trans (PP_le x (m := m) (by omega)) (Nat.le_mul_of_pos_right _ (Nat.pow_pos (prN_pos m)))
theorem PP_part (x : Nat → Nat) {k i : Nat} (hk : k < 6) (hi : i ≤ x k) : PP x k * prN k ^ i ≤ P6 x := by
  rw [← PP_6]
  refine Nat.le_trans ?_ (PP_le x (k := k + 1) (m := 6) (by omega))
  exact Nat.mul_le_mul_left _ (Nat.pow_le_pow_right (prN_pos k) hi)
theorem jI_of_nat {e : Int} (h : 0 ≤ e) : jI e = nI e.toNat := by rw [jI_nat, Int.toNat_of_nonneg h]
section M3
variable {X : Cx} {Z : Nat → Int32} {F : Nat → Nat → Int32} {L : Nat → Int64} {g : Mem}
/-- what products leaves -/
def prdI (e : Vec) (k i j : Nat) (Z : Nat → Int32) (F : Nat → Nat → Int32) (Z' : Nat → Int32) (F' : Nat → Nat → Int32) : Prop :=
  eqo [5, 6] Z Z' ∧ eqo [3, 4] F F' ∧ ∃ am bm wa wb, Z' 5 = nI am ∧ Z' 6 = nI bm ∧ nrm wa am ∧ nrm wb bm ∧ (∀ t, t < am → F' 3 t = nI (wa t)) ∧ (∀ t, t < bm → F' 4 t = nI (wb t)) ∧ bv wa am = PP (fun k => (e k).toNat) k * prN k ^ i ∧ bv wb bm = PP (fun k => (-e k).toNat) k * prN k ^ j
theorem prdI.nxt {e : Vec} {k : Nat} {Z Z' : Nat → Int32} {F F' : Nat → Nat → Int32} (h : prdI e k (e k).toNat (-e k).toNat Z F Z' F') : prdI e (k + 1) 0 0 Z F Z' F' := by
  obtain ⟨h1, h2, am, bm, wa, wb, h3, h4, h5, h6, h7, h8, h9, h10⟩ := h
  exact ⟨h1, h2, am, bm, wa, wb, h3, h4, h5, h6, h7, h8, by rw [h9]; simp [PP], by rw [h10]; simp [PP]⟩
/-- the six exponents that an array's first places hold; each of them below a bound -/
def has6 (f : Nat → Int32) (e : Vec) (b : Nat) : Prop := ∀ k, k < 6 → f k = jI (e k) ∧ -(b : Int) ≤ e k ∧ e k ≤ b
def fits130 (e : Vec) : Prop := upP e < bB ^ 130 ∧ loP e < bB ^ 130
theorem m_products {e : Vec} {Q : Mem → Prop} (he : has6 (F 5) e 1000) (hf : fits130 e) (h : ∀ Z' F', prdI e 6 0 0 Z F Z' F' → Q (MM X Z' F' L g)) : CallV X 1 yX9_products [rf X 0] (MM X Z F L g) Q := by
  refine CallM_intro (own := RX9) [some (rf X 0), none, none] wX9_products (by decide) (by decide) rfl (Nat.le_of_ble_eq_true rfl) rfl (fun K hK hR => ?_)
  refine q_aload_n hK 0 dX9_products_0 rfl rfl ?_
  refine q_getf hK dX9_products_1 fX9_17 (by decide) rfl rfl ?_
  refine q_iconst (v := nI 0) hK dX9_products_4 (by decide) ?_
  refine q_iconst (v := nI 1) hK dX9_products_5 (by decide) ?_
  refine qm_iast hK dX9_products_6 (n := 3) (k := 0) rfl rfl (by decide) ?_
  refine q_aload_n hK 0 dX9_products_7 rfl rfl ?_
  refine q_getf hK dX9_products_8 fX9_20 (by decide) rfl rfl ?_
  refine q_iconst (v := nI 0) hK dX9_products_11 (by decide) ?_
  refine q_iconst (v := nI 1) hK dX9_products_12 (by decide) ?_
  refine qm_iast hK dX9_products_13 (n := 4) (k := 0) rfl rfl (by decide) ?_
  refine q_aload_n hK 0 dX9_products_14 rfl rfl ?_
  refine q_iconst (v := nI 1) hK dX9_products_15 (by decide) ?_
  refine qm_put5 hK dX9_products_16 pX9_72 ?_
  refine q_aload_n hK 0 dX9_products_19 rfl rfl ?_
  refine q_iconst (v := nI 1) hK dX9_products_20 (by decide) ?_
  refine qm_put6 hK dX9_products_21 pX9_75 ?_
  refine q_iconst (v := nI 0) hK dX9_products_24 (by decide) ?_
  refine q_istore_n hK 1 dX9_products_25 rfl (by decide) ?_
  have loop2 : ∀ m k j Z' F', k < 6 → j + m = (-e k).toNat → prdI e k (e k).toNat j Z F Z' F' → (∀ Z' F', prdI e k (e k).toNat (-e k).toNat Z F Z' F' → K (MM X Z' F' L g) 106 [some (rf X 0), some (.int (nI k)), some (.int (jI (-((-e k).toNat : Int))))] []) → K (MM X Z' F' L g) 71 [some (rf X 0), some (.int (nI k)), some (.int (jI (-(j : Int))))] [] := by
    intro m
    induction m with
    | zero =>
      intro k j Z' F' hk hj hI hX
      obtain ⟨e1, e2, e3⟩ := he k hk
      have hjj : j = (-e k).toNat := by omega
      subst hjj
      refine q_iload_n hK 2 dX9_products_71 rfl rfl ?_
      refine q_aload_n hK 0 dX9_products_72 rfl rfl ?_
      refine q_getf hK dX9_products_73 fX9_23 (by decide) rfl rfl ?_
      refine q_iload_n hK 1 dX9_products_76 rfl rfl ?_
      refine qm_iald hK dX9_products_77 (n := 5) (k := k) rfl rfl (by show k < 6; omega) ?_
      rw [hI.2.1 5 (by decide), e1]
      refine q_icmp_le hK 106 dX9_products_78 (by decide) (fun c78 => ?_) (fun c78 => ?_)
      · exact hX Z' F' hI
      · exact absurd ((jI_le (by omega) (by omega) (by omega) (by omega)).mpr (by omega)) c78
    | succ m ih =>
      intro k j Z' F' hk hj hI hX
      obtain ⟨e1, e2, e3⟩ := he k hk
      refine q_iload_n hK 2 dX9_products_71 rfl rfl ?_
      refine q_aload_n hK 0 dX9_products_72 rfl rfl ?_
      refine q_getf hK dX9_products_73 fX9_23 (by decide) rfl rfl ?_
      refine q_iload_n hK 1 dX9_products_76 rfl rfl ?_
      refine qm_iald hK dX9_products_77 (n := 5) (k := k) rfl rfl (by show k < 6; omega) ?_
      rw [hI.2.1 5 (by decide), e1]
      refine q_icmp_le hK 106 dX9_products_78 (by decide) (fun c78 => ?_) (fun c78 => ?_)
      · have := (jI_le (by omega) (by omega) (by omega) (by omega)).mp c78
        omega
      · obtain ⟨i1, i2, am, bm, wa, wb, h3, h4, h5, h6, h7, h8, h9, h10⟩ := hI
        refine q_aload_n hK 0 dX9_products_81 rfl rfl ?_
        refine q_aload_n hK 0 dX9_products_82 rfl rfl ?_
        refine q_getf hK dX9_products_83 fX9_20 (by decide) rfl rfl ?_
        refine q_aload_n hK 0 dX9_products_86 rfl rfl ?_
        refine q_getf hK dX9_products_87 fX9_75 (by decide) rfl rfl ?_
        refine q_iload_n hK 1 dX9_products_90 rfl rfl ?_
        refine q_cSi1 hK dX9_products_91 lX9_78 (by decide) (Nat.le_of_ble_eq_true rfl) (m_prime hk ?_)
        rw [h4]
        have hv : prN k * bv wb bm < bB ^ 130 := by
          have := PP_part (fun k => (-e k).toNat) hk (i := j + 1) (by omega)
          rw [h10, Nat.mul_comm, Nat.mul_assoc, ← Nat.pow_succ]
          exact Nat.lt_of_le_of_lt this hf.2
        refine q_cSi3 hK dX9_products_94 lX9_82 (by decide) (Nat.le_of_ble_eq_true rfl) (m_multiply (n := 4) rfl rfl (prN_pos k) (prN_le k) h6 h8 hv (fun f w' many' z1 z2 z3 => ?_))
        refine qm_put6 hK dX9_products_97 pX9_75 ?_
        refine q_iinc hK dX9_products_100 rfl (show _ = jI (-((j + 1 : Nat) : Int)) by rw [jI_add]; congr 1; omega) (by decide) ?_
        refine q_goto hK 71 dX9_products_103 (by decide) ?_
        refine ih k (j + 1) _ _ hk (by omega) ⟨i1.up (by decide), i2.up (by decide), am, many', wa, w', ?_, ?_, h5, z1, ?_, ?_, h9, ?_⟩ hX
        · rw [up_ne (by decide)]; exact h3
        · rw [up_same]
        · rw [up_ne (by decide)]; exact h7
        · rw [up_same]; exact z2
        · rw [z3, h10, Nat.pow_succ]
          ac_rfl
  have loop1 : ∀ m k i Z' F', k < 6 → i + m = (e k).toNat → prdI e k i 0 Z F Z' F' → (∀ Z' F', prdI e k (e k).toNat 0 Z F Z' F' → K (MM X Z' F' L g) 69 [some (rf X 0), some (.int (nI k)), some (.int (nI (e k).toNat))] []) → K (MM X Z' F' L g) 34 [some (rf X 0), some (.int (nI k)), some (.int (nI i))] [] := by
    intro m
    induction m with
    | zero =>
      intro k i Z' F' hk hi hI hX
      obtain ⟨e1, e2, e3⟩ := he k hk
      have hii : i = (e k).toNat := by omega
      subst hii
      refine q_iload_n hK 2 dX9_products_34 rfl rfl ?_
      refine q_aload_n hK 0 dX9_products_35 rfl rfl ?_
      refine q_getf hK dX9_products_36 fX9_23 (by decide) rfl rfl ?_
      refine q_iload_n hK 1 dX9_products_39 rfl rfl ?_
      refine qm_iald hK dX9_products_40 (n := 5) (k := k) rfl rfl (by show k < 6; omega) ?_
      rw [hI.2.1 5 (by decide), e1]
      refine q_icmp_ge hK 69 dX9_products_41 (by decide) (fun c41 => ?_) (fun c41 => ?_)
      · exact hX Z' F' hI
      · rw [jI_nat] at c41
        exact absurd ((jI_le (by omega) (by omega) (by omega) (by omega)).mpr (by omega)) c41
    | succ m ih =>
      intro k i Z' F' hk hi hI hX
      obtain ⟨e1, e2, e3⟩ := he k hk
      refine q_iload_n hK 2 dX9_products_34 rfl rfl ?_
      refine q_aload_n hK 0 dX9_products_35 rfl rfl ?_
      refine q_getf hK dX9_products_36 fX9_23 (by decide) rfl rfl ?_
      refine q_iload_n hK 1 dX9_products_39 rfl rfl ?_
      refine qm_iald hK dX9_products_40 (n := 5) (k := k) rfl rfl (by show k < 6; omega) ?_
      rw [hI.2.1 5 (by decide), e1]
      refine q_icmp_ge hK 69 dX9_products_41 (by decide) (fun c41 => ?_) (fun c41 => ?_)
      · rw [jI_nat] at c41
        have := (jI_le (by omega) (by omega) (by omega) (by omega)).mp c41
        omega
      · obtain ⟨i1, i2, am, bm, wa, wb, h3, h4, h5, h6, h7, h8, h9, h10⟩ := hI
        refine q_aload_n hK 0 dX9_products_44 rfl rfl ?_
        refine q_aload_n hK 0 dX9_products_45 rfl rfl ?_
        refine q_getf hK dX9_products_46 fX9_17 (by decide) rfl rfl ?_
        refine q_aload_n hK 0 dX9_products_49 rfl rfl ?_
        refine q_getf hK dX9_products_50 fX9_72 (by decide) rfl rfl ?_
        refine q_iload_n hK 1 dX9_products_53 rfl rfl ?_
        refine q_cSi1 hK dX9_products_54 lX9_78 (by decide) (Nat.le_of_ble_eq_true rfl) (m_prime hk ?_)
        rw [h3]
        have hv : prN k * bv wa am < bB ^ 130 := by
          have := PP_part (fun k => (e k).toNat) hk (i := i + 1) (by omega)
          rw [h9, Nat.mul_comm, Nat.mul_assoc, ← Nat.pow_succ]
          exact Nat.lt_of_le_of_lt this hf.1
        refine q_cSi3 hK dX9_products_57 lX9_82 (by decide) (Nat.le_of_ble_eq_true rfl) (m_multiply (n := 3) rfl rfl (prN_pos k) (prN_le k) h5 h7 hv (fun f w' many' z1 z2 z3 => ?_))
        refine qm_put5 hK dX9_products_60 pX9_72 ?_
        refine q_inc1 hK dX9_products_63 rfl (by decide) ?_
        refine q_goto hK 34 dX9_products_66 (by decide) ?_
        refine ih k (i + 1) _ _ hk (by omega) ⟨i1.up (by decide), i2.up (by decide), many', bm, w', wb, ?_, ?_, z1, h6, ?_, ?_, ?_, h10⟩ hX
        · rw [up_same]
        · rw [up_ne (by decide)]; exact h4
        · rw [up_same]; exact z2
        · rw [up_ne (by decide)]; exact h8
        · rw [z3, h9, Nat.pow_succ]
          ac_rfl
  have loop : ∀ m k v2 Z' F', k + m = 6 → prdI e k 0 0 Z F Z' F' → K (MM X Z' F' L g) 26 [some (rf X 0), some (.int (nI k)), v2] [] := by
    intro m
    induction m with
    | zero =>
      intro k v2 Z' F' hk hI
      have : k = 6 := by omega
      subst this
      refine q_iload_n hK 1 dX9_products_26 rfl rfl ?_
      refine q_bipush (v := nI 6) hK dX9_products_27 (by decide) ?_
      refine q_icmp_ge hK 112 dX9_products_29 (by decide) (fun c29 => ?_) (fun c29 => ?_)
      · exact q_vret hR dX9_products_112 ⟨rfl, h Z' F' hI⟩
      · exact absurd ((nI_leI (by decide) (by decide)).mpr (by decide)) c29
    | succ m ih =>
      intro k v2 Z' F' hk hI
      refine q_iload_n hK 1 dX9_products_26 rfl rfl ?_
      refine q_bipush (v := nI 6) hK dX9_products_27 (by decide) ?_
      refine q_icmp_ge hK 112 dX9_products_29 (by decide) (fun c29 => ?_) (fun c29 => ?_)
      · have := (nI_leI (by decide) (by omega)).mp c29
        omega
      · refine q_iconst (v := nI 0) hK dX9_products_32 (by decide) ?_
        refine q_istore_n hK 2 dX9_products_33 rfl (by decide) ?_
        refine loop1 (e k).toNat k 0 Z' F' (by omega) (by omega) hI (fun Z1 F1 hI1 => ?_)
        refine q_iconst (v := nI 0) hK dX9_products_69 (by decide) ?_
        refine q_istore_n hK 2 dX9_products_70 rfl (by decide) ?_
        refine loop2 (-e k).toNat k 0 Z1 F1 (by omega) (by omega) hI1 (fun Z2 F2 hI2 => ?_)
        refine q_inc1 hK dX9_products_106 rfl (by decide) ?_
        refine q_goto hK 26 dX9_products_109 (by decide) ?_
        exact ih (k + 1) _ Z2 F2 (by omega) hI2.nxt
  refine loop 6 0 none _ _ rfl ⟨(eqo.rf.up (by decide)).up (by decide), (eqo.rf.up (by decide)).up (by decide), 1, 1, fun _ => 1, fun _ => 1, ?_, ?_, ⟨Nat.le_refl 1, fun _ _ => (show 1 < bB by decide), Nat.one_ne_zero⟩, ⟨Nat.le_refl 1, fun _ _ => (show 1 < bB by decide), Nat.one_ne_zero⟩, fun t ht => ?_, fun t ht => ?_, by simp [bv, PP], by simp [bv, PP]⟩
  · rw [up_ne (by decide), up_same]
  · rw [up_same]
  · rw [up_ne (by decide), up_same, show t = 0 by omega, upd_same]
  · rw [up_same, show t = 0 by omega, upd_same]
end M3
