-- ===== digits
def lenD (v : Nat) : Nat := if v < 10 then 1 else lenD (v / 10) + 1
termination_by v
decreasing_by omega
theorem lenD_pos (v : Nat) : 1 ≤ lenD v := by
  unfold lenD
  split <;> omega
theorem lenD_lt (v : Nat) : v < 10 ^ lenD v := by
  induction v using Nat.strongRecOn with
  | ind v ih =>
    unfold lenD
    split
    · simpa using ‹v < 10›
    · have := ih (v / 10) (by omega)
      rw [Nat.pow_succ]
      omega
theorem lenD_ge (v : Nat) (h : 1 ≤ v) : 10 ^ (lenD v - 1) ≤ v := by
  induction v using Nat.strongRecOn with
  | ind v ih =>
    unfold lenD
    split
    · simpa using h
    · have := ih (v / 10) (by omega) (by omega)
      have hp := lenD_pos (v / 10)
      rw [show lenD (v / 10) + 1 - 1 = (lenD (v / 10) - 1) + 1 by omega, Nat.pow_succ]
      omega
theorem lenD_uniq {v n : Nat} (h1 : 1 ≤ v) (hn : 1 ≤ n) (h2 : 10 ^ (n - 1) ≤ v) (h3 : v < 10 ^ n) : lenD v = n := by
  have a1 := lenD_lt v
  have a2 := lenD_ge v h1
  have a3 := lenD_pos v
  have b1 : n - 1 < lenD v := (Nat.pow_lt_pow_iff_right (by decide : 1 < 10)).mp (Nat.lt_of_le_of_lt h2 a1)
  have b2 : lenD v - 1 < n := (Nat.pow_lt_pow_iff_right (by decide : 1 < 10)).mp (Nat.lt_of_le_of_lt a2 h3)
  omega
theorem lenD_le {v n : Nat} (h1 : 1 ≤ v) (h3 : v < 10 ^ n) : lenD v ≤ n := by
  have a2 := lenD_ge v h1
  have b2 : lenD v - 1 < n := (Nat.pow_lt_pow_iff_right (by decide : 1 < 10)).mp (Nat.lt_of_le_of_lt a2 h3)
  omega
/-- byte i of a number's digits -/
def digB (v i : Nat) : Nat := 48 + v / 10 ^ (lenD v - 1 - i) % 10
theorem bB_pow (j : Nat) : bB ^ j = 10 ^ (9 * j) := by
  rw [show bB = 10 ^ 9 from rfl, ← Nat.pow_mul]
theorem bv_split {w : Nat → Nat} : ∀ {n j : Nat}, j ≤ n → (∀ i, i < n → w i < bB) → bv w n / bB ^ j % bB = if j < n then w j else 0
  | 0, j, h, _ => by simp [bv]
  | n + 1, j, h, hw => by
    have hl := bv_lt (w := w) (n := n) (fun i hi => hw i (by omega))
    unfold bv
    by_cases e : j = n + 1
    · subst e
      have := bv_lt (w := w) (n := n + 1) hw
      unfold bv at this
      rw [Nat.div_eq_of_lt this]
      simp
    · by_cases e2 : j = n
      · subst e2
        rw [Nat.add_mul_div_right _ _ (Nat.pow_pos (by decide)), Nat.div_eq_of_lt hl, Nat.zero_add, Nat.mod_eq_of_lt (hw j (by omega))]
        simp
      · have ih := bv_split (w := w) (n := n) (j := j) (by omega) (fun i hi => hw i (by omega))
        obtain ⟨d, hd⟩ : ∃ d, n = j + 1 + d := ⟨n - j - 1, by omega⟩
        have e3 : w n * bB ^ n = (w n * bB ^ d * bB) * bB ^ j := by
          rw [hd, Nat.pow_add, Nat.pow_add, Nat.pow_one]
          ac_rfl
        rw [e3, Nat.add_mul_div_right _ _ (Nat.pow_pos (by decide)), Nat.add_mul_mod_self_right, ih]
        simp [show j < n by omega, show j < n + 1 by omega]
theorem bv_digit {w : Nat → Nat} {n j t : Nat} (hj : j < n) (ht : t < 9) (hw : ∀ i, i < n → w i < bB) : bv w n / 10 ^ (9 * j + t) % 10 = w j / 10 ^ t % 10 := by
  have h := bv_split (j := j) (by omega) hw
  rw [if_pos hj] at h
  rw [← h, Nat.pow_add, ← Nat.div_div_eq_div_mul, ← bB_pow]
  generalize bv w n / bB ^ j = q
  have : 10 ^ t ∣ bB := ⟨10 ^ (9 - t), by rw [← Nat.pow_add, show t + (9 - t) = 9 by omega]; rfl⟩
  obtain ⟨c, hc⟩ := this
  have h10 : ∃ c', c = 10 * c' := ⟨10 ^ (8 - t), by
    have : 10 ^ t * c = 10 ^ t * (10 * 10 ^ (8 - t)) := by
      rw [← hc, ← Nat.pow_succ', ← Nat.pow_add, show t + (8 - t + 1) = 9 by omega]; rfl
    exact Nat.eq_of_mul_eq_mul_left (Nat.pow_pos (by decide)) this⟩
  obtain ⟨c', hc'⟩ := h10
  rw [hc, Nat.mod_mul_right_div_self, hc', Nat.mod_mul_right_mod]
/-- what a number of words leaves behind in OUT, from place o on -/
def outAt (f : Nat → Int32) (o v : Nat) : Prop := ∀ i, i < lenD v → f (o + i) = nI (digB v i)
noncomputable def obs (u l : Nat) : Nat → Int32 := fun k => if k < lenD u then nI (digB u k) else if k = lenD u then nI 47 else nI (digB l (k - lenD u - 1))
noncomputable def sp_show (σ : Sg) (s : Int32) : Int32 × Sg :=
  if isIn s 16 then
    if onS σ s then (nI (lenD (upP (rowS σ s)) + 1 + lenD (loP (rowS σ s))), (0, gOn σ, gRow σ, gC σ, gCr σ, gN σ, gNt σ, lenD (upP (rowS σ s)) + 1 + lenD (loP (rowS σ s)), obs (upP (rowS σ s)) (loP (rowS σ s))))
    else (-1, sSt σ 2)
  else (-1, sSt σ 1)
theorem P24 {e : Vec} (h : ∀ k, k < 6 → -24 ≤ e k ∧ e k ≤ 24) : lenD (upP e) ≤ 108 ∧ lenD (loP e) ≤ 108 := by
  have b1 : P6 (fun _ => 24) < 10 ^ 108 := by decide +kernel
  constructor
  · exact lenD_le (upP_pos e) (Nat.lt_of_le_of_lt (P6_mono (fun k hk => by have := h k hk; show (e k).toNat ≤ 24; omega)) b1)
  · exact lenD_le (loP_pos e) (Nat.lt_of_le_of_lt (P6_mono (fun k hk => by have := h k hk; show (-e k).toNat ≤ 24; omega)) b1)
section M9
variable {X : Cx} {Z : Nat → Int32} {F : Nat → Nat → Int32} {L : Nat → Int64} {g : Mem}
theorem m_tell {o : Nat} {b : Int32} {Q : Mem → Prop} (ho : Z 11 = nI o) (ho2 : o < 400) (h : Q (MM X (va_up Z 11 (nI (o + 1))) (va_up F 8 (upd (F 8) o b)) L g)) : CallV X 0 yX9_tell [rf X 0, .int b] (MM X Z F L g) Q := by
  refine CallM_intro (own := RX9) [some (rf X 0), some (.int b)] wX9_tell (by decide) (by decide) rfl (Nat.le_of_ble_eq_true rfl) rfl (fun K hK hR => ?_)
  refine q_aload_n hK 0 dX9_tell_0 rfl rfl ?_
  refine q_getf hK dX9_tell_1 fX9_32 (by decide) rfl rfl ?_
  refine q_aload_n hK 0 dX9_tell_4 rfl rfl ?_
  refine q_getf hK dX9_tell_5 fX9_143 (by decide) rfl rfl ?_
  refine q_iload_n hK 1 dX9_tell_8 rfl rfl ?_
  refine qm_iast hK dX9_tell_9 (n := 8) (k := o) rfl ho (by show _ < 400; omega) ?_
  refine q_aload_n hK 0 dX9_tell_10 rfl rfl ?_
  refine q_dup hK dX9_tell_11 rfl ?_
  refine q_getf hK dX9_tell_12 fX9_143 (by decide) rfl rfl ?_
  refine q_iconst (v := nI 1) hK dX9_tell_15 (by decide) ?_
  refine q_iadd hK dX9_tell_16 ?_
  refine qm_put11 hK dX9_tell_17 pX9_143 ?_
  rw [ho, show nI o + nI 1 = nI (o + 1) from nI_add o 1]
  exact q_vret hR dX9_tell_20 ⟨rfl, h⟩
theorem m_tellNumber {n many o : Nat} {w : Nat → Nat} {Q : Mem → Prop} (hn : mI n = true) (h8 : n ≠ 8) (hl : mlen n = 130) (hw : nrm w many) (hm : many ≤ 130) (hF : ∀ i, i < many → F n i = nI (w i)) (ho : Z 11 = nI o) (hr : o + lenD (bv w many) ≤ 400)
    (h : ∀ Z' F', eqo [11] Z Z' → eqo [8] F F' → Z' 11 = nI (o + lenD (bv w many)) → (∀ i, i < o → F' 8 i = F 8 i) → outAt (F' 8) o (bv w many) → Q (MM X Z' F' L g)) : CallV X 1 yX9_tellNumber [rf X 0, rf X n, .int (nI many)] (MM X Z F L g) Q := by
  have hB : bB = 1000000000 := rfl
  have hv1 : 1 ≤ bv w many := Nat.le_trans (Nat.pow_pos (by decide)) (nrm_ge hw)
  have hlt := lenD_lt (bv w many)
  have hge := lenD_ge _ hv1
  have hD1 := lenD_pos (bv w many)
  have hval := nrm_lt hw
  generalize hD : lenD (bv w many) = D at *
  refine CallM_intro (own := RX9) [some (rf X 0), some (rf X n), some (.int (nI many)), none, none] wX9_tellNumber (by decide) (by decide) rfl (Nat.le_of_ble_eq_true rfl) rfl (fun K hK hR => ?_)
  refine q_iload_n hK 2 dX9_tellNumber_0 rfl rfl ?_
  refine q_iconst (v := nI 1) hK dX9_tellNumber_1 (by decide) ?_
  refine q_isub hK dX9_tellNumber_2 ?_
  refine q_istore_n hK 3 dX9_tellNumber_3 rfl (by decide) ?_
  rw [show nI many - nI 1 = jI ((many : Int) - 1) by rw [jI_nat, jI_nat, jI_sub]; rfl]
  -- the state behind q digits
  have key : ∀ (q : Nat) (Z' : Nat → Int32) (F' : Nat → Nat → Int32), (eqo [11] Z Z' ∧ eqo [8] F F' ∧ Z' 11 = nI (o + q) ∧ (∀ i, i < o → F' 8 i = F 8 i) ∧ ∀ i, i < q → F' 8 (o + i) = nI (48 + bv w many / 10 ^ (D - 1 - i) % 10)) → True := fun _ _ _ _ => trivial
  -- digits of one word, from 10^t on
  have dig : ∀ (t : Nat) (j : Nat) (Z' : Nat → Int32) (F' : Nat → Nat → Int32) (C : Nat → (Nat → Int32) → (Nat → Nat → Int32) → Prop), j < many → t < 9 → 9 * j + t < D → eqo [11] Z Z' → eqo [8] F F' → Z' 11 = nI (o + (D - 1 - (9 * j + t))) → (∀ i, i < o → F' 8 i = F 8 i) → (∀ i, i < D - 1 - (9 * j + t) → F' 8 (o + i) = nI (48 + bv w many / 10 ^ (D - 1 - i) % 10)) →
      (∀ Z' F', eqo [11] Z Z' → eqo [8] F F' → Z' 11 = nI (o + (D - 9 * j)) → (∀ i, i < o → F' 8 i = F 8 i) → (∀ i, i < D - 9 * j → F' 8 (o + i) = nI (48 + bv w many / 10 ^ (D - 1 - i) % 10)) → K (MM X Z' F' L g) 74 [some (rf X 0), some (rf X n), some (.int (nI many)), some (.int (nI j)), some (.int (nI 0))] []) →
      K (MM X Z' F' L g) 43 [some (rf X 0), some (rf X n), some (.int (nI many)), some (.int (nI j)), some (.int (nI (10 ^ t)))] [] := by
    intro t
    induction t with
    | zero =>
      intro j Z' F' C hj ht hp z1 z2 z3 z4 z5 hX
      have hwj := hw.2.1 j hj
      refine q_iload hK dX9_tellNumber_43 rfl ?_
      refine q_if_le hK 74 dX9_tellNumber_45 (by decide) (fun c45 => ?_) (fun c45 => ?_)
      · exact absurd c45 (by decide)
      refine q_aload_n hK 0 dX9_tellNumber_48 rfl rfl ?_
      refine q_bipush (v := nI 48) hK dX9_tellNumber_49 (by decide) ?_
      refine q_aload_n hK 1 dX9_tellNumber_51 rfl rfl ?_
      refine q_iload_n hK 3 dX9_tellNumber_52 rfl rfl ?_
      refine qm_iald hK dX9_tellNumber_53 hn rfl (by omega) ?_
      rw [z2 n (by simp; exact h8), hF j hj]
      refine q_iload hK dX9_tellNumber_54 rfl ?_
      refine q_idiv hK dX9_tellNumber_56 (by decide) ?_
      rw [show nI (w j) / nI (10 ^ 0) = nI (w j / 10 ^ 0) from pk_div (by omega) (by decide) (by decide)]
      refine q_bipush (v := nI 10) hK dX9_tellNumber_57 (by decide) ?_
      refine q_irem hK dX9_tellNumber_59 (by decide) ?_
      rw [show nI (w j / 10 ^ 0) - nI (w j / 10 ^ 0) / nI 10 * nI 10 = nI (w j / 10 ^ 0 % 10) from pk_rem (by simp; omega) (by decide) (by decide)]
      refine q_iadd hK dX9_tellNumber_60 ?_
      rw [show nI 48 + nI (w j / 10 ^ 0 % 10) = nI (48 + w j / 10 ^ 0 % 10) from nI_add _ _]
      refine q_cVv1 hK dX9_tellNumber_61 lX9_147 (by decide) (by decide) rfl (Nat.le_of_ble_eq_true rfl) (m_tell z3 (by omega) ?_)
      refine q_iload hK dX9_tellNumber_64 rfl ?_
      refine q_bipush (v := nI 10) hK dX9_tellNumber_66 (by decide) ?_
      refine q_idiv hK dX9_tellNumber_68 (by decide) ?_
      refine q_istore hK dX9_tellNumber_69 (by decide) ?_
      refine q_goto hK 43 dX9_tellNumber_71 (by decide) ?_
      rw [show nI (10 ^ 0) / nI 10 = nI 0 by decide]
      refine q_iload hK dX9_tellNumber_43 rfl ?_
      refine q_if_le hK 74 dX9_tellNumber_45 (by decide) (fun c45 => ?_) (fun c45 => ?_)
      · refine hX _ _ (z1.up (by decide)) (z2.up (by decide)) ?_ (fun i hi => ?_) (fun i hi => ?_)
        · rw [up_same]
          congr 1
          omega
        · rw [up_same, upd_ne (by omega)]
          exact z4 i hi
        · rw [up_same]
          by_cases e : i = D - 1 - (9 * j + 0)
          · subst e
            rw [upd_same, ← bv_digit hj ht hw.2.1, show D - 1 - (D - 1 - (9 * j + 0)) = 9 * j + 0 by omega]
          · rw [upd_ne (by omega)]
            exact z5 i (by omega)
      · exact absurd (by decide) c45
    | succ t ih =>
      intro j Z' F' C hj ht hp z1 z2 z3 z4 z5 hX
      have hwj := hw.2.1 j hj
      have hp10 : 10 ^ (t + 1) ≤ 10 ^ 8 := Nat.pow_le_pow_right (by decide) (by omega)
      have hp1 : 1 ≤ 10 ^ t := Nat.pow_pos (by decide)
      have hps : 10 ^ (t + 1) = 10 ^ t * 10 := Nat.pow_succ ..
      refine q_iload hK dX9_tellNumber_43 rfl ?_
      refine q_if_le hK 74 dX9_tellNumber_45 (by decide) (fun c45 => ?_) (fun c45 => ?_)
      · exact absurd c45 (nI_nle (by omega) (by omega))
      refine q_aload_n hK 0 dX9_tellNumber_48 rfl rfl ?_
      refine q_bipush (v := nI 48) hK dX9_tellNumber_49 (by decide) ?_
      refine q_aload_n hK 1 dX9_tellNumber_51 rfl rfl ?_
      refine q_iload_n hK 3 dX9_tellNumber_52 rfl rfl ?_
      refine qm_iald hK dX9_tellNumber_53 hn rfl (by omega) ?_
      rw [z2 n (by simp; exact h8), hF j hj]
      refine q_iload hK dX9_tellNumber_54 rfl ?_
      refine q_idiv hK dX9_tellNumber_56 (nI_ne0 (by omega) (by omega)) ?_
      rw [show nI (w j) / nI (10 ^ (t + 1)) = nI (w j / 10 ^ (t + 1)) from pk_div (by omega) (by omega) (by omega)]
      have hq : w j / 10 ^ (t + 1) ≤ w j := Nat.div_le_self _ _
      refine q_bipush (v := nI 10) hK dX9_tellNumber_57 (by decide) ?_
      refine q_irem hK dX9_tellNumber_59 (by decide) ?_
      rw [show nI (w j / 10 ^ (t + 1)) - nI (w j / 10 ^ (t + 1)) / nI 10 * nI 10 = nI (w j / 10 ^ (t + 1) % 10) from pk_rem (by omega) (by decide) (by decide)]
      refine q_iadd hK dX9_tellNumber_60 ?_
      rw [show nI 48 + nI (w j / 10 ^ (t + 1) % 10) = nI (48 + w j / 10 ^ (t + 1) % 10) from nI_add _ _]
      refine q_cVv1 hK dX9_tellNumber_61 lX9_147 (by decide) (by decide) rfl (Nat.le_of_ble_eq_true rfl) (m_tell z3 (by omega) ?_)
      refine q_iload hK dX9_tellNumber_64 rfl ?_
      refine q_bipush (v := nI 10) hK dX9_tellNumber_66 (by decide) ?_
      refine q_idiv hK dX9_tellNumber_68 (by decide) ?_
      refine q_istore hK dX9_tellNumber_69 (by decide) ?_
      refine q_goto hK 43 dX9_tellNumber_71 (by decide) ?_
      rw [show nI (10 ^ (t + 1)) / nI 10 = nI (10 ^ t) by rw [show nI (10 ^ (t + 1)) / nI 10 = nI (10 ^ (t + 1) / 10) from pk_div (by omega) (by decide) (by decide), hps, Nat.mul_div_cancel _ (by decide)]]
      refine ih j _ _ C hj (by omega) (by omega) (z1.up (by decide)) (z2.up (by decide)) ?_ (fun i hi => ?_) (fun i hi => ?_) hX
      · rw [up_same]
        congr 1
        omega
      · rw [up_same, upd_ne (by omega)]
        exact z4 i hi
      · rw [up_same]
        by_cases e : i = D - 1 - (9 * j + (t + 1))
        · subst e
          rw [upd_same, ← bv_digit hj ht hw.2.1, show D - 1 - (D - 1 - (9 * j + (t + 1))) = 9 * j + (t + 1) by omega]
        · rw [upd_ne (by omega)]
          exact z5 i (by omega)
  -- words below the first
  have words : ∀ (j : Nat) (v4 : Int32) (Z' : Nat → Int32) (F' : Nat → Nat → Int32), j < many → 9 * j < D → eqo [11] Z Z' → eqo [8] F F' → Z' 11 = nI (o + (D - 9 * j)) → (∀ i, i < o → F' 8 i = F 8 i) → (∀ i, i < D - 9 * j → F' 8 (o + i) = nI (48 + bv w many / 10 ^ (D - 1 - i) % 10)) → K (MM X Z' F' L g) 74 [some (rf X 0), some (rf X n), some (.int (nI many)), some (.int (nI j)), some (.int v4)] [] := by
    intro j
    induction j with
    | zero =>
      intro v4 Z' F' hj hp z1 z2 z3 z4 z5
      refine q_iinc hK dX9_tellNumber_74 rfl (show _ = jI (-1) from rfl) (by decide) ?_
      refine q_goto hK 4 dX9_tellNumber_77 (by decide) ?_
      refine q_iload_n hK 3 dX9_tellNumber_4 rfl rfl ?_
      refine q_if_lt hK 80 dX9_tellNumber_5 (by decide) (fun c5 => ?_) (fun c5 => ?_)
      · refine q_vret hR dX9_tellNumber_80 ⟨rfl, h Z' F' z1 z2 (by rw [z3]; rfl) z4 (fun i hi => ?_)⟩
        rw [hD] at hi
        rw [z5 i (by omega)]
        unfold digB
        rw [hD]
      · exact absurd (by decide) c5
    | succ j ih =>
      intro v4 Z' F' hj hp z1 z2 z3 z4 z5
      refine q_iinc hK dX9_tellNumber_74 rfl (show _ = nI j by rw [jI_nat, jI_nat, jI_add]; congr 1; omega) (by decide) ?_
      refine q_goto hK 4 dX9_tellNumber_77 (by decide) ?_
      refine q_iload_n hK 3 dX9_tellNumber_4 rfl rfl ?_
      refine q_if_lt hK 80 dX9_tellNumber_5 (by decide) (fun c5 => ?_) (fun c5 => ?_)
      · exact absurd c5 (nI_pos (by omega))
      refine q_ldc hK dX9_tellNumber_8 nX9_146 ?_
      refine q_istore hK dX9_tellNumber_10 (by decide) ?_
      refine q_iload_n hK 3 dX9_tellNumber_12 rfl rfl ?_
      refine q_iload_n hK 2 dX9_tellNumber_13 rfl rfl ?_
      refine q_iconst (v := nI 1) hK dX9_tellNumber_14 (by decide) ?_
      refine q_isub hK dX9_tellNumber_15 ?_
      rw [show nI many - nI 1 = nI (many - 1) from pk_sub (by omega)]
      refine q_icmp_ne hK 43 dX9_tellNumber_16 (by decide) (fun c16 => ?_) (fun c16 => ?_)
      · exact dig 8 j Z' F' (fun _ _ _ => True) (by omega) (by decide) (by omega) z1 z2 (by rw [z3]; congr 1; omega) z4 (fun i hi => z5 i (by omega)) (fun Z2 F2 y1 y2 y3 y4 y5 => ih _ Z2 F2 (by omega) (by omega) y1 y2 y3 y4 y5)
      · have := (nI_eq (by omega) (by omega)).mp c16
        omega
  -- the first word
  obtain ⟨m1, hm1⟩ : ∃ m1, many = m1 + 1 := ⟨many - 1, by have := hw.1; omega⟩
  have hwt : w m1 ≠ 0 := by have := hw.2.2; rwa [hm1, Nat.add_sub_cancel] at this
  have hwl := hw.2.1 m1 (by omega)
  have hbig : bv w many = bv w m1 + w m1 * 10 ^ (9 * m1) := by rw [hm1, bv, bB_pow]
  have hsm := bv_lt (w := w) (n := m1) (fun i hi => hw.2.1 i (by omega))
  rw [bB_pow] at hsm
  refine q_iload_n hK 3 dX9_tellNumber_4 rfl rfl ?_
  rw [show jI ((many : Int) - 1) = nI m1 by rw [jI_nat, hm1]; congr 1; omega]
  refine q_if_lt hK 80 dX9_tellNumber_5 (by decide) (fun c5 => ?_) (fun c5 => ?_)
  · exact absurd c5 (nI_pos (by omega))
  refine q_ldc hK dX9_tellNumber_8 nX9_146 ?_
  refine q_istore hK dX9_tellNumber_10 (by decide) ?_
  refine q_iload_n hK 3 dX9_tellNumber_12 rfl rfl ?_
  refine q_iload_n hK 2 dX9_tellNumber_13 rfl rfl ?_
  refine q_iconst (v := nI 1) hK dX9_tellNumber_14 (by decide) ?_
  refine q_isub hK dX9_tellNumber_15 ?_
  rw [show nI many - nI 1 = nI m1 by rw [hm1]; exact pk_sub (by omega)]
  refine q_icmp_ne hK 43 dX9_tellNumber_16 (by decide) (fun c16 => ?_) (fun c16 => ?_)
  · exact absurd rfl c16
  have top : ∀ t, t < 9 → w m1 < 10 ^ (t + 1) → K (MM X Z F L g) 19 [some (rf X 0), some (rf X n), some (.int (nI many)), some (.int (nI m1)), some (.int (nI (10 ^ t)))] [] := by
    intro t
    induction t with
    | zero =>
      intro ht hlt1
      have hDv : D = 9 * m1 + 0 + 1 := by
        rw [← hD]
        refine lenD_uniq hv1 (by omega) ?_ ?_
        · rw [hbig, show 9 * m1 + 0 + 1 - 1 = 9 * m1 by omega]
          have : 1 * 10 ^ (9 * m1) ≤ w m1 * 10 ^ (9 * m1) := Nat.mul_le_mul_right _ (by omega)
          omega
        · rw [hbig, show 9 * m1 + 0 + 1 = 9 * m1 + 1 by omega, Nat.pow_add, Nat.mul_comm (10 ^ (9 * m1))]
          have : (w m1 + 1) * 10 ^ (9 * m1) ≤ 10 ^ 1 * 10 ^ (9 * m1) := Nat.mul_le_mul_right _ hlt1
          rw [Nat.add_mul, Nat.one_mul] at this
          omega
      have fin : K (MM X Z F L g) 43 [some (rf X 0), some (rf X n), some (.int (nI many)), some (.int (nI m1)), some (.int (nI (10 ^ 0)))] [] :=
        dig 0 m1 Z F (fun _ _ _ => True) (by omega) ht (by omega) eqo.rf eqo.rf (by rw [ho]; congr 1; omega) (fun _ _ => rfl) (fun i hi => by omega) (fun Z2 F2 y1 y2 y3 y4 y5 => words m1 _ Z2 F2 (by omega) (by omega) y1 y2 y3 y4 y5)
      refine q_iload hK dX9_tellNumber_19 rfl ?_
      refine q_aload_n hK 1 dX9_tellNumber_21 rfl rfl ?_
      refine q_iload_n hK 3 dX9_tellNumber_22 rfl rfl ?_
      refine qm_iald hK dX9_tellNumber_23 hn rfl (by omega) ?_
      rw [hF m1 (by omega)]
      refine q_icmp_le hK 43 dX9_tellNumber_24 (by decide) (fun c24 => ?_) (fun c24 => ?_)
      · exact fin
      refine q_iload hK dX9_tellNumber_27 rfl ?_
      refine q_iconst (v := nI 1) hK dX9_tellNumber_29 (by decide) ?_
      refine q_icmp_le hK 43 dX9_tellNumber_30 (by decide) (fun c30 => ?_) (fun c30 => ?_)
      · exact fin
      · exact absurd (by decide) c30
    | succ t ih =>
      intro ht hlt1
      have hp10 : 10 ^ (t + 1) ≤ 10 ^ 8 := Nat.pow_le_pow_right (by decide) (by omega)
      have hp1 : 1 ≤ 10 ^ t := Nat.pow_pos (by decide)
      have hps : 10 ^ (t + 1) = 10 ^ t * 10 := Nat.pow_succ ..
      refine q_iload hK dX9_tellNumber_19 rfl ?_
      refine q_aload_n hK 1 dX9_tellNumber_21 rfl rfl ?_
      refine q_iload_n hK 3 dX9_tellNumber_22 rfl rfl ?_
      refine qm_iald hK dX9_tellNumber_23 hn rfl (by omega) ?_
      rw [hF m1 (by omega)]
      refine q_icmp_le hK 43 dX9_tellNumber_24 (by decide) (fun c24 => ?_) (fun c24 => ?_)
      · have hle := (nI_leI (by omega) (by omega)).mp c24
        have hDv : D = 9 * m1 + (t + 1) + 1 := by
          rw [← hD]
          refine lenD_uniq hv1 (by omega) ?_ ?_
          · rw [hbig, show 9 * m1 + (t + 1) + 1 - 1 = (t + 1) + 9 * m1 by omega, Nat.pow_add]
            have : 10 ^ (t + 1) * 10 ^ (9 * m1) ≤ w m1 * 10 ^ (9 * m1) := Nat.mul_le_mul_right _ hle
            omega
          · rw [hbig, show 9 * m1 + (t + 1) + 1 = (t + 1 + 1) + 9 * m1 by omega, Nat.pow_add _ (t + 1 + 1)]
            have : (w m1 + 1) * 10 ^ (9 * m1) ≤ 10 ^ (t + 1 + 1) * 10 ^ (9 * m1) := Nat.mul_le_mul_right _ hlt1
            rw [Nat.add_mul, Nat.one_mul] at this
            omega
        exact dig (t + 1) m1 Z F (fun _ _ _ => True) (by omega) ht (by omega) eqo.rf eqo.rf (by rw [ho]; congr 1; omega) (fun _ _ => rfl) (fun i hi => by omega) (fun Z2 F2 y1 y2 y3 y4 y5 => words m1 _ Z2 F2 (by omega) (by omega) y1 y2 y3 y4 y5)
      have hgt := mt (nI_leI (a := 10 ^ (t + 1)) (b := w m1) (by omega) (by omega)).mpr c24
      refine q_iload hK dX9_tellNumber_27 rfl ?_
      refine q_iconst (v := nI 1) hK dX9_tellNumber_29 (by decide) ?_
      refine q_icmp_le hK 43 dX9_tellNumber_30 (by decide) (fun c30 => ?_) (fun c30 => ?_)
      · have := (nI_leI (by omega) (by decide)).mp c30
        omega
      refine q_iload hK dX9_tellNumber_33 rfl ?_
      refine q_bipush (v := nI 10) hK dX9_tellNumber_35 (by decide) ?_
      refine q_idiv hK dX9_tellNumber_37 (by decide) ?_
      refine q_istore hK dX9_tellNumber_38 (by decide) ?_
      refine q_goto hK 19 dX9_tellNumber_40 (by decide) ?_
      rw [show nI (10 ^ (t + 1)) / nI 10 = nI (10 ^ t) by rw [show nI (10 ^ (t + 1)) / nI 10 = nI (10 ^ (t + 1) / 10) from pk_div (by omega) (by decide) (by decide), hps, Nat.mul_div_cancel _ (by decide)]]
      exact ih (by omega) (by omega)
  exact top 8 (by decide) (by rw [← show bB = 10 ^ (8 + 1) from rfl]; exact hwl)
theorem M_show {σ : Sg} {s : Int32} {Q : Int32 → Mem → Prop} (hI : MI Z F σ) (h : ∀ Z' F' L', MI Z' F' (sp_show σ s).2 → Q (sp_show σ s).1 (MM X Z' F' L' g)) : CallI X 9 yX9_show [rf X 0, .int s] (MM X Z F L g) Q := by
  refine CallM_intro (own := RX9) [some (rf X 0), some (.int s)] wX9_show (by decide) (by decide) rfl (Nat.le_of_ble_eq_true rfl) rfl (fun K hK hR => ?_)
  refine q_iload_n hK 1 dX9_show_0 rfl rfl ?_
  refine q_cSi1 hK dX9_show_1 lX9_111 (by decide) (Nat.le_of_ble_eq_true rfl) (m_isShelf ?_)
  refine q_if_ne hK 13 dX9_show_4 (by decide) (fun c4 => ?_) (fun c4 => ?_)
  rotate_left
  · have hs := (b2i_eq0 _).mp c4
    simp only [sp_show, hs] at h
    refine q_aload_n hK 0 dX9_show_7 rfl rfl ?_
    refine q_iconst (v := nI 1) hK dX9_show_8 (by decide) ?_
    refine q_cVi1 hK dX9_show_9 lX9_136 (by decide) (by decide) rfl (Nat.le_of_ble_eq_true rfl) (m_none ?_)
    exact q_iret hR dX9_show_12 rfl ⟨_, rfl, h _ _ _ (hI.st 1)⟩
  have hs := (b2i_ne0 _).mp c4
  obtain ⟨ia, ha1, rfl, ha2⟩ := isIn_ex hs (by decide)
  simp only [sp_show, hs, onS, rowS, ha2, if_true] at h
  refine q_aload_n hK 0 dX9_show_13 rfl rfl ?_
  refine q_getf hK dX9_show_14 fX9_13 (by decide) rfl rfl ?_
  refine q_iload_n hK 1 dX9_show_17 rfl rfl ?_
  refine qm_zald hK dX9_show_18 rfl ha1 ?_
  rw [hI.2.1 ia ha1]
  refine q_if_ne hK 28 dX9_show_19 (by decide) (fun c19 => ?_) (fun c19 => ?_)
  rotate_left
  · have ho := (b2i_eq0 _).mp c19
    simp only [ho] at h
    refine q_aload_n hK 0 dX9_show_22 rfl rfl ?_
    refine q_iconst (v := nI 2) hK dX9_show_23 (by decide) ?_
    refine q_cVi1 hK dX9_show_24 lX9_136 (by decide) (by decide) rfl (Nat.le_of_ble_eq_true rfl) (m_none ?_)
    exact q_iret hR dX9_show_27 rfl ⟨_, rfl, h _ _ _ (hI.st 2)⟩
  have oa := (b2i_ne0 _).mp c19
  simp only [oa, if_true] at h
  have rA := hI.2.2.1 ia ha1 oa
  refine q_aload_n hK 0 dX9_show_28 rfl rfl ?_
  refine q_iconst (v := nI 0) hK dX9_show_29 (by decide) ?_
  refine qm_put0 hK dX9_show_30 pX9_66 ?_
  refine q_aload_n hK 0 dX9_show_33 rfl rfl ?_
  refine q_aload_n hK 0 dX9_show_34 rfl rfl ?_
  refine q_getf hK dX9_show_35 fX9_7 (by decide) rfl rfl ?_
  refine q_bipush (v := nI 6) hK dX9_show_38 (by decide) ?_
  refine q_iload_n hK 1 dX9_show_40 rfl rfl ?_
  refine q_imul hK dX9_show_41 ?_
  rw [show nI 6 * nI ia = nI (6 * ia) from pk_mul 6 ia]
  refine q_cVv2 hK dX9_show_42 lX9_89 (by decide) (by decide) rfl (Nat.le_of_ble_eq_true rfl) (m_hold (n := 1) (a := 6 * ia) rfl (by decide) (by show 6 * ia + 6 ≤ 96; omega) (fun f hf => ?_))
  refine q_aload_n hK 0 dX9_show_45 rfl rfl ?_
  have hfit : fits130 (gRow σ ia) := fits_of (fun k hk => by have := (rA k hk).2; omega)
  refine q_cVv0 hK dX9_show_46 lX9_86 (by decide) (by decide) rfl (Nat.le_of_ble_eq_true rfl) (m_products (e := gRow σ ia) (fun k hk => by rw [up_same, hf k hk]; have := rA k hk; exact ⟨this.1, by omega, by omega⟩) hfit (fun Z1 F1 hP => ?_))
  obtain ⟨i1, i2, am, bm, wa, wb, h3, h4, h5, h6, h7, h8, h9, h10⟩ := hP
  have hup : bv wa am = upP (gRow σ ia) := by rw [h9, PP_6]; simp [upP]
  have hlo : bv wb bm = loP (gRow σ ia) := by rw [h10, PP_6]; simp [loP]
  have ham : am ≤ 130 := nrm_room h5 (by rw [hup]; exact hfit.1)
  have hbm : bm ≤ 130 := nrm_room h6 (by rw [hlo]; exact hfit.2)
  have hP24 := P24 (fun k hk => (rA k hk).2)
  refine q_aload_n hK 0 dX9_show_49 rfl rfl ?_
  refine q_iconst (v := nI 0) hK dX9_show_50 (by decide) ?_
  refine qm_put11 hK dX9_show_51 pX9_143 ?_
  refine q_aload_n hK 0 dX9_show_54 rfl rfl ?_
  refine q_aload_n hK 0 dX9_show_55 rfl rfl ?_
  refine q_getf hK dX9_show_56 fX9_17 (by decide) rfl rfl ?_
  refine q_aload_n hK 0 dX9_show_59 rfl rfl ?_
  refine q_getf hK dX9_show_60 fX9_72 (by decide) rfl rfl ?_
  rw [up_ne (by decide : (5 : Nat) ≠ 11), h3]
  refine q_cVv2 hK dX9_show_63 lX9_150 (by decide) (by decide) rfl (Nat.le_of_ble_eq_true rfl) (m_tellNumber (n := 3) (o := 0) (w := wa) rfl (by decide) rfl h5 ham h7 (up_same _ _ _) (by rw [hup]; omega) (fun Z2 F2 x1 x2 x3 x4 x5 => ?_))
  rw [hup, Nat.zero_add] at x3
  rw [hup] at x5
  refine q_aload_n hK 0 dX9_show_66 rfl rfl ?_
  refine q_bipush (v := nI 47) hK dX9_show_67 (by decide) ?_
  refine q_cVv1 hK dX9_show_69 lX9_147 (by decide) (by decide) rfl (Nat.le_of_ble_eq_true rfl) (m_tell x3 (by omega) ?_)
  refine q_aload_n hK 0 dX9_show_72 rfl rfl ?_
  refine q_aload_n hK 0 dX9_show_73 rfl rfl ?_
  refine q_getf hK dX9_show_74 fX9_20 (by decide) rfl rfl ?_
  refine q_aload_n hK 0 dX9_show_77 rfl rfl ?_
  refine q_getf hK dX9_show_78 fX9_75 (by decide) rfl rfl ?_
  have e6 : va_up Z2 11 (nI (lenD (upP (gRow σ ia)) + 1)) 6 = nI bm := by rw [up_ne (by decide), x1 6 (by decide), up_ne (by decide), h4]
  rw [e6]
  refine q_cVv2 hK dX9_show_81 lX9_150 (by decide) (by decide) rfl (Nat.le_of_ble_eq_true rfl) (m_tellNumber (n := 4) (o := lenD (upP (gRow σ ia)) + 1) (w := wb) rfl (by decide) rfl h6 hbm (fun i hi => by rw [up_ne (by decide), x2 4 (by decide)]; exact h8 i hi) (up_same _ _ _) (by rw [hlo]; omega) (fun Z3 F3 y1 y2 y3 y4 y5 => ?_))
  rw [hlo] at y3 y5
  refine q_aload_n hK 0 dX9_show_84 rfl rfl ?_
  refine q_getf hK dX9_show_85 fX9_143 (by decide) rfl rfl ?_
  rw [y3]
  have hz : ∀ j, j ≠ 11 → j ≠ 5 → j ≠ 6 → Z3 j = va_up Z 0 (nI 0) j := fun j q1 q2 q3 => by
    rw [y1 j (by simp; exact q1), up_ne q1, x1 j (by simp; exact q1), up_ne q1, i1 j (by simp; exact ⟨q2, q3⟩)]
  have hff : ∀ j, j ≠ 8 → j ≠ 3 → j ≠ 4 → j ≠ 5 → F3 j = F j := fun j q1 q2 q3 q4 => by
    rw [y2 j (by simp; exact q1), up_ne q1, x2 j (by simp; exact q1), i2 j (by simp; exact ⟨q2, q3⟩), up_ne q4]
  have hM := hI.st 0
  obtain ⟨a1, a2, a3, a4, a5, a6, a7⟩ := hM
  refine q_iret hR dX9_show_88 rfl ⟨_, rfl, h _ _ _ ⟨?_, ?_, ?_, ?_, ?_, ⟨y3, ?_, fun k hk => ?_⟩, ?_⟩⟩
  · rw [hz 0 (by decide) (by decide) (by decide)]; exact a1
  · rw [hff 2 (by decide) (by decide) (by decide) (by decide)]; exact a2
  · rw [hff 1 (by decide) (by decide) (by decide) (by decide)]; exact a3
  · rw [hz 14 (by decide) (by decide) (by decide), hff 10 (by decide) (by decide) (by decide) (by decide)]; exact a4
  · rw [hz 18 (by decide) (by decide) (by decide), hff 12 (by decide) (by decide) (by decide) (by decide)]; exact a5
  · show lenD (upP (gRow σ ia)) + 1 + lenD (loP (gRow σ ia)) ≤ 256
    omega
  · have hk' : k < lenD (upP (gRow σ ia)) + 1 + lenD (loP (gRow σ ia)) := hk
    show F3 8 k = obs (upP (gRow σ ia)) (loP (gRow σ ia)) k
    unfold obs
    split
    · rename_i q
      rw [y4 k (by omega), up_same, upd_ne (by omega)]
      have := x5 k q
      rwa [Nat.zero_add] at this
    · split
      · rename_i q1 q2
        rw [y4 k (by omega), up_same, q2, upd_same]
      · rename_i q1 q2
        have := y5 (k - lenD (upP (gRow σ ia)) - 1) (by omega)
        rw [← this]
        congr 1
        omega
  · rw [hff 9 (by decide) (by decide) (by decide) (by decide)]; exact a7
end M9
