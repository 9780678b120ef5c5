section M2
variable {X : Cx} {Z : Nat → Int32} {F : Nat → Nat → Int32} {L : Nat → Int64} {g : Mem}
theorem lN0 : lN 0 = 0 := rfl
theorem lgc0 {c : Nat} (hc : c < 2 ^ 63) : lg_cmp (lN c) 0 = 0 ↔ c = 0 := by
  rw [← lN0]
  unfold lg_cmp
  by_cases h : c = 0
  · subst h
    simp
  · have h1 : lN c > lN 0 := (pk_lLT (a := 0) (by decide) hc).mpr (by omega)
    simp [h1, h]
/-- multiply: the words of a number times p -/
theorem m_multiply {n many p : Nat} {w : Nat → Nat} {g : Mem} {Q : Int32 → Mem → Prop} (hn : mI n = true) (hl : mlen n = 130) (hp : 0 < p) (hp2 : p ≤ 13) (hw : nrm w many) (hF : ∀ i, i < many → F n i = nI (w i)) (hr : p * bv w many < bB ^ 130)
    (h : ∀ f w' many', nrm w' many' → (∀ i, i < many' → f i = nI (w' i)) → bv w' many' = p * bv w many → Q (nI many') (MM X Z (va_up F n f) L g)) : CallI X 0 yX9_multiply [rf X n, .int (nI many), .int (nI p)] (MM X Z F L g) Q := by
  have hm : many ≤ 130 := nrm_room hw (Nat.lt_of_le_of_lt (Nat.le_mul_of_pos_left _ hp) hr)
  have hcl : ∀ k, k ≤ many → crr w p k < p := fun k hk => crr_lt hp (fun i hi => hw.2.1 i (by omega))
  have hval := dgt_val w p many
  refine CallM_intro (own := RX9) [some (rf X n), some (.int (nI many)), some (.int (nI p)), none, none, none, none, none] wX9_multiply (by decide) (by decide) rfl (Nat.le_of_ble_eq_true rfl) rfl (fun K hK hR => ?_)
  refine q_lconst (v := 0) hK dX9_multiply_0 (by decide) ?_
  refine q_lstore_n hK 3 dX9_multiply_1 rfl (by decide) ?_
  refine q_iconst (v := nI 0) hK dX9_multiply_2 (by decide) ?_
  refine q_istore hK dX9_multiply_3 (by decide) ?_
  have loop : ∀ m k f v6, k + m = many → (∀ i, i < k → f i = nI (dgt w p i)) → (∀ i, k ≤ i → f i = F n i) → K (MM X Z (va_up F n f) L g) 5 [some (rf X n), some (.int (nI many)), some (.int (nI p)), some (.long (lN (crr w p k))), none, some (.int (nI k)), v6, none] [] := by
    intro m
    induction m with
    | zero =>
      intro k f v6 hk hf hg
      have : k = many := by omega
      subst this
      refine q_iload hK dX9_multiply_5 rfl ?_
      refine q_iload_n hK 1 dX9_multiply_7 rfl rfl ?_
      refine q_icmp_ge hK 47 dX9_multiply_8 (by decide) (fun c8 => ?_) (fun c8 => ?_)
      · refine q_lload_n hK 3 dX9_multiply_47 rfl rfl ?_
        refine q_lconst (v := 0) hK dX9_multiply_48 (by decide) ?_
        refine q_lcmp hK dX9_multiply_49 ?_
        have hc63 : crr w p k < 2 ^ 63 := by have := hcl k (Nat.le_refl k); omega
        refine q_if_ne hK 55 dX9_multiply_50 (by decide) (fun c50 => ?_) (fun c50 => ?_)
        · have hne : crr w p k ≠ 0 := fun q => c50 ((lgc0 hc63).mpr q)
          have h130 : k < 130 := by
            rcases Nat.lt_or_ge k 130 with q | q
            · exact q
            · have a1 : 1 * bB ^ k ≤ crr w p k * bB ^ k := Nat.mul_le_mul_right _ (by omega)
              have a2 : bB ^ 130 ≤ bB ^ k := Nat.pow_le_pow_right (by decide) q
              omega
          refine q_aload_n hK 0 dX9_multiply_55 rfl rfl ?_
          refine q_iload_n hK 1 dX9_multiply_56 rfl rfl ?_
          refine q_lload_n hK 3 dX9_multiply_57 rfl rfl ?_
          refine q_l2i hK dX9_multiply_58 ?_
          refine qm_iast hK dX9_multiply_59 hn rfl (by omega) ?_
          refine q_iload_n hK 1 dX9_multiply_60 rfl rfl ?_
          refine q_iconst (v := nI 1) hK dX9_multiply_61 (by decide) ?_
          refine q_iadd hK dX9_multiply_62 ?_
          rw [up_up, up_same, lN_i]
          rw [show nI k + nI 1 = nI (k + 1) from nI_add k 1]
          refine q_iret hR dX9_multiply_63 rfl ⟨_, rfl, h (upd f k (nI (crr w p k))) (fun i => if i = k then crr w p k else dgt w p i) (k + 1) ⟨by omega, fun i hi => ?_, ?_⟩ (fun i hi => ?_) ?_⟩
          · dsimp only
            split
            · have := hcl k (Nat.le_refl k); have : bB = 1000000000 := rfl; omega
            · exact dgt_lt w p i
          · simp [hne]
          · by_cases e : i = k
            · subst e
              simp [upd_same]
            · rw [upd_ne e, hf i (by omega)]
              simp [e]
          · rw [← hval]
            show bv _ k + _ * bB ^ k = _
            rw [bv_congr (u := dgt w p) (fun i hi => by simp [show i ≠ k by omega])]
            simp
        · have hz : crr w p k = 0 := (lgc0 hc63).mp c50
          refine q_iload_n hK 1 dX9_multiply_53 rfl rfl ?_
          rw [hz, Nat.zero_mul, Nat.add_zero] at hval
          refine q_iret hR dX9_multiply_54 rfl ⟨_, rfl, h f (dgt w p) k ⟨hw.1, fun i _ => dgt_lt w p i, ?_⟩ (fun i hi => hf i hi) hval⟩
          intro q
          obtain ⟨j, rfl⟩ : ∃ j, k = j + 1 := ⟨k - 1, by have := hw.1; omega⟩
          rw [Nat.add_sub_cancel] at q
          have b1 := nrm_ge hw
          rw [Nat.add_sub_cancel] at b1
          have b2 := bv_lt (w := dgt w p) (n := j) (fun i _ => dgt_lt w p i)
          have b3 : bv (dgt w p) (j + 1) = bv (dgt w p) j := by rw [bv, q]; omega
          have b4 : bv w (j + 1) ≤ p * bv w (j + 1) := Nat.le_mul_of_pos_left _ hp
          omega
      · exact absurd ((nI_leI (by omega) (by omega)).mpr (Nat.le_refl _)) c8
    | succ m ih =>
      intro k f v6 hk hf hg
      refine q_iload hK dX9_multiply_5 rfl ?_
      refine q_iload_n hK 1 dX9_multiply_7 rfl rfl ?_
      refine q_icmp_ge hK 47 dX9_multiply_8 (by decide) (fun c8 => ?_) (fun c8 => ?_)
      · have := (nI_leI (by omega) (by omega)).mp c8
        omega
      · have hwk := hw.2.1 k (by omega)
        have hck := hcl k (by omega)
        have hB : bB = 1000000000 := rfl
        have hmul : w k * p ≤ 1000000000 * 13 := Nat.mul_le_mul (by omega) hp2
        refine q_aload_n hK 0 dX9_multiply_11 rfl rfl ?_
        refine q_iload hK dX9_multiply_12 rfl ?_
        refine qm_iald hK dX9_multiply_14 hn rfl (by omega) ?_
        refine q_i2l hK dX9_multiply_15 ?_
        refine q_iload_n hK 2 dX9_multiply_16 rfl rfl ?_
        refine q_i2l hK dX9_multiply_17 ?_
        refine q_lmul hK dX9_multiply_18 ?_
        refine q_lload_n hK 3 dX9_multiply_19 rfl rfl ?_
        refine q_ladd hK dX9_multiply_20 ?_
        refine q_lstore hK dX9_multiply_21 (by decide) ?_
        refine q_aload_n hK 0 dX9_multiply_23 rfl rfl ?_
        refine q_iload hK dX9_multiply_24 rfl ?_
        refine q_lload hK dX9_multiply_26 rfl ?_
        refine q_ldc2 hK dX9_multiply_28 nX9_70 ?_
        have e1 : F n k = nI (w k) := hF k (by omega)
        have e2 : (nI (w k)).toInt64 * (nI p).toInt64 + lN (crr w p k) = lN (w k * p + crr w p k) := by
          rw [nI_l (by omega), nI_l (by omega), lN_mul, lN_add]
        have e3 : lN (w k * p + crr w p k) - lN (w k * p + crr w p k) / 1000000000 * 1000000000 = lN (dgt w p k) := pk_lRem (b := 1000000000) (by omega) (by decide) (by decide)
        have e4 : lN (w k * p + crr w p k) / 1000000000 = lN (crr w p (k + 1)) := pk_lDiv (b := 1000000000) (by omega) (by decide) (by decide)
        rw [up_same, hg k (Nat.le_refl k), e1, e2]
        refine q_lrem hK dX9_multiply_31 (by decide) ?_
        refine q_l2i hK dX9_multiply_32 ?_
        refine qm_iast hK dX9_multiply_33 hn rfl (by omega) ?_
        refine q_lload hK dX9_multiply_34 rfl ?_
        refine q_ldc2 hK dX9_multiply_36 nX9_70 ?_
        refine q_ldiv hK dX9_multiply_39 (by decide) ?_
        refine q_lstore_n hK 3 dX9_multiply_40 rfl (by decide) ?_
        refine q_inc1 hK dX9_multiply_41 rfl (by decide) ?_
        refine q_goto hK 5 dX9_multiply_44 (by decide) ?_
        rw [up_up, up_same, e3, e4, lN_i]
        refine ih (k + 1) (upd f k (nI (dgt w p k))) _ (by omega) (fun i hi => ?_) (fun i hi => ?_)
        · by_cases e : i = k
          · rw [e, upd_same]
          · rw [upd_ne e]
            exact hf i (by omega)
        · rw [upd_ne (by omega)]
          exact hg i (by omega)
  have := loop many 0 (F n) none (by omega) (fun i hi => by omega) (fun i hi => rfl)
  rw [up_id] at this
  exact this
end M2
