-- ===== the reference's table
def hasT (m : Nat) (L : Nat → Int64) (T : Tb) : Prop := ∀ r k, r < m → k < 6 → L (6 * r + k) = T r k
theorem hasT_upd {m : Nat} {L : Nat → Int64} {T : Tb} {a i : Nat} {x : Int64} (h : hasT m L T) (hi : i < 6) : hasT m (vp_updL L (6 * a + i) x) (fun r k => if r = a ∧ k = i then x else T r k) := by
  intro r k hr hk
  unfold vp_updL
  dsimp only
  by_cases e : r = a ∧ k = i
  · rw [if_pos (by omega), if_pos e]
  · rw [if_neg (by omega), if_neg e]
    exact h r k hr hk
theorem hasT_congr {m : Nat} {L : Nat → Int64} {T T' : Tb} (h : hasT m L T) (he : ∀ r k, r < m → k < 6 → T r k = T' r k) : hasT m L T' := fun r k hr hk => (h r k hr hk).trans (he r k hr hk)
section M17
variable {X : Cx} {Z : Nat → Int32} {F : Nat → Nat → Int32} {L : Nat → Int64} {g : Mem}
theorem m_change {m a b : Nat} {T : Tb} {Q : Mem → Prop} (hm : m ≤ 6) (ha : a < m) (hb : b < m) (hT : hasT m L T) (h : ∀ L', hasT m L' (swp T a b) → Q (MM X Z F L' g)) : CallV X 0 yX9_change [rf X 0, .int (nI a), .int (nI b)] (MM X Z F L g) Q := by
  refine CallM_intro (own := RX9) [some (rf X 0), some (.int (nI a)), some (.int (nI b)), none, none, none] wX9_change (by decide) (by decide) rfl (Nat.le_of_ble_eq_true rfl) rfl (fun K hK hR => ?_)
  refine q_iconst (v := nI 0) hK dX9_change_0 (by decide) ?_
  refine q_istore_n hK 3 dX9_change_1 rfl (by decide) ?_
  have loop : ∀ n k L v4 v5, k + n = 6 → hasT m L (fun r j => if j < k then swp T a b r j else T r j) → K (MM X Z F L g) 2 [some (rf X 0), some (.int (nI a)), some (.int (nI b)), some (.int (nI k)), v4, v5] [] := by
    intro n
    induction n with
    | zero =>
      intro k L v4 v5 hk hL
      refine q_iload_n hK 3 dX9_change_2 rfl rfl ?_
      refine q_bipush (v := nI 6) hK dX9_change_3 (by decide) ?_
      refine q_icmp_ge hK 62 dX9_change_5 (by decide) (fun c5 => ?_) (fun c5 => ?_)
      · exact q_vret hR dX9_change_62 ⟨rfl, h L (hasT_congr hL (fun r j _ hj => if_pos (by omega)))⟩
      · exact absurd ((nI_leI (by decide) (by omega)).mpr (by omega)) c5
    | succ n ih =>
      intro k L v4 v5 hk hL
      refine q_iload_n hK 3 dX9_change_2 rfl rfl ?_
      refine q_bipush (v := nI 6) hK dX9_change_3 (by decide) ?_
      refine q_icmp_ge hK 62 dX9_change_5 (by decide) (fun c5 => ?_) (fun c5 => ?_)
      · have := (nI_leI (by decide) (by omega)).mp c5
        omega
      have hak := hL a k ha (by omega)
      have hbk := hL b k hb (by omega)
      dsimp only at hak hbk
      rw [if_neg (Nat.lt_irrefl k)] at hak hbk
      refine q_aload_n hK 0 dX9_change_8 rfl rfl ?_
      refine q_getf hK dX9_change_9 fX9_41 (by decide) rfl rfl ?_
      refine q_bipush (v := nI 6) hK dX9_change_12 (by decide) ?_
      refine q_iload_n hK 1 dX9_change_14 rfl rfl ?_
      refine q_imul hK dX9_change_15 ?_
      refine q_iload_n hK 3 dX9_change_16 rfl rfl ?_
      refine q_iadd hK dX9_change_17 ?_
      refine qm_lald hK dX9_change_18 (k := 6 * a + k) (by rw [pk_mul, nI_add]) (by omega) ?_
      refine q_lstore hK dX9_change_19 (by decide) ?_
      refine q_aload_n hK 0 dX9_change_21 rfl rfl ?_
      refine q_getf hK dX9_change_22 fX9_41 (by decide) rfl rfl ?_
      refine q_bipush (v := nI 6) hK dX9_change_25 (by decide) ?_
      refine q_iload_n hK 1 dX9_change_27 rfl rfl ?_
      refine q_imul hK dX9_change_28 ?_
      refine q_iload_n hK 3 dX9_change_29 rfl rfl ?_
      refine q_iadd hK dX9_change_30 ?_
      refine q_aload_n hK 0 dX9_change_31 rfl rfl ?_
      refine q_getf hK dX9_change_32 fX9_41 (by decide) rfl rfl ?_
      refine q_bipush (v := nI 6) hK dX9_change_35 (by decide) ?_
      refine q_iload_n hK 2 dX9_change_37 rfl rfl ?_
      refine q_imul hK dX9_change_38 ?_
      refine q_iload_n hK 3 dX9_change_39 rfl rfl ?_
      refine q_iadd hK dX9_change_40 ?_
      refine qm_lald hK dX9_change_41 (k := 6 * b + k) (by rw [pk_mul, nI_add]) (by omega) ?_
      refine qm_last hK dX9_change_42 (k := 6 * a + k) (by rw [pk_mul, nI_add]) (by omega) ?_
      refine q_aload_n hK 0 dX9_change_43 rfl rfl ?_
      refine q_getf hK dX9_change_44 fX9_41 (by decide) rfl rfl ?_
      refine q_bipush (v := nI 6) hK dX9_change_47 (by decide) ?_
      refine q_iload_n hK 2 dX9_change_49 rfl rfl ?_
      refine q_imul hK dX9_change_50 ?_
      refine q_iload_n hK 3 dX9_change_51 rfl rfl ?_
      refine q_iadd hK dX9_change_52 ?_
      refine q_lload hK dX9_change_53 rfl ?_
      refine qm_last hK dX9_change_55 (k := 6 * b + k) (by rw [pk_mul, nI_add]) (by omega) ?_
      refine q_inc1 hK dX9_change_56 rfl (by decide) ?_
      refine q_goto hK 2 dX9_change_59 (by decide) ?_
      rw [hak, hbk]
      refine ih (k + 1) _ _ _ (by omega) (hasT_congr (hasT_upd (hasT_upd hL (by omega)) (by omega)) (fun r j _ hj => ?_))
      dsimp only [swp]
      grind
  exact loop 6 0 L none none rfl (hasT_congr hT (fun r j _ hj => (if_neg (Nat.not_lt_zero j)).symm))
theorem swp_d {α : Type} (T : Nat → Nat → α) (p d : Nat) : swp T p d d = T p := by
  unfold swp
  split
  · rename_i e
    rw [← e]
  · rw [if_pos rfl]
theorem m_rankOf {m : Nat} {T : Tb} {Q : Int32 → Mem → Prop} (hm : m ≤ 6) (hT : hasT m L T) (h : ∀ L', hasT m L' (el m 6 0 0 1 T).2.2 → Q (nI (el m 6 0 0 1 T).1) (MM X Z F L' g)) : CallI X 1 yX9_rankOf [rf X 0, .int (nI m)] (MM X Z F L g) Q := by
  refine CallM_intro (own := RX9) [some (rf X 0), some (.int (nI m)), none, none, none, none, none, none, none, none, none, none, none] wX9_rankOf (by decide) (by decide) rfl (Nat.le_of_ble_eq_true rfl) rfl (fun K hK hR => ?_)
  refine q_lconst (v := 1) hK dX9_rankOf_0 (by decide) ?_
  refine q_lstore_n hK 2 dX9_rankOf_1 rfl (by decide) ?_
  refine q_iconst (v := nI 0) hK dX9_rankOf_2 (by decide) ?_
  refine q_istore hK dX9_rankOf_3 (by decide) ?_
  refine q_iconst (v := nI 0) hK dX9_rankOf_5 (by decide) ?_
  refine q_istore hK dX9_rankOf_6 (by decide) ?_
  generalize hRs : el m 6 0 0 1 T = Rs at h
  have loop : ∀ f c d l L T v6 v7 v8 v9 v10 v11 v12, c + f = 6 → d ≤ m → l ≠ 0 → el m f c d l T = Rs → hasT m L T → K (MM X Z F L g) 8 [some (rf X 0), some (.int (nI m)), some (.long l), none, some (.int (nI d)), some (.int (nI c)), v6, v7, v8, v9, v10, v11, v12] [] := by
    intro f
    induction f with
    | zero =>
      intro c d l L T v6 v7 v8 v9 v10 v11 v12 hc hd hl he hL
      rw [← he] at h
      refine q_iload hK dX9_rankOf_8 rfl ?_
      refine q_bipush (v := nI 6) hK dX9_rankOf_10 (by decide) ?_
      refine q_icmp_ge hK 196 dX9_rankOf_12 (by decide) (fun c12 => ?_) (fun c12 => ?_)
      · refine q_iload hK dX9_rankOf_196 rfl ?_
        exact q_iret hR dX9_rankOf_198 rfl ⟨_, rfl, h L hL⟩
      · exact absurd ((nI_leI (by decide) (by omega)).mpr (by omega)) c12
    | succ f ih =>
      intro c d l L T v6 v7 v8 v9 v10 v11 v12 hc hd hl he hL
      unfold el at he
      refine q_iload hK dX9_rankOf_8 rfl ?_
      refine q_bipush (v := nI 6) hK dX9_rankOf_10 (by decide) ?_
      refine q_icmp_ge hK 196 dX9_rankOf_12 (by decide) (fun c12 => ?_) (fun c12 => ?_)
      · have := (nI_leI (by decide) (by omega)).mp c12
        omega
      refine q_iload hK dX9_rankOf_15 rfl ?_
      refine q_iload_n hK 1 dX9_rankOf_17 rfl rfl ?_
      refine q_icmp_ge hK 196 dX9_rankOf_18 (by decide) (fun c18 => ?_) (fun c18 => ?_)
      · have hdm := (nI_leI (by omega) (by omega)).mp c18
        rw [if_neg (by omega)] at he
        rw [← he] at h
        refine q_iload hK dX9_rankOf_196 rfl ?_
        exact q_iret hR dX9_rankOf_198 rfl ⟨_, rfl, h L hL⟩
      have hdm : d < m := by have := mt (nI_leI (a := m) (b := d) (by omega) (by omega)).mpr c18; omega
      rw [if_pos hdm] at he
      obtain ⟨q1, q2, q3, q4⟩ := fpv_spec T c (m - d) d
      generalize hp : fpv T c (m - d) d = p at he q1 q2 q3 q4
      refine q_iload hK dX9_rankOf_21 rfl ?_
      refine q_istore hK dX9_rankOf_23 (by decide) ?_
      have after : K (MM X Z F L g) 55 [some (rf X 0), some (.int (nI m)), some (.long l), none, some (.int (nI d)), some (.int (nI c)), some (.int (nI p)), v7, v8, v9, v10, v11, v12] [] := by
        refine q_iload hK dX9_rankOf_55 rfl ?_
        refine q_iload_n hK 1 dX9_rankOf_57 rfl rfl ?_
        refine q_icmp_ne hK 64 dX9_rankOf_58 (by decide) (fun c58 => ?_) (fun c58 => ?_)
        rotate_left
        · have hpm : p = m := (nI_eq (by omega) (by omega)).mp c58
          rw [if_pos hpm] at he
          refine q_goto hK 190 dX9_rankOf_61 (by decide) ?_
          refine q_inc1 hK dX9_rankOf_190 rfl (by decide) ?_
          refine q_goto hK 8 dX9_rankOf_193 (by decide) ?_
          exact ih (c + 1) d l L T _ _ _ _ _ _ _ (by omega) hd hl he hL
        have hpm : p ≠ m := fun z => c58 (by rw [z])
        rw [if_neg hpm] at he
        refine q_aload_n hK 0 dX9_rankOf_64 rfl rfl ?_
        refine q_iload hK dX9_rankOf_65 rfl ?_
        refine q_iload hK dX9_rankOf_67 rfl ?_
        refine q_cVv2 hK dX9_rankOf_69 lX9_165 (by decide) (by decide) rfl (Nat.le_of_ble_eq_true rfl) (m_change hm (by omega) hdm hL (fun L1 hL1 => ?_))
        refine q_aload_n hK 0 dX9_rankOf_72 rfl rfl ?_
        refine q_getf hK dX9_rankOf_73 fX9_41 (by decide) rfl rfl ?_
        refine q_bipush (v := nI 6) hK dX9_rankOf_76 (by decide) ?_
        refine q_iload hK dX9_rankOf_78 rfl ?_
        refine q_imul hK dX9_rankOf_80 ?_
        refine q_iload hK dX9_rankOf_81 rfl ?_
        refine q_iadd hK dX9_rankOf_83 ?_
        refine qm_lald hK dX9_rankOf_84 (k := 6 * d + c) (by rw [pk_mul, nI_add]) (by omega) ?_
        refine q_lstore hK dX9_rankOf_85 (by decide) ?_
        refine q_iload hK dX9_rankOf_87 rfl ?_
        refine q_iconst (v := nI 1) hK dX9_rankOf_89 (by decide) ?_
        refine q_iadd hK dX9_rankOf_90 ?_
        refine q_istore hK dX9_rankOf_91 (by decide) ?_
        rw [hL1 d c hdm (by omega), show nI d + nI 1 = nI (d + 1) from nI_add d 1]
        have hits : swp T p d d c = T p c := by rw [swp_d]
        rw [← hits] at he q3
        generalize hT1 : swp T p d = T1 at he hL1 q3
        have rows : ∀ e r L v10 v11 v12, r + e = m → d + 1 ≤ r → hasT m L (fun i k => if i < r then stp T1 d c l m i k else T1 i k) → K (MM X Z F L g) 93 [some (rf X 0), some (.int (nI m)), some (.long l), none, some (.int (nI d)), some (.int (nI c)), some (.int (nI p)), some (.long (T1 d c)), none, some (.int (nI r)), v10, v11, v12] [] := by
          intro e
          induction e with
          | zero =>
            intro r L v10 v11 v12 hr hr1 hL
            refine q_iload hK dX9_rankOf_93 rfl ?_
            refine q_iload_n hK 1 dX9_rankOf_95 rfl rfl ?_
            refine q_icmp_ge hK 184 dX9_rankOf_96 (by decide) (fun c96 => ?_) (fun c96 => ?_)
            rotate_left
            · exact absurd ((nI_leI (by omega) (by omega)).mpr (by omega)) c96
            refine q_lload hK dX9_rankOf_184 rfl ?_
            refine q_lstore_n hK 2 dX9_rankOf_186 rfl (by decide) ?_
            refine q_inc1 hK dX9_rankOf_187 rfl (by decide) ?_
            refine q_inc1 hK dX9_rankOf_190 rfl (by decide) ?_
            refine q_goto hK 8 dX9_rankOf_193 (by decide) ?_
            exact ih (c + 1) (d + 1) _ L _ _ _ _ _ _ _ _ (by omega) (by omega) (q3 (by omega)) he (hasT_congr hL (fun i k hi _ => if_pos (by omega)))
          | succ e ihe =>
            intro r L v10 v11 v12 hr hr1 hL
            refine q_iload hK dX9_rankOf_93 rfl ?_
            refine q_iload_n hK 1 dX9_rankOf_95 rfl rfl ?_
            refine q_icmp_ge hK 184 dX9_rankOf_96 (by decide) (fun c96 => ?_) (fun c96 => ?_)
            · have := (nI_leI (by omega) (by omega)).mp c96
              omega
            refine q_aload_n hK 0 dX9_rankOf_99 rfl rfl ?_
            refine q_getf hK dX9_rankOf_100 fX9_41 (by decide) rfl rfl ?_
            refine q_bipush (v := nI 6) hK dX9_rankOf_103 (by decide) ?_
            refine q_iload hK dX9_rankOf_105 rfl ?_
            refine q_imul hK dX9_rankOf_107 ?_
            refine q_iload hK dX9_rankOf_108 rfl ?_
            refine q_iadd hK dX9_rankOf_110 ?_
            refine qm_lald hK dX9_rankOf_111 (k := 6 * r + c) (by rw [pk_mul, nI_add]) (by omega) ?_
            have hrc := hL r c (by omega) (by omega)
            dsimp only at hrc
            rw [if_neg (Nat.lt_irrefl r)] at hrc
            rw [hrc]
            refine q_lstore hK dX9_rankOf_112 (by decide) ?_
            refine q_iconst (v := nI 0) hK dX9_rankOf_114 (by decide) ?_
            refine q_istore hK dX9_rankOf_115 (by decide) ?_
            have ks : ∀ e2 k L, k + e2 = 6 → hasT m L (fun i j => if i < r ∨ (i = r ∧ j < k) then stp T1 d c l m i j else T1 i j) → K (MM X Z F L g) 117 [some (rf X 0), some (.int (nI m)), some (.long l), none, some (.int (nI d)), some (.int (nI c)), some (.int (nI p)), some (.long (T1 d c)), none, some (.int (nI r)), some (.long (T1 r c)), none, some (.int (nI k))] [] := by
              intro e2
              induction e2 with
              | zero =>
                intro k L hk hL
                refine q_iload hK dX9_rankOf_117 rfl ?_
                refine q_bipush (v := nI 6) hK dX9_rankOf_119 (by decide) ?_
                refine q_icmp_ge hK 178 dX9_rankOf_121 (by decide) (fun c121 => ?_) (fun c121 => ?_)
                rotate_left
                · exact absurd ((nI_leI (by decide) (by omega)).mpr (by omega)) c121
                refine q_inc1 hK dX9_rankOf_178 rfl (by decide) ?_
                refine q_goto hK 93 dX9_rankOf_181 (by decide) ?_
                refine ihe (r + 1) L _ _ _ (by omega) (by omega) (hasT_congr hL (fun i j _ hj => ?_))
                by_cases q : i < r + 1
                · rw [if_pos (by omega), if_pos q]
                · rw [if_neg (by omega), if_neg q]
              | succ e2 ih2 =>
                intro k L hk hL
                refine q_iload hK dX9_rankOf_117 rfl ?_
                refine q_bipush (v := nI 6) hK dX9_rankOf_119 (by decide) ?_
                refine q_icmp_ge hK 178 dX9_rankOf_121 (by decide) (fun c121 => ?_) (fun c121 => ?_)
                · have := (nI_leI (by decide) (by omega)).mp c121
                  omega
                have h1 := hL r k (by omega) (by omega)
                dsimp only at h1
                rw [if_neg (by omega)] at h1
                have h2 := hL d k hdm (by omega)
                dsimp only at h2
                rw [if_pos (by omega), show stp T1 d c l m d k = T1 d k from if_neg (by omega)] at h2
                refine q_aload_n hK 0 dX9_rankOf_124 rfl rfl ?_
                refine q_getf hK dX9_rankOf_125 fX9_41 (by decide) rfl rfl ?_
                refine q_bipush (v := nI 6) hK dX9_rankOf_128 (by decide) ?_
                refine q_iload hK dX9_rankOf_130 rfl ?_
                refine q_imul hK dX9_rankOf_132 ?_
                refine q_iload hK dX9_rankOf_133 rfl ?_
                refine q_iadd hK dX9_rankOf_135 ?_
                refine q_aload_n hK 0 dX9_rankOf_136 rfl rfl ?_
                refine q_getf hK dX9_rankOf_137 fX9_41 (by decide) rfl rfl ?_
                refine q_bipush (v := nI 6) hK dX9_rankOf_140 (by decide) ?_
                refine q_iload hK dX9_rankOf_142 rfl ?_
                refine q_imul hK dX9_rankOf_144 ?_
                refine q_iload hK dX9_rankOf_145 rfl ?_
                refine q_iadd hK dX9_rankOf_147 ?_
                refine qm_lald hK dX9_rankOf_148 (k := 6 * r + k) (by rw [pk_mul, nI_add]) (by omega) ?_
                refine q_lload hK dX9_rankOf_149 rfl ?_
                refine q_lmul hK dX9_rankOf_151 ?_
                refine q_aload_n hK 0 dX9_rankOf_152 rfl rfl ?_
                refine q_getf hK dX9_rankOf_153 fX9_41 (by decide) rfl rfl ?_
                refine q_bipush (v := nI 6) hK dX9_rankOf_156 (by decide) ?_
                refine q_iload hK dX9_rankOf_158 rfl ?_
                refine q_imul hK dX9_rankOf_160 ?_
                refine q_iload hK dX9_rankOf_161 rfl ?_
                refine q_iadd hK dX9_rankOf_163 ?_
                refine qm_lald hK dX9_rankOf_164 (k := 6 * d + k) (by rw [pk_mul, nI_add]) (by omega) ?_
                refine q_lload hK dX9_rankOf_165 rfl ?_
                refine q_lmul hK dX9_rankOf_167 ?_
                refine q_lsub hK dX9_rankOf_168 ?_
                refine q_lload_n hK 2 dX9_rankOf_169 rfl rfl ?_
                refine q_ldiv hK dX9_rankOf_170 hl ?_
                refine qm_last hK dX9_rankOf_171 (k := 6 * r + k) (by rw [pk_mul, nI_add]) (by omega) ?_
                refine q_inc1 hK dX9_rankOf_172 rfl (by decide) ?_
                refine q_goto hK 117 dX9_rankOf_175 (by decide) ?_
                rw [h1, h2, show (T1 r k * T1 d c - T1 d k * T1 r c) / l = stp T1 d c l m r k from (if_pos ⟨by omega, by omega⟩).symm]
                refine ih2 (k + 1) _ (by omega) (hasT_congr (hasT_upd hL (by omega)) (fun i j _ hj => ?_))
                by_cases q : i = r ∧ j = k
                · rw [if_pos q, if_pos (by omega), q.1, q.2]
                · rw [if_neg q]
                  by_cases q5 : i < r ∨ i = r ∧ j < k
                  · rw [if_pos q5, if_pos (by omega)]
                  · rw [if_neg q5, if_neg (by omega)]
            exact ks 6 0 L rfl (hasT_congr hL (fun i j _ _ => by
              by_cases q : i < r
              · rw [if_pos q, if_pos (Or.inl q)]
              · rw [if_neg q, if_neg (by omega)]))
        refine rows (m - (d + 1)) (d + 1) L1 _ _ _ (by omega) (Nat.le_refl _) (hasT_congr hL1 (fun i k hi _ => ?_))
        by_cases q : i < d + 1
        · rw [if_pos q]
          exact (if_neg (by omega)).symm
        · rw [if_neg q]
      have find : ∀ e p', p' + e = m → d ≤ p' → fpv T c e p' = p → K (MM X Z F L g) 25 [some (rf X 0), some (.int (nI m)), some (.long l), none, some (.int (nI d)), some (.int (nI c)), some (.int (nI p')), v7, v8, v9, v10, v11, v12] [] := by
        intro e
        induction e with
        | zero =>
          intro p' he hdp hf
          have : p' = p := hf
          subst this
          refine q_iload hK dX9_rankOf_25 rfl ?_
          refine q_iload_n hK 1 dX9_rankOf_27 rfl rfl ?_
          refine q_icmp_ge hK 55 dX9_rankOf_28 (by decide) (fun c28 => ?_) (fun c28 => ?_)
          · exact after
          · exact absurd ((nI_leI (by omega) (by omega)).mpr (by omega)) c28
        | succ e ihe =>
          intro p' he hdp hf
          refine q_iload hK dX9_rankOf_25 rfl ?_
          refine q_iload_n hK 1 dX9_rankOf_27 rfl rfl ?_
          refine q_icmp_ge hK 55 dX9_rankOf_28 (by decide) (fun c28 => ?_) (fun c28 => ?_)
          · have := (nI_leI (by omega) (by omega)).mp c28
            omega
          unfold fpv at hf
          refine q_aload_n hK 0 dX9_rankOf_31 rfl rfl ?_
          refine q_getf hK dX9_rankOf_32 fX9_41 (by decide) rfl rfl ?_
          refine q_bipush (v := nI 6) hK dX9_rankOf_35 (by decide) ?_
          refine q_iload hK dX9_rankOf_37 rfl ?_
          refine q_imul hK dX9_rankOf_39 ?_
          refine q_iload hK dX9_rankOf_40 rfl ?_
          refine q_iadd hK dX9_rankOf_42 ?_
          refine qm_lald hK dX9_rankOf_43 (k := 6 * p' + c) (by rw [pk_mul, nI_add]) (by omega) ?_
          rw [hL p' c (by omega) (by omega)]
          refine q_lconst (v := 0) hK dX9_rankOf_44 (by decide) ?_
          refine q_lcmp hK dX9_rankOf_45 ?_
          refine q_if_ne hK 55 dX9_rankOf_46 (by decide) (fun c46 => ?_) (fun c46 => ?_)
          · have hne : ¬ T p' c = 0 := fun z => c46 ((lg_cmp_eq _ _).mpr z)
            rw [if_neg hne] at hf
            subst hf
            exact after
          · have hz := (lg_cmp_eq _ _).mp c46
            rw [if_pos hz] at hf
            refine q_inc1 hK dX9_rankOf_49 rfl (by decide) ?_
            refine q_goto hK 25 dX9_rankOf_52 (by decide) ?_
            exact ihe (p' + 1) (by omega) (by omega) hf
      exact find (m - d) d (by omega) (Nat.le_refl _) hp
  exact loop 6 0 0 1 L T none none none none none none none rfl (Nat.zero_le _) (by decide) hRs hT
theorem m_commaRank {σ : Sg} {Q : Int32 → Mem → Prop} (hI : MI Z F σ) (h : ∀ L', Q (nI (rkv (gC σ) (gCr σ))) (MM X Z F L' g)) : CallI X 2 yX9_commaRank [rf X 0] (MM X Z F L g) Q := by
  obtain ⟨z14, hc5, hrow⟩ := hI.2.2.2.1
  refine CallM_intro (own := RX9) [some (rf X 0), none] wX9_commaRank (by decide) (by decide) rfl (Nat.le_of_ble_eq_true rfl) rfl (fun K hK hR => ?_)
  refine q_iconst (v := nI 0) hK dX9_commaRank_0 (by decide) ?_
  refine q_istore_n hK 1 dX9_commaRank_1 rfl (by decide) ?_
  have loop : ∀ n k L, k + n = 6 * gC σ → (∀ j, j < k → L j = (F 10 j).toInt64) → K (MM X Z F L g) 2 [some (rf X 0), some (.int (nI k))] [] := by
    intro n
    induction n with
    | zero =>
      intro k L hk hL
      refine q_iload_n hK 1 dX9_commaRank_2 rfl rfl ?_
      refine q_bipush (v := nI 6) hK dX9_commaRank_3 (by decide) ?_
      refine q_aload_n hK 0 dX9_commaRank_5 rfl rfl ?_
      refine q_getf hK dX9_commaRank_6 fX9_162 (by decide) rfl rfl ?_
      refine q_imul hK dX9_commaRank_9 ?_
      rw [z14, show nI 6 * nI (gC σ) = nI (6 * gC σ) from pk_mul 6 _]
      refine q_icmp_ge hK 32 dX9_commaRank_10 (by decide) (fun c10 => ?_) (fun c10 => ?_)
      rotate_left
      · exact absurd ((nI_leI (by omega) (by omega)).mpr (by omega)) c10
      refine q_aload_n hK 0 dX9_commaRank_32 rfl rfl ?_
      refine q_aload_n hK 0 dX9_commaRank_33 rfl rfl ?_
      refine q_getf hK dX9_commaRank_34 fX9_162 (by decide) rfl rfl ?_
      rw [z14]
      have hT : hasT (gC σ) L (tbC (gCr σ)) := fun r j hr hj => by
        rw [hL _ (by omega), (hrow r hr j hj).1]
        rfl
      refine q_cVi1 hK dX9_commaRank_37 lX9_169 (by decide) (by decide) rfl (Nat.le_of_ble_eq_true rfl) (m_rankOf (by omega) hT (fun L' _ => ?_))
      exact q_iret hR dX9_commaRank_40 rfl ⟨_, rfl, h L'⟩
    | succ n ih =>
      intro k L hk hL
      refine q_iload_n hK 1 dX9_commaRank_2 rfl rfl ?_
      refine q_bipush (v := nI 6) hK dX9_commaRank_3 (by decide) ?_
      refine q_aload_n hK 0 dX9_commaRank_5 rfl rfl ?_
      refine q_getf hK dX9_commaRank_6 fX9_162 (by decide) rfl rfl ?_
      refine q_imul hK dX9_commaRank_9 ?_
      rw [z14, show nI 6 * nI (gC σ) = nI (6 * gC σ) from pk_mul 6 _]
      refine q_icmp_ge hK 32 dX9_commaRank_10 (by decide) (fun c10 => ?_) (fun c10 => ?_)
      · have := (nI_leI (by omega) (by omega)).mp c10
        omega
      refine q_aload_n hK 0 dX9_commaRank_13 rfl rfl ?_
      refine q_getf hK dX9_commaRank_14 fX9_41 (by decide) rfl rfl ?_
      refine q_iload_n hK 1 dX9_commaRank_17 rfl rfl ?_
      refine q_aload_n hK 0 dX9_commaRank_18 rfl rfl ?_
      refine q_getf hK dX9_commaRank_19 fX9_38 (by decide) rfl rfl ?_
      refine q_iload_n hK 1 dX9_commaRank_22 rfl rfl ?_
      refine qm_iald hK dX9_commaRank_23 (n := 10) (k := k) rfl rfl (by show k < 36; omega) ?_
      refine q_i2l hK dX9_commaRank_24 ?_
      refine qm_last hK dX9_commaRank_25 (k := k) rfl (by omega) ?_
      refine q_inc1 hK dX9_commaRank_26 rfl (by decide) ?_
      refine q_goto hK 2 dX9_commaRank_29 (by decide) ?_
      refine ih (k + 1) _ (by omega) (fun j hj => ?_)
      unfold vp_updL
      by_cases e : j = k
      · rw [if_pos e, e]
      · rw [if_neg e]
        exact hL j (by omega)
  exact loop (6 * gC σ) 0 L (by omega) (fun j hj => by omega)
def sp_rank (σ : Sg) : Int32 × Sg := (nI (rkv (gC σ) (gCr σ)), sSt σ 0)
theorem M_rank {σ : Sg} {Q : Int32 → Mem → Prop} (hI : MI Z F σ) (h : ∀ Z' F' L', MI Z' F' (sp_rank σ).2 → Q (sp_rank σ).1 (MM X Z' F' L' g)) : CallI X 9 yX9_rank [rf X 0] (MM X Z F L g) Q := by
  refine CallM_intro (own := RX9) [some (rf X 0)] wX9_rank (by decide) (by decide) rfl (Nat.le_of_ble_eq_true rfl) rfl (fun K hK hR => ?_)
  refine q_aload_n hK 0 dX9_rank_0 rfl rfl ?_
  refine q_iconst (v := nI 0) hK dX9_rank_1 (by decide) ?_
  refine qm_put0 hK dX9_rank_2 pX9_66 ?_
  refine q_aload_n hK 0 dX9_rank_5 rfl rfl ?_
  refine q_cVi0 hK dX9_rank_6 lX9_172 (by decide) (by decide) rfl (Nat.le_of_ble_eq_true rfl) (m_commaRank (hI.st 0) (fun L' => ?_))
  exact q_iret hR dX9_rank_9 rfl ⟨_, rfl, h _ _ L' (hI.st 0)⟩
end M17
