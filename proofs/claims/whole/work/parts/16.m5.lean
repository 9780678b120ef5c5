theorem mul_bd {x y : Int} {s t : Nat} (h1 : -(s : Int) ≤ x) (h2 : x ≤ s) (h3 : -(t : Int) ≤ y) (h4 : y ≤ t) : -((s * t : Nat) : Int) ≤ x * y ∧ x * y ≤ ((s * t : Nat) : Int) := by
  have h : (x * y).natAbs ≤ s * t := by
    rw [Int.natAbs_mul]
    exact Nat.mul_le_mul (by omega) (by omega)
  omega
section M5
variable {X : Cx} {Z : Nat → Int32} {F : Nat → Nat → Int32} {L : Nat → Int64} {g : Mem}
theorem m_comes {σ : Sg} {s : Nat} {e : Vec} {Q : Int32 → Mem → Prop} (hI : MI Z F σ) (hs : s < 16) (he : hasX (F 5) e) (h : ∀ Z' F', MI Z' F' (sp_put σ s e).2 → Q (sp_put σ s e).1 (MM X Z' F' L g)) : CallI X 1 yX9_comes [rf X 0, .int (nI s)] (MM X Z F L g) Q := by
  refine CallM_intro (own := RX9) [some (rf X 0), some (.int (nI s))] wX9_comes (by decide) (by decide) rfl (Nat.le_of_ble_eq_true rfl) rfl (fun K hK hR => ?_)
  refine q_aload_n hK 0 dX9_comes_0 rfl rfl ?_
  refine q_cVi0 hK dX9_comes_1 lX9_100 (by decide) (by decide) rfl (Nat.le_of_ble_eq_true rfl) (m_isFar ?_)
  rw [farN_V (by decide) he]
  refine q_if_eq hK 13 dX9_comes_4 (by decide) (fun c4 => ?_) (fun c4 => ?_)
  · have hf := (b2i_eq0 _).mp c4
    simp only [sp_put, hf] at h
    refine q_aload_n hK 0 dX9_comes_13 rfl rfl ?_
    refine q_aload_n hK 0 dX9_comes_14 rfl rfl ?_
    refine q_getf hK dX9_comes_15 fX9_7 (by decide) rfl rfl ?_
    refine q_bipush (v := nI 6) hK dX9_comes_18 (by decide) ?_
    refine q_iload_n hK 1 dX9_comes_20 rfl rfl ?_
    refine q_imul hK dX9_comes_21 ?_
    rw [show nI 6 * nI s = nI (6 * s) from pk_mul 6 s]
    refine q_cVv2 hK dX9_comes_22 lX9_108 (by decide) (by decide) rfl (Nat.le_of_ble_eq_true rfl) (m_give (n := 1) (a := 6 * s) rfl (by decide) (by show 6 * s + 6 ≤ 96; omega) (fun f1 h1 h2 => ?_))
    refine q_aload_n hK 0 dX9_comes_25 rfl rfl ?_
    refine q_getf hK dX9_comes_26 fX9_13 (by decide) rfl rfl ?_
    refine q_iload_n hK 1 dX9_comes_29 rfl rfl ?_
    refine q_iconst (v := nI 1) hK dX9_comes_30 (by decide) ?_
    refine qm_zast hK dX9_comes_31 rfl hs rfl ?_
    refine q_aload_n hK 0 dX9_comes_32 rfl rfl ?_
    refine q_iconst (v := nI 0) hK dX9_comes_33 (by decide) ?_
    refine q_cVi1 hK dX9_comes_34 lX9_104 (by decide) (by decide) rfl (Nat.le_of_ble_eq_true rfl) (m_acc ?_)
    have hM := MI.put (f1 := f1) hI hs hf (fun k hk => by rw [h1 k hk]; exact (he k hk).1) h2
    rw [up_ne (by decide : (2 : Nat) ≠ 1)]
    exact q_iret hR dX9_comes_37 rfl ⟨_, rfl, h _ _ hM⟩
  · have hf := (b2i_ne0 _).mp c4
    simp only [sp_put, hf] at h
    refine q_aload_n hK 0 dX9_comes_7 rfl rfl ?_
    refine q_iconst (v := nI 4) hK dX9_comes_8 (by decide) ?_
    refine q_cVi1 hK dX9_comes_9 lX9_104 (by decide) (by decide) rfl (Nat.le_of_ble_eq_true rfl) (m_ref (by decide) (by decide) ?_)
    exact q_iret hR dX9_comes_12 rfl ⟨_, rfl, h _ _ (hI.st 4)⟩
theorem hasX_vec6 (a0 a1 a2 a3 a4 a5 : Int32) (f : Nat → Int32) : hasX (upd (upd (upd (upd (upd (upd f 0 a0) 1 a1) 2 a2) 3 a3) 4 a4) 5 a5) (vec6 a0 a1 a2 a3 a4 a5) := by
  intro k hk
  have hr : ∀ a : Int32, a = jI a.toInt ∧ -2147483648 ≤ a.toInt ∧ a.toInt < 2147483648 := fun a => ⟨jI_of a, by have := Int32.le_toInt a; omega, by have := Int32.toInt_lt a; omega⟩
  have : k = 0 ∨ k = 1 ∨ k = 2 ∨ k = 3 ∨ k = 4 ∨ k = 5 := by omega
  rcases this with rfl | rfl | rfl | rfl | rfl | rfl <;> exact hr _
theorem isIn_ex {x : Int32} {n : Nat} (h : isIn x n = true) (hn : n < 2 ^ 31) : ∃ k, k < n ∧ x = nI k ∧ x.toInt.toNat = k := by
  obtain ⟨k, h1, rfl⟩ := (isIn_iff hn).mp h
  exact ⟨k, h1, rfl, nI_tn (by omega)⟩
theorem M_set {σ : Sg} {s a0 a1 a2 a3 a4 a5 : Int32} {Q : Int32 → Mem → Prop} (hI : MI Z F σ) (h : ∀ Z' F' L', MI Z' F' (sp_set σ s a0 a1 a2 a3 a4 a5).2 → Q (sp_set σ s a0 a1 a2 a3 a4 a5).1 (MM X Z' F' L' g)) : CallI X 9 yX9_set [rf X 0, .int s, .int a0, .int a1, .int a2, .int a3, .int a4, .int a5] (MM X Z F L g) Q := by
  refine CallM_intro (own := RX9) [some (rf X 0), some (.int s), some (.int a0), some (.int a1), some (.int a2), some (.int a3), some (.int a4), some (.int a5)] wX9_set (by decide) (by decide) rfl (Nat.le_of_ble_eq_true rfl) rfl (fun K hK hR => ?_)
  refine q_iload_n hK 1 dX9_set_0 rfl rfl ?_
  refine q_cSi1 hK dX9_set_1 lX9_111 (by decide) (Nat.le_of_ble_eq_true rfl) (m_isShelf ?_)
  refine q_if_ne hK 13 dX9_set_4 (by decide) (fun c4 => ?_) (fun c4 => ?_)
  · have hs := (b2i_ne0 _).mp c4
    simp only [sp_set, hs, if_true] at h
    obtain ⟨k, hk, rfl, hk2⟩ := isIn_ex hs (by decide)
    rw [hk2] at h
    refine q_aload_n hK 0 dX9_set_13 rfl rfl ?_
    refine q_getf hK dX9_set_14 fX9_23 (by decide) rfl rfl ?_
    refine q_iconst (v := nI 0) hK dX9_set_17 (by decide) ?_
    refine q_iload_n hK 2 dX9_set_18 rfl rfl ?_
    refine qm_iast hK dX9_set_19 (n := 5) (k := 0) rfl rfl (by decide) ?_
    refine q_aload_n hK 0 dX9_set_20 rfl rfl ?_
    refine q_getf hK dX9_set_21 fX9_23 (by decide) rfl rfl ?_
    refine q_iconst (v := nI 1) hK dX9_set_24 (by decide) ?_
    refine q_iload_n hK 3 dX9_set_25 rfl rfl ?_
    refine qm_iast hK dX9_set_26 (n := 5) (k := 1) rfl rfl (by decide) ?_
    refine q_aload_n hK 0 dX9_set_27 rfl rfl ?_
    refine q_getf hK dX9_set_28 fX9_23 (by decide) rfl rfl ?_
    refine q_iconst (v := nI 2) hK dX9_set_31 (by decide) ?_
    refine q_iload hK dX9_set_32 rfl ?_
    refine qm_iast hK dX9_set_34 (n := 5) (k := 2) rfl rfl (by decide) ?_
    refine q_aload_n hK 0 dX9_set_35 rfl rfl ?_
    refine q_getf hK dX9_set_36 fX9_23 (by decide) rfl rfl ?_
    refine q_iconst (v := nI 3) hK dX9_set_39 (by decide) ?_
    refine q_iload hK dX9_set_40 rfl ?_
    refine qm_iast hK dX9_set_42 (n := 5) (k := 3) rfl rfl (by decide) ?_
    refine q_aload_n hK 0 dX9_set_43 rfl rfl ?_
    refine q_getf hK dX9_set_44 fX9_23 (by decide) rfl rfl ?_
    refine q_iconst (v := nI 4) hK dX9_set_47 (by decide) ?_
    refine q_iload hK dX9_set_48 rfl ?_
    refine qm_iast hK dX9_set_50 (n := 5) (k := 4) rfl rfl (by decide) ?_
    refine q_aload_n hK 0 dX9_set_51 rfl rfl ?_
    refine q_getf hK dX9_set_52 fX9_23 (by decide) rfl rfl ?_
    refine q_iconst (v := nI 5) hK dX9_set_55 (by decide) ?_
    refine q_iload hK dX9_set_56 rfl ?_
    refine qm_iast hK dX9_set_58 (n := 5) (k := 5) rfl rfl (by decide) ?_
    refine q_aload_n hK 0 dX9_set_59 rfl rfl ?_
    refine q_iload_n hK 1 dX9_set_60 rfl rfl ?_
    simp only [up_up, up_same]
    refine q_cVi1 hK dX9_set_61 lX9_114 (by decide) (by decide) rfl (Nat.le_of_ble_eq_true rfl) (m_comes (e := vec6 a0 a1 a2 a3 a4 a5) (hI.scr eqo.rf (eqo.rf.up (by decide))) hk (by rw [up_same]; exact hasX_vec6 a0 a1 a2 a3 a4 a5 (F 5)) (fun Z' F' hI' => ?_))
    have hr : (sp_put σ k (vec6 a0 a1 a2 a3 a4 a5)).1 = b2i (!farV 24 (vec6 a0 a1 a2 a3 a4 a5)) := by
      unfold sp_put
      cases farV 24 (vec6 a0 a1 a2 a3 a4 a5) <;> rfl
    refine q_iret hR dX9_set_64 (by rw [hr]; exact nar_b _) ⟨_, rfl, h Z' F' L hI'⟩
  · have hs := (b2i_eq0 _).mp c4
    simp only [sp_set, hs] at h
    refine q_aload_n hK 0 dX9_set_7 rfl rfl ?_
    refine q_iconst (v := nI 1) hK dX9_set_8 (by decide) ?_
    refine q_cVi1 hK dX9_set_9 lX9_104 (by decide) (by decide) rfl (Nat.le_of_ble_eq_true rfl) (m_ref (by decide) (by decide) ?_)
    exact q_iret hR dX9_set_12 rfl ⟨_, rfl, h _ _ _ (hI.st 1)⟩
theorem sp_put_b (σ : Sg) (s : Nat) (e : Vec) : ∃ b, (sp_put σ s e).1 = b2i b := by
  unfold sp_put
  cases farV 24 e
  · exact ⟨true, rfl⟩
  · exact ⟨false, rfl⟩
theorem nar_put (σ : Sg) (s : Nat) (e : Vec) : narrow .boolean (.int (sp_put σ s e).1) = .int (sp_put σ s e).1 := by
  obtain ⟨b, hb⟩ := sp_put_b σ s e
  rw [hb]
  exact nar_b b
theorem M_times {σ : Sg} {a b k t : Int32} {Q : Int32 → Mem → Prop} (hI : MI Z F σ) (h : ∀ Z' F' L', MI Z' F' (sp_times σ a b k t).2 → Q (sp_times σ a b k t).1 (MM X Z' F' L' g)) : CallI X 9 yX9_times [rf X 0, .int a, .int b, .int k, .int t] (MM X Z F L g) Q := by
  refine CallM_intro (own := RX9) [some (rf X 0), some (.int a), some (.int b), some (.int k), some (.int t), none] wX9_times (by decide) (by decide) rfl (Nat.le_of_ble_eq_true rfl) rfl (fun K hK hR => ?_)
  have bad1 : (isIn a 16 && isIn b 16 && isIn t 16) = false → K (MM X Z F L g) 22 [some (rf X 0), some (.int a), some (.int b), some (.int k), some (.int t), none] [] := by
    intro hb
    simp only [sp_times, hb] at h
    refine q_aload_n hK 0 dX9_times_22 rfl rfl ?_
    refine q_iconst (v := nI 1) hK dX9_times_23 (by decide) ?_
    refine q_cVi1 hK dX9_times_24 lX9_104 (by decide) (by decide) rfl (Nat.le_of_ble_eq_true rfl) (m_ref (by decide) (by decide) ?_)
    exact q_iret hR dX9_times_27 rfl ⟨_, rfl, h _ _ _ (hI.st 1)⟩
  refine q_iload_n hK 1 dX9_times_0 rfl rfl ?_
  refine q_cSi1 hK dX9_times_1 lX9_111 (by decide) (Nat.le_of_ble_eq_true rfl) (m_isShelf ?_)
  refine q_if_eq hK 22 dX9_times_4 (by decide) (fun c4 => ?_) (fun c4 => ?_)
  · exact bad1 (by simp [(b2i_eq0 _).mp c4])
  have ha := (b2i_ne0 _).mp c4
  refine q_iload_n hK 2 dX9_times_7 rfl rfl ?_
  refine q_cSi1 hK dX9_times_8 lX9_111 (by decide) (Nat.le_of_ble_eq_true rfl) (m_isShelf ?_)
  refine q_if_eq hK 22 dX9_times_11 (by decide) (fun c11 => ?_) (fun c11 => ?_)
  · exact bad1 (by simp [(b2i_eq0 _).mp c11])
  have hb := (b2i_ne0 _).mp c11
  refine q_iload hK dX9_times_14 rfl ?_
  refine q_cSi1 hK dX9_times_16 lX9_111 (by decide) (Nat.le_of_ble_eq_true rfl) (m_isShelf ?_)
  refine q_if_ne hK 28 dX9_times_19 (by decide) (fun c19 => ?_) (fun c19 => ?_)
  rotate_left
  · exact bad1 (by simp [(b2i_eq0 _).mp c19])
  have ht := (b2i_ne0 _).mp c19
  clear bad1
  obtain ⟨ia, ha1, rfl, ha2⟩ := isIn_ex ha (by decide)
  obtain ⟨ib, hb1, rfl, hb2⟩ := isIn_ex hb (by decide)
  obtain ⟨it, ht1, rfl, ht2⟩ := isIn_ex ht (by decide)
  simp only [sp_times, ha, hb, ht, onS, rowS, ha2, hb2, ht2, Bool.and_self, if_true] at h
  have bad2 : (gOn σ ia && gOn σ ib) = false → K (MM X Z F L g) 46 [some (rf X 0), some (.int (nI ia)), some (.int (nI ib)), some (.int k), some (.int (nI it)), none] [] := by
    intro hb
    simp only [hb] at h
    refine q_aload_n hK 0 dX9_times_46 rfl rfl ?_
    refine q_iconst (v := nI 2) hK dX9_times_47 (by decide) ?_
    refine q_cVi1 hK dX9_times_48 lX9_104 (by decide) (by decide) rfl (Nat.le_of_ble_eq_true rfl) (m_ref (by decide) (by decide) ?_)
    exact q_iret hR dX9_times_51 rfl ⟨_, rfl, h _ _ _ (hI.st 2)⟩
  refine q_aload_n hK 0 dX9_times_28 rfl rfl ?_
  refine q_getf hK dX9_times_29 fX9_13 (by decide) rfl rfl ?_
  refine q_iload_n hK 1 dX9_times_32 rfl rfl ?_
  refine qm_zald hK dX9_times_33 rfl ha1 ?_
  rw [hI.2.1 ia ha1]
  refine q_if_eq hK 46 dX9_times_34 (by decide) (fun c34 => ?_) (fun c34 => ?_)
  · exact bad2 (by simp [(b2i_eq0 _).mp c34])
  have oa := (b2i_ne0 _).mp c34
  refine q_aload_n hK 0 dX9_times_37 rfl rfl ?_
  refine q_getf hK dX9_times_38 fX9_13 (by decide) rfl rfl ?_
  refine q_iload_n hK 2 dX9_times_41 rfl rfl ?_
  refine qm_zald hK dX9_times_42 rfl hb1 ?_
  rw [hI.2.1 ib hb1]
  refine q_if_ne hK 52 dX9_times_43 (by decide) (fun c43 => ?_) (fun c43 => ?_)
  rotate_left
  · exact bad2 (by simp [(b2i_eq0 _).mp c43])
  have ob := (b2i_ne0 _).mp c43
  clear bad2
  simp only [oa, ob, Bool.and_self, if_true] at h
  have hkr := jI_of k
  have hk1 := Int32.le_toInt k
  have hk2 := Int32.toInt_lt k
  generalize hkv : k.toInt = kv at *
  subst hkr
  have bad3 : ¬ (-24 ≤ kv ∧ kv ≤ 24) → K (MM X Z F L g) 64 [some (rf X 0), some (.int (nI ia)), some (.int (nI ib)), some (.int (jI kv)), some (.int (nI it)), none] [] := by
    intro hb
    have hb' : (decide (-24 ≤ kv) && decide (kv ≤ 24)) = false := by simp; omega
    simp only [hb'] at h
    refine q_aload_n hK 0 dX9_times_64 rfl rfl ?_
    refine q_iconst (v := nI 3) hK dX9_times_65 (by decide) ?_
    refine q_cVi1 hK dX9_times_66 lX9_104 (by decide) (by decide) rfl (Nat.le_of_ble_eq_true rfl) (m_ref (by decide) (by decide) ?_)
    exact q_iret hR dX9_times_69 rfl ⟨_, rfl, h _ _ _ (hI.st 3)⟩
  refine q_iload_n hK 3 dX9_times_52 rfl rfl ?_
  refine q_bipush (v := jI (-24)) hK dX9_times_53 (by decide) ?_
  refine q_icmp_lt hK 64 dX9_times_55 (by decide) (fun c55 => ?_) (fun c55 => ?_)
  · exact bad3 (fun q => by have := (jI_lt (by omega) (by omega) (by decide) (by decide)).mp c55; omega)
  have k1 := mt (jI_lt (a := kv) (b := -24) (by omega) (by omega) (by decide) (by decide)).mpr c55
  refine q_iload_n hK 3 dX9_times_58 rfl rfl ?_
  refine q_bipush (v := nI 24) hK dX9_times_59 (by decide) ?_
  refine q_icmp_le hK 70 dX9_times_61 (by decide) (fun c61 => ?_) (fun c61 => ?_)
  rotate_left
  · exact bad3 (fun q => c61 (by rw [jI_nat]; exact (jI_le (by omega) (by omega) (by decide) (by decide)).mpr q.2))
  rw [jI_nat] at c61
  have k2 := (jI_le (a := kv) (b := 24) (by omega) (by omega) (by decide) (by decide)).mp c61
  clear bad3
  have hb' : (decide (-24 ≤ kv) && decide (kv ≤ 24)) = true := by simp; omega
  simp only [hb', if_true] at h
  have rA := hI.2.2.1 ia ha1 oa
  have rB := hI.2.2.1 ib hb1 ob
  refine q_aload_n hK 0 dX9_times_70 rfl rfl ?_
  refine q_aload_n hK 0 dX9_times_71 rfl rfl ?_
  refine q_getf hK dX9_times_72 fX9_7 (by decide) rfl rfl ?_
  refine q_bipush (v := nI 6) hK dX9_times_75 (by decide) ?_
  refine q_iload_n hK 1 dX9_times_77 rfl rfl ?_
  refine q_imul hK dX9_times_78 ?_
  rw [show nI 6 * nI ia = nI (6 * ia) from pk_mul 6 ia]
  refine q_cVv2 hK dX9_times_79 lX9_89 (by decide) (by decide) rfl (Nat.le_of_ble_eq_true rfl) (m_hold (n := 1) (a := 6 * ia) rfl (by decide) (by show 6 * ia + 6 ≤ 96; omega) (fun f hf => ?_))
  refine q_iconst (v := nI 0) hK dX9_times_82 (by decide) ?_
  refine q_istore hK dX9_times_83 (by decide) ?_
  have loop : ∀ m i f', i + m = 6 → (∀ j, j < i → f' j = jI (gRow σ ia j + kv * gRow σ ib j)) → (∀ j, i ≤ j → f' j = f j) → K (MM X Z (va_up F 5 f') L g) 85 [some (rf X 0), some (.int (nI ia)), some (.int (nI ib)), some (.int (jI kv)), some (.int (nI it)), some (.int (nI i))] [] := by
    intro m
    induction m with
    | zero =>
      intro i f' hi h1 h2
      refine q_iload hK dX9_times_85 rfl ?_
      refine q_bipush (v := nI 6) hK dX9_times_87 (by decide) ?_
      refine q_icmp_ge hK 122 dX9_times_89 (by decide) (fun c89 => ?_) (fun c89 => ?_)
      · refine q_aload_n hK 0 dX9_times_122 rfl rfl ?_
        refine q_iload hK dX9_times_123 rfl ?_
        refine q_cVi1 hK dX9_times_125 lX9_114 (by decide) (by decide) rfl (Nat.le_of_ble_eq_true rfl) (m_comes (e := fun j => gRow σ ia j + kv * gRow σ ib j) (hI.scr eqo.rf (eqo.rf.up (by decide))) ht1 ?_ (fun Z' F' hI' => ?_))
        · intro j hj
          obtain ⟨-, q1, q2⟩ := rA j hj
          obtain ⟨-, q3, q4⟩ := rB j hj
          have b1 := mul_bd (x := kv) (y := gRow σ ib j) (s := 24) (t := 24) (by omega) (by omega) (by omega) (by omega)
          rw [up_same]
          exact ⟨h1 j (by omega), by dsimp only; omega, by dsimp only; omega⟩
        · exact q_iret hR dX9_times_128 (nar_put ..) ⟨_, rfl, h Z' F' L hI'⟩
      · exact absurd ((nI_leI (by decide) (by omega)).mpr (by omega)) c89
    | succ m ih =>
      intro i f' hi h1 h2
      refine q_iload hK dX9_times_85 rfl ?_
      refine q_bipush (v := nI 6) hK dX9_times_87 (by decide) ?_
      refine q_icmp_ge hK 122 dX9_times_89 (by decide) (fun c89 => ?_) (fun c89 => ?_)
      · have := (nI_leI (by decide) (by omega)).mp c89
        omega
      · refine q_aload_n hK 0 dX9_times_92 rfl rfl ?_
        refine q_getf hK dX9_times_93 fX9_23 (by decide) rfl rfl ?_
        refine q_iload hK dX9_times_96 rfl ?_
        refine q_dup2 hK dX9_times_98 rfl rfl ?_
        refine qm_iald hK dX9_times_99 (n := 5) (k := i) rfl rfl (by show i < 6; omega) ?_
        refine q_iload_n hK 3 dX9_times_100 rfl rfl ?_
        refine q_aload_n hK 0 dX9_times_101 rfl rfl ?_
        refine q_getf hK dX9_times_102 fX9_7 (by decide) rfl rfl ?_
        refine q_bipush (v := nI 6) hK dX9_times_105 (by decide) ?_
        refine q_iload_n hK 2 dX9_times_107 rfl rfl ?_
        refine q_imul hK dX9_times_108 ?_
        refine q_iload hK dX9_times_109 rfl ?_
        refine q_iadd hK dX9_times_111 ?_
        refine qm_iald hK dX9_times_112 (n := 1) (k := 6 * ib + i) rfl (by rw [pk_mul, nI_add]) (by show _ < 96; omega) ?_
        refine q_imul hK dX9_times_113 ?_
        refine q_iadd hK dX9_times_114 ?_
        refine qm_iast hK dX9_times_115 (n := 5) (k := i) rfl rfl (by show i < 6; omega) ?_
        refine q_inc1 hK dX9_times_116 rfl (by decide) ?_
        refine q_goto hK 85 dX9_times_119 (by decide) ?_
        rw [up_up, up_same, up_ne (by decide : (1 : Nat) ≠ 5), h2 i (Nat.le_refl i), hf i (by omega), (rA i (by omega)).1, (rB i (by omega)).1, jI_mul, jI_add]
        refine ih (i + 1) _ (by omega) (fun j hj => ?_) (fun j hj => ?_)
        · by_cases e : j = i
          · rw [e, upd_same]
          · rw [upd_ne e]
            exact h1 j (by omega)
        · rw [upd_ne (by omega)]
          exact h2 j (by omega)
  exact loop 6 0 f rfl (fun j hj => by omega) (fun j _ => rfl)
end M5
