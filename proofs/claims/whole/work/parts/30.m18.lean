-- ===== bits, minors, twist, vanishes
theorem sel_lt {v : Nat} : ∀ {n i : Nat}, i ∈ sel v n → i < n ∧ v / 2 ^ i % 2 = 1
  | 0, i, h => by simp [sel] at h
  | n + 1, i, h => by
    unfold sel at h
    rcases List.mem_append.mp h with q | q
    · have := sel_lt q
      exact ⟨by omega, this.2⟩
    · split at q
      · rename_i hb
        simp only [List.mem_singleton] at q
        subst q
        exact ⟨by omega, hb⟩
      · simp at q
theorem sel_len (v n : Nat) : (sel v n).length ≤ n := by
  induction n with
  | zero => exact Nat.le_refl 0
  | succ n ih =>
    unfold sel
    rw [List.length_append]
    split
    · simp; omega
    · simp; omega
theorem sel_getD {v n j : Nat} (h : j < (sel v n).length) : (sel v n).getD j 0 < n ∧ v / 2 ^ (sel v n).getD j 0 % 2 = 1 := by
  have : (sel v n).getD j 0 ∈ sel v n := by
    rw [List.getD_eq_getElem?_getD, List.getElem?_eq_getElem h]
    exact List.getElem_mem h
  exact sel_lt this
theorem sel56 {v : Nat} (h : v < 32) : sel v 6 = sel v 5 := by
  show sel v 5 ++ _ = _
  have : v / 2 ^ 5 = 0 := Nat.div_eq_of_lt h
  rw [this, if_neg (by decide), List.append_nil]
def plen (v : Nat) : Nat := (sel v 6).length
theorem plen_and : ∀ k, k < 64 → k ≠ 0 → (nI k &&& (nI k - nI 1)) = nI (k &&& (k - 1)) ∧ k &&& (k - 1) < 64 ∧ plen (k &&& (k - 1)) + 1 = plen k := by decide +kernel
theorem bit_and : ∀ a, a < 64 → ∀ i, i < 6 → ((nI a >>> (nI i &&& 31)) &&& nI 1) = nI (a / 2 ^ i % 2) := by decide +kernel
theorem shl_1 : ∀ c, c < 6 → (nI 1 <<< (nI c &&& 31)) = nI (2 ^ c) := by decide +kernel
theorem plen_0 : plen 0 = 0 := by decide
/-- the number that a minor is -/
def mnN (R : Nat → Vec) (a b n : Nat) : Nat := (mnr R a b n).toInt.toNat
theorem mnr_nat {R : Nat → Vec} {a b n : Nat} (hn : n ≤ 5) (hR : ∀ i, i < 5 → a / 2 ^ i % 2 = 1 → ∀ k, k < 6 → -24 ≤ R i k ∧ R i k ≤ 24) : mnr R a b n = lN (mnN R a b n) ∧ mnN R a b n < 2 ^ 62 := by
  have hb : -126806761930752 ≤ (mnr R a b n).toInt ∧ (mnr R a b n).toInt ≤ 126806761930752 ∧ 0 ≤ (mnr R a b n).toInt := by
    unfold mnr
    split
    · rename_i he
      have hA : bdA (fun r k => (tbM R (sel a 5) (sel b 6) r k).toInt) := by
        intro r k
        show -24 ≤ (tbM R (sel a 5) (sel b 6) r k).toInt ∧ (tbM R (sel a 5) (sel b 6) r k).toInt ≤ 24
        unfold tbM
        split
        · rename_i hq
          have h1 := sel_getD hq.1
          have h2 := sel_getD hq.2
          have h3 := hR _ h1.1 h1.2 _ h2.1
          rw [Int32.toInt_toInt64, jI_toInt (by omega) (by omega)]
          exact h3
        · decide
      have := el_bd hn 3 0 n _ (tbM R (sel a 5) (sel b 6)) 1 rfl (by omega) hA ⟨by show (1 : Int64).toInt = 1; decide, fun r k _ _ _ => rfl⟩ (by decide) he
      generalize (el n n 0 0 1 (tbM R (sel a 5) (sel b 6))).2.1 = x at *
      unfold lab
      split
      · rename_i hx
        have hx := Int64.lt_iff_toInt_lt.mp hx
        rw [show (0 : Int64).toInt = 0 by decide] at hx
        rw [Int64.toInt_neg, bm64 (by omega) (by omega)]
        omega
      · rename_i hx
        have hx := mt Int64.lt_iff_toInt_lt.mpr hx
        rw [show (0 : Int64).toInt = 0 by decide] at hx
        omega
    · rw [show (0 : Int64).toInt = 0 by decide]
      omega
  refine ⟨?_, by unfold mnN; omega⟩
  apply Int64.toInt_inj.mp
  rw [pk_lT (by unfold mnN; omega)]
  unfold mnN
  omega
def twB (R : Nat → Vec) (n a : Nat) : Nat → Nat → Nat → Nat
  | 0, _, g => g
  | f + 1, b, g => twB R n a f (b + 1) (if plen b = n then Nat.gcd g (mnN R a b n) else g)
def twA (R : Nat → Vec) (n : Nat) : Nat → Nat → Nat → Nat
  | 0, _, g => g
  | f + 1, a, g => twA R n f (a + 1) (if plen a = n then twB R n a 64 0 g else g)
def twv (c : Nat) (R : Nat → Vec) : Nat := if rkv c R = 0 then 1 else twA R (rkv c R) (2 ^ c) 0 0
def sp_twist (σ : Sg) : Int64 × Sg := (lN (twv (gC σ) (gCr σ)), sSt σ 0)
def sp_vanishes (σ : Sg) (s : Int32) : Int32 × Sg :=
  if isIn s 16 then
    if onS σ s then (b2i (decide (rkv (gC σ + 1) (fun i => if i = gC σ then rowS σ s else gCr σ i) = rkv (gC σ) (gCr σ))), sSt σ 0)
    else (-1, sSt σ 2)
  else (-1, sSt σ 1)
theorem rkv_le (n : Nat) (R : Nat → Vec) : rkv n R ≤ n := (el_le n 6 0 0 1 (tbC R) (Nat.zero_le n)).2.1
section M18
variable {X : Cx} {Z : Nat → Int32} {F : Nat → Nat → Int32} {L : Nat → Int64} {g : Mem}
theorem m_bits {v : Nat} {g : Mem} {Q : Int32 → Mem → Prop} (hv : v < 64) (h : Q (nI (plen v)) g) : CallI X 0 yX9_bits [.int (nI v)] g Q := by
  refine CallM_intro (own := RX9) [some (.int (nI v)), none, none] wX9_bits (by decide) (by decide) rfl (Nat.le_of_ble_eq_true rfl) rfl (fun K hK hR => ?_)
  refine q_iconst (v := nI 0) hK dX9_bits_0 (by decide) ?_
  refine q_istore_n hK 1 dX9_bits_1 rfl (by decide) ?_
  refine q_iload_n hK 0 dX9_bits_2 rfl rfl ?_
  refine q_istore_n hK 2 dX9_bits_3 rfl (by decide) ?_
  have loop : ∀ p k n, k < 64 → plen k = p → n + p = plen v → K g 4 [some (.int (nI v)), some (.int (nI n)), some (.int (nI k))] [] := by
    intro p
    induction p with
    | zero =>
      intro k n hk hp hn
      refine q_iload_n hK 2 dX9_bits_4 rfl rfl ?_
      refine q_if_eq hK 20 dX9_bits_5 (by decide) (fun c5 => ?_) (fun c5 => ?_)
      · refine q_iload_n hK 1 dX9_bits_20 rfl rfl ?_
        rw [← hn] at h
        exact q_iret hR dX9_bits_21 rfl ⟨_, rfl, h⟩
      · have hk0 : k ≠ 0 := fun z => c5 (by rw [z]; rfl)
        have := (plen_and k hk hk0).2.2
        omega
    | succ p ih =>
      intro k n hk hp hn
      refine q_iload_n hK 2 dX9_bits_4 rfl rfl ?_
      refine q_if_eq hK 20 dX9_bits_5 (by decide) (fun c5 => ?_) (fun c5 => ?_)
      · have : k = 0 := (nI_eq (b := 0) (by omega) (by decide)).mp c5
        subst this
        rw [plen_0] at hp
        omega
      · have hk0 : k ≠ 0 := fun z => c5 (by rw [z]; rfl)
        obtain ⟨a1, a2, a3⟩ := plen_and k hk hk0
        refine q_inc1 hK dX9_bits_8 rfl (by decide) ?_
        refine q_iload_n hK 2 dX9_bits_11 rfl rfl ?_
        refine q_iload_n hK 2 dX9_bits_12 rfl rfl ?_
        refine q_iconst (v := nI 1) hK dX9_bits_13 (by decide) ?_
        refine q_isub hK dX9_bits_14 ?_
        refine q_iand hK dX9_bits_15 ?_
        refine q_istore_n hK 2 dX9_bits_16 rfl (by decide) ?_
        refine q_goto hK 4 dX9_bits_17 (by decide) ?_
        rw [a1]
        exact ih _ (n + 1) a2 (by omega) (by omega)
  exact loop (plen v) v 0 hv rfl (by omega)
theorem sel_succ1 {v n : Nat} (h : v / 2 ^ n % 2 = 1) : sel v (n + 1) = sel v n ++ [n] := by
  show sel v n ++ _ = _
  rw [if_pos h]
theorem sel_succ0 {v n : Nat} (h : ¬ v / 2 ^ n % 2 = 1) : sel v (n + 1) = sel v n := by
  show sel v n ++ _ = _
  rw [if_neg h, List.append_nil]
theorem getD_app1 {l : List Nat} {x j : Nat} (h : j < l.length) : (l ++ [x]).getD j 0 = l.getD j 0 := by
  rw [List.getD_eq_getElem?_getD, List.getD_eq_getElem?_getD, List.getElem?_append_left h]
theorem getD_app2 {l : List Nat} {x : Nat} : (l ++ [x]).getD l.length 0 = x := by
  rw [List.getD_eq_getElem?_getD, List.getElem?_append_right (Nat.le_refl _)]
  simp
theorem m_minor {σ : Sg} {a b n : Nat} {Q : Int64 → Mem → Prop} (hI : MI Z F σ) (ha : a < 2 ^ gC σ) (hb : b < 64) (hpa : plen a = n) (hpb : plen b = n) (hn : 1 ≤ n) (h : ∀ L', Q (mnr (gCr σ) a b n) (MM X Z F L' g)) : CallL X 2 yX9_minor [rf X 0, .int (nI a), .int (nI b), .int (nI n)] (MM X Z F L g) Q := by
  obtain ⟨z14, hc5, hrow⟩ := hI.2.2.2.1
  have ha32 : a < 32 := Nat.lt_of_lt_of_le ha (Nat.pow_le_pow_right (n := 2) (by decide) hc5)
  have hn5 : n ≤ 5 := by rw [← hpa]; unfold plen; rw [sel56 ha32]; exact sel_len a 5
  have hla : (sel a 5).length = n := by rw [← hpa]; unfold plen; rw [sel56 ha32]
  have hlb : (sel b 6).length = n := hpb
  have hbit : ∀ i, a / 2 ^ i % 2 = 1 → i < gC σ := by
    intro i hi
    rcases Nat.lt_or_ge i (gC σ) with q | q
    · exact q
    · have : a < 2 ^ i := Nat.lt_of_lt_of_le ha (Nat.pow_le_pow_right (by decide) q)
      rw [Nat.div_eq_of_lt this] at hi
      omega
  refine CallM_intro (own := RX9) [some (rf X 0), some (.int (nI a)), some (.int (nI b)), some (.int (nI n)), none, none, none, none] wX9_minor (by decide) (by decide) rfl (Nat.le_of_ble_eq_true rfl) rfl (fun K hK hR => ?_)
  refine q_iconst (v := nI 0) hK dX9_minor_0 (by decide) ?_
  refine q_istore hK dX9_minor_1 (by decide) ?_
  refine q_iconst (v := nI 0) hK dX9_minor_3 (by decide) ?_
  refine q_istore hK dX9_minor_4 (by decide) ?_
  have loop : ∀ e i L v6 v7, i + e = 5 → hasT (sel a i).length L (tbM (gCr σ) (sel a 5) (sel b 6)) → (sel a i).length ≤ n → (∀ j, j < (sel a i).length → (sel a 5).getD j 0 = (sel a i).getD j 0) → K (MM X Z F L g) 6 [some (rf X 0), some (.int (nI a)), some (.int (nI b)), some (.int (nI n)), some (.int (nI (sel a i).length)), some (.int (nI i)), v6, v7] [] := by
    intro e
    induction e with
    | zero =>
      intro i L v6 v7 hi hL hle hpre
      have : i = 5 := by omega
      subst this
      refine q_iload hK dX9_minor_6 rfl ?_
      refine q_iconst (v := nI 5) hK dX9_minor_8 (by decide) ?_
      refine q_icmp_ge hK 121 dX9_minor_9 (by decide) (fun c9 => ?_) (fun c9 => ?_)
      rotate_left
      · exact absurd ((nI_leI (by decide) (by decide)).mpr (by decide)) c9
      rw [hla] at hL
      refine q_aload_n hK 0 dX9_minor_121 rfl rfl ?_
      refine q_iload_n hK 3 dX9_minor_122 rfl rfl ?_
      have hz : ∀ r, 0 ≤ r → r < n → ∀ k, n ≤ k → tbM (gCr σ) (sel a 5) (sel b 6) r k = 0 := fun r _ _ k hk => if_neg (by omega)
      have hcut := el_cut n n (6 - n) n 0 0 1 _ (by omega) hz
      rw [show n + (6 - n) = 6 by omega] at hcut
      refine q_cVi1 hK dX9_minor_123 lX9_169 (by decide) (by decide) rfl (Nat.le_of_ble_eq_true rfl) (m_rankOf (by omega) hL (fun L' hL' => ?_))
      rw [hcut] at hL' ⊢
      have hle2 := (el_le n n 0 0 1 (tbM (gCr σ) (sel a 5) (sel b 6)) (Nat.zero_le n)).2.1
      refine q_iload_n hK 3 dX9_minor_126 rfl rfl ?_
      refine q_icmp_ge hK 132 dX9_minor_127 (by decide) (fun c127 => ?_) (fun c127 => ?_)
      rotate_left
      · have q := mt (nI_leI (a := n) (b := (el n n 0 0 1 (tbM (gCr σ) (sel a 5) (sel b 6))).1) (by omega) (by omega)).mpr c127
        have e0 : mnr (gCr σ) a b n = 0 := if_neg (by omega)
        rw [e0] at h
        refine q_lconst (v := 0) hK dX9_minor_130 (by decide) ?_
        exact q_lret hR dX9_minor_131 ⟨_, rfl, h L'⟩
      have q := (nI_leI (by omega) (by omega)).mp c127
      have he : (el n n 0 0 1 (tbM (gCr σ) (sel a 5) (sel b 6))).1 = n := by omega
      have hl := el_last n n 0 1 (tbM (gCr σ) (sel a 5) (sel b 6)) (by omega) (fun z => absurd z (by decide)) hn he
      have e0 : mnr (gCr σ) a b n = lab (el n n 0 0 1 (tbM (gCr σ) (sel a 5) (sel b 6))).2.1 := if_pos he
      rw [e0] at h
      have hT := hL' (n - 1) (n - 1) (by omega) (by omega)
      rw [hl] at hT
      refine q_aload_n hK 0 dX9_minor_132 rfl rfl ?_
      refine q_getf hK dX9_minor_133 fX9_41 (by decide) rfl rfl ?_
      refine q_bipush (v := nI 6) hK dX9_minor_136 (by decide) ?_
      refine q_iload_n hK 3 dX9_minor_138 rfl rfl ?_
      refine q_iconst (v := nI 1) hK dX9_minor_139 (by decide) ?_
      refine q_isub hK dX9_minor_140 ?_
      refine q_imul hK dX9_minor_141 ?_
      refine q_iload_n hK 3 dX9_minor_142 rfl rfl ?_
      refine q_iadd hK dX9_minor_143 ?_
      refine q_iconst (v := nI 1) hK dX9_minor_144 (by decide) ?_
      refine q_isub hK dX9_minor_145 ?_
      refine qm_lald hK dX9_minor_146 (k := 6 * (n - 1) + (n - 1)) (by rw [show nI n - nI 1 = nI (n - 1) from pk_sub hn, pk_mul, nI_add, pk_sub (by omega : 1 ≤ 6 * (n - 1) + n)]; congr 1; omega) (by omega) ?_
      rw [hT]
      generalize (el n n 0 0 1 (tbM (gCr σ) (sel a 5) (sel b 6))).2.1 = x at h
      refine q_lstore hK dX9_minor_147 (by decide) ?_
      refine q_lload hK dX9_minor_149 rfl ?_
      refine q_lconst (v := 0) hK dX9_minor_151 (by decide) ?_
      refine q_lcmp hK dX9_minor_152 ?_
      refine q_if_ge hK 162 dX9_minor_153 (by decide) (fun c153 => ?_) (fun c153 => ?_)
      · have hx := (lg_cmp_ge _ _).mp c153
        rw [show lab x = x from if_neg (Int64.not_lt.mpr hx)] at h
        refine q_lload hK dX9_minor_162 rfl ?_
        exact q_lret hR dX9_minor_164 ⟨_, rfl, h L'⟩
      · have hx := mt (lg_cmp_ge x 0).mpr c153
        rw [show lab x = -x from if_pos (Int64.not_le.mp hx)] at h
        refine q_lload hK dX9_minor_156 rfl ?_
        refine q_lneg hK dX9_minor_158 ?_
        refine q_goto hK 164 dX9_minor_159 (by decide) ?_
        exact q_lret hR dX9_minor_164 ⟨_, rfl, h L'⟩
    | succ e ih =>
      intro i L v6 v7 hi hL hle hpre
      refine q_iload hK dX9_minor_6 rfl ?_
      refine q_iconst (v := nI 5) hK dX9_minor_8 (by decide) ?_
      refine q_icmp_ge hK 121 dX9_minor_9 (by decide) (fun c9 => ?_) (fun c9 => ?_)
      · have := (nI_leI (by decide) (by omega)).mp c9
        omega
      refine q_iload_n hK 1 dX9_minor_12 rfl rfl ?_
      refine q_iload hK dX9_minor_13 rfl ?_
      refine q_ishr hK dX9_minor_15 ?_
      refine q_iconst (v := nI 1) hK dX9_minor_16 (by decide) ?_
      refine q_iand hK dX9_minor_17 ?_
      rw [bit_and a (by omega) i (by omega)]
      have hb2 : a / 2 ^ i % 2 < 2 := Nat.mod_lt _ (by decide)
      refine q_if_ne hK 24 dX9_minor_18 (by decide) (fun c18 => ?_) (fun c18 => ?_)
      rotate_left
      · have hb0 : a / 2 ^ i % 2 = 0 := (nI_eq (b := 0) (by omega) (by decide)).mp c18
        have hs := sel_succ0 (v := a) (n := i) (by omega)
        refine q_goto hK 115 dX9_minor_21 (by decide) ?_
        refine q_inc1 hK dX9_minor_115 rfl (by decide) ?_
        refine q_goto hK 6 dX9_minor_118 (by decide) ?_
        rw [← hs] at hL hle hpre ⊢
        exact ih (i + 1) L _ _ (by omega) hL hle hpre
      have hb1 : a / 2 ^ i % 2 = 1 := by
        have : a / 2 ^ i % 2 ≠ 0 := fun z => c18 (by rw [z]; rfl)
        omega
      have hs := sel_succ1 hb1
      have hig := hbit i hb1
      have hlt : (sel a i).length < n := by
        have hmono : ∀ t, (sel a (i + 1)).length ≤ (sel a (i + 1 + t)).length := by
          intro t
          induction t with
          | zero => exact Nat.le_refl _
          | succ t iht =>
            refine Nat.le_trans iht ?_
            show _ ≤ (sel a (i + 1 + t) ++ _).length
            rw [List.length_append]
            omega
        have h1 := hmono (5 - (i + 1))
        rw [show i + 1 + (5 - (i + 1)) = 5 by omega, hla, hs, List.length_append] at h1
        simp at h1
        omega
      have hget : (sel a 5).getD (sel a i).length 0 = i := by
        have hgen : ∀ t, ∀ j, j < (sel a (i + 1)).length → (sel a (i + 1 + t)).getD j 0 = (sel a (i + 1)).getD j 0 ∧ j < (sel a (i + 1 + t)).length := by
          intro t
          induction t with
          | zero => intro j hj; exact ⟨rfl, hj⟩
          | succ t iht =>
            intro j hj
            have := iht j hj
            by_cases q : a / 2 ^ (i + 1 + t) % 2 = 1
            · rw [show i + 1 + (t + 1) = (i + 1 + t) + 1 by omega, sel_succ1 q, getD_app1 this.2, List.length_append]
              exact ⟨this.1, by omega⟩
            · rw [show i + 1 + (t + 1) = (i + 1 + t) + 1 by omega, sel_succ0 q]
              exact this
        have := (hgen (5 - (i + 1)) (sel a i).length (by rw [hs, List.length_append]; simp)).1
        rw [show i + 1 + (5 - (i + 1)) = 5 by omega] at this
        rw [this, hs, getD_app2]
      generalize hr : (sel a i).length = r at *
      refine q_iconst (v := nI 0) hK dX9_minor_24 (by decide) ?_
      refine q_istore hK dX9_minor_25 (by decide) ?_
      refine q_iconst (v := nI 0) hK dX9_minor_27 (by decide) ?_
      refine q_istore hK dX9_minor_28 (by decide) ?_
      -- the rest of the line is 0
      have zeros : ∀ e2 c L v7, c + e2 = 6 → n ≤ c → hasT r L (tbM (gCr σ) (sel a 5) (sel b 6)) → (∀ k, k < c → L (6 * r + k) = tbM (gCr σ) (sel a 5) (sel b 6) r k) → K (MM X Z F L g) 85 [some (rf X 0), some (.int (nI a)), some (.int (nI b)), some (.int (nI n)), some (.int (nI r)), some (.int (nI i)), some (.int (nI c)), v7] [] := by
        intro e2
        induction e2 with
        | zero =>
          intro c L v7 hc hcn hL hLr
          refine q_iload hK dX9_minor_85 rfl ?_
          refine q_bipush (v := nI 6) hK dX9_minor_87 (by decide) ?_
          refine q_icmp_ge hK 112 dX9_minor_89 (by decide) (fun c89 => ?_) (fun c89 => ?_)
          rotate_left
          · exact absurd ((nI_leI (by decide) (by omega)).mpr (by omega)) c89
          refine q_inc1 hK dX9_minor_112 rfl (by decide) ?_
          refine q_inc1 hK dX9_minor_115 rfl (by decide) ?_
          refine q_goto hK 6 dX9_minor_118 (by decide) ?_
          have hlen : (sel a (i + 1)).length = r + 1 := by rw [hs, List.length_append, hr]; rfl
          have := ih (i + 1) L (some (.int (nI c))) v7 (by omega)
          rw [hlen] at this
          refine this (fun q k hq hk => ?_) (by omega) (fun j hj => ?_)
          · by_cases z : q = r
            · rw [z]; exact hLr k (by omega)
            · exact hL q k (by omega) hk
          · rw [hs]
            by_cases z : j = r
            · rw [z, hget, ← hr, getD_app2]
            · rw [getD_app1 (by omega)]
              exact hpre j (by omega)
        | succ e2 ih2 =>
          intro c L v7 hc hcn hL hLr
          refine q_iload hK dX9_minor_85 rfl ?_
          refine q_bipush (v := nI 6) hK dX9_minor_87 (by decide) ?_
          refine q_icmp_ge hK 112 dX9_minor_89 (by decide) (fun c89 => ?_) (fun c89 => ?_)
          · have := (nI_leI (by decide) (by omega)).mp c89
            omega
          refine q_aload_n hK 0 dX9_minor_92 rfl rfl ?_
          refine q_getf hK dX9_minor_93 fX9_41 (by decide) rfl rfl ?_
          refine q_bipush (v := nI 6) hK dX9_minor_96 (by decide) ?_
          refine q_iload hK dX9_minor_98 rfl ?_
          refine q_imul hK dX9_minor_100 ?_
          refine q_iload hK dX9_minor_101 rfl ?_
          refine q_iadd hK dX9_minor_103 ?_
          refine q_lconst (v := 0) hK dX9_minor_104 (by decide) ?_
          refine qm_last hK dX9_minor_105 (k := 6 * r + c) (by rw [pk_mul, nI_add]) (by omega) ?_
          refine q_inc1 hK dX9_minor_106 rfl (by decide) ?_
          refine q_goto hK 85 dX9_minor_109 (by decide) ?_
          refine ih2 (c + 1) _ v7 (by omega) (by omega) (fun q k hq hk => ?_) (fun k hk => ?_)
          · unfold vp_updL
            rw [if_neg (by omega)]
            exact hL q k hq hk
          · unfold vp_updL
            by_cases z : k = c
            · rw [if_pos (by omega), z]
              exact (if_neg (by omega)).symm
            · rw [if_neg (by omega)]
              exact hLr k (by omega)
      have cols : ∀ e2 k L, k + e2 = 6 → hasT r L (tbM (gCr σ) (sel a 5) (sel b 6)) → (sel b k).length ≤ n → (∀ j, j < (sel b k).length → L (6 * r + j) = tbM (gCr σ) (sel a 5) (sel b k) r j) → K (MM X Z F L g) 30 [some (rf X 0), some (.int (nI a)), some (.int (nI b)), some (.int (nI n)), some (.int (nI r)), some (.int (nI i)), some (.int (nI (sel b k).length)), some (.int (nI k))] [] := by
        intro e2
        induction e2 with
        | zero =>
          intro k L hk hL hle2 hLr
          have : k = 6 := by omega
          subst this
          refine q_iload hK dX9_minor_30 rfl ?_
          refine q_bipush (v := nI 6) hK dX9_minor_32 (by decide) ?_
          refine q_icmp_ge hK 85 dX9_minor_34 (by decide) (fun c34 => ?_) (fun c34 => ?_)
          rotate_left
          · exact absurd ((nI_leI (by decide) (by decide)).mpr (by decide)) c34
          rw [hlb] at hLr ⊢
          exact zeros (6 - n) n L _ (by omega) (Nat.le_refl _) hL hLr
        | succ e2 ih2 =>
          intro k L hk hL hle2 hLr
          refine q_iload hK dX9_minor_30 rfl ?_
          refine q_bipush (v := nI 6) hK dX9_minor_32 (by decide) ?_
          refine q_icmp_ge hK 85 dX9_minor_34 (by decide) (fun c34 => ?_) (fun c34 => ?_)
          · have := (nI_leI (by decide) (by omega)).mp c34
            omega
          refine q_iload_n hK 2 dX9_minor_37 rfl rfl ?_
          refine q_iload hK dX9_minor_38 rfl ?_
          refine q_ishr hK dX9_minor_40 ?_
          refine q_iconst (v := nI 1) hK dX9_minor_41 (by decide) ?_
          refine q_iand hK dX9_minor_42 ?_
          rw [bit_and b hb k (by omega)]
          have hk2 : b / 2 ^ k % 2 < 2 := Nat.mod_lt _ (by decide)
          have hl6 := sel_len b k
          refine q_if_ne hK 49 dX9_minor_43 (by decide) (fun c43 => ?_) (fun c43 => ?_)
          rotate_left
          · have hb0 : b / 2 ^ k % 2 = 0 := (nI_eq (b := 0) (by omega) (by decide)).mp c43
            have hsb := sel_succ0 (v := b) (n := k) (by omega)
            refine q_goto hK 79 dX9_minor_46 (by decide) ?_
            refine q_inc1 hK dX9_minor_79 rfl (by decide) ?_
            refine q_goto hK 30 dX9_minor_82 (by decide) ?_
            rw [← hsb] at hle2 hLr ⊢
            exact ih2 (k + 1) L (by omega) hL hle2 hLr
          have hb1 : b / 2 ^ k % 2 = 1 := by
            have : b / 2 ^ k % 2 ≠ 0 := fun z => c43 (by rw [z]; rfl)
            omega
          have hsb := sel_succ1 hb1
          have hlenb : (sel b (k + 1)).length = (sel b k).length + 1 := by rw [hsb, List.length_append]; rfl
          have hmono : ∀ t, (sel b (k + 1)).length ≤ (sel b (k + 1 + t)).length := by
            intro t
            induction t with
            | zero => exact Nat.le_refl _
            | succ t iht =>
              refine Nat.le_trans iht ?_
              show _ ≤ (sel b (k + 1 + t) ++ _).length
              rw [List.length_append]
              omega
          have h6 := hmono (6 - (k + 1))
          rw [show k + 1 + (6 - (k + 1)) = 6 by omega, hlb] at h6
          generalize hq : (sel b k).length = q at *
          refine q_aload_n hK 0 dX9_minor_49 rfl rfl ?_
          refine q_getf hK dX9_minor_50 fX9_41 (by decide) rfl rfl ?_
          refine q_bipush (v := nI 6) hK dX9_minor_53 (by decide) ?_
          refine q_iload hK dX9_minor_55 rfl ?_
          refine q_imul hK dX9_minor_57 ?_
          refine q_iload hK dX9_minor_58 rfl ?_
          refine q_iadd hK dX9_minor_60 ?_
          refine q_aload_n hK 0 dX9_minor_61 rfl rfl ?_
          refine q_getf hK dX9_minor_62 fX9_38 (by decide) rfl rfl ?_
          refine q_bipush (v := nI 6) hK dX9_minor_65 (by decide) ?_
          refine q_iload hK dX9_minor_67 rfl ?_
          refine q_imul hK dX9_minor_69 ?_
          refine q_iload hK dX9_minor_70 rfl ?_
          refine q_iadd hK dX9_minor_72 ?_
          refine qm_iald hK dX9_minor_73 (n := 10) (k := 6 * i + k) rfl (by rw [pk_mul, nI_add]) (by show _ < 36; omega) ?_
          refine q_i2l hK dX9_minor_74 ?_
          refine qm_last hK dX9_minor_75 (k := 6 * r + q) (by rw [pk_mul, nI_add]) (by omega) ?_
          refine q_inc1 hK dX9_minor_76 rfl (by decide) ?_
          refine q_inc1 hK dX9_minor_79 rfl (by decide) ?_
          refine q_goto hK 30 dX9_minor_82 (by decide) ?_
          rw [(hrow i hig k (by omega)).1]
          have := ih2 (k + 1) (vp_updL L (6 * r + q) (jI (gCr σ i k)).toInt64) (by omega)
          rw [hlenb] at this
          refine this (fun t k2 ht hk2 => ?_) (by omega) (fun j hj => ?_)
          · unfold vp_updL
            rw [if_neg (by omega)]
            exact hL t k2 ht hk2
          · unfold vp_updL
            by_cases z : j = q
            · rw [if_pos (by omega), z]
              unfold tbM
              rw [if_pos ⟨by omega, by rw [hlenb]; omega⟩, hget, hsb, ← hq, getD_app2]
            · rw [if_neg (by omega), hLr j (by omega)]
              unfold tbM
              rw [if_pos ⟨by omega, by omega⟩, if_pos ⟨by omega, by rw [hlenb]; omega⟩, hsb, getD_app1 (by omega)]
      exact cols 6 0 L rfl hL (Nat.zero_le _) (fun j hj => absurd hj (Nat.not_lt_zero j))
  exact loop 5 0 L none none rfl (fun r k hr _ => absurd hr (Nat.not_lt_zero r)) (Nat.zero_le _) (fun j hj => absurd hj (Nat.not_lt_zero j))
theorem twB_bd {R : Nat → Vec} {n a : Nat} : ∀ {f b g : Nat}, g < 2 ^ 62 → (∀ b, mnN R a b n < 2 ^ 62) → twB R n a f b g < 2 ^ 62
  | 0, b, g, h, _ => h
  | f + 1, b, g, h, hm => by
    unfold twB
    refine twB_bd ?_ hm
    split
    · rcases Nat.eq_zero_or_pos g with z | z
      · rw [z, Nat.gcd_zero_left]; exact hm b
      · exact Nat.lt_of_le_of_lt (Nat.gcd_le_left _ z) h
    · exact h
theorem M_twist {σ : Sg} {Q : Int64 → Mem → Prop} (hI : MI Z F σ) (h : ∀ Z' F' L', MI Z' F' (sp_twist σ).2 → Q (sp_twist σ).1 (MM X Z' F' L' g)) : CallL X 9 yX9_twist [rf X 0] (MM X Z F L g) Q := by
  have hI0 := hI.st 0
  obtain ⟨z14, hc5, hrow⟩ := hI0.2.2.2.1
  have hc5 : gC σ ≤ 5 := hc5
  have hc32 : 2 ^ gC σ ≤ 32 := Nat.pow_le_pow_right (n := 2) (by decide) hc5
  have hrk := rkv_le (gC σ) (gCr σ)
  refine CallM_intro (own := RX9) [some (rf X 0), none, none, none, none, none, none, none, none, none] wX9_twist (by decide) (by decide) rfl (Nat.le_of_ble_eq_true rfl) rfl (fun K hK hR => ?_)
  refine q_aload_n hK 0 dX9_twist_0 rfl rfl ?_
  refine q_iconst (v := nI 0) hK dX9_twist_1 (by decide) ?_
  refine qm_put0 hK dX9_twist_2 pX9_66 ?_
  refine q_aload_n hK 0 dX9_twist_5 rfl rfl ?_
  refine q_cVi0 hK dX9_twist_6 lX9_172 (by decide) (by decide) rfl (Nat.le_of_ble_eq_true rfl) (m_commaRank hI0 (fun L' => ?_))
  have h := fun L' => h _ _ L' hI0
  simp only [sp_twist, twv] at h
  show K (MM X (va_up Z 0 0) F L' g) (6 + 3) _ (.int (nI (rkv (gC σ) (gCr σ))) :: [])
  generalize hr : rkv (gC σ) (gCr σ) = n at *
  refine q_istore_n hK 1 dX9_twist_9 rfl (by decide) ?_
  refine q_iload_n hK 1 dX9_twist_10 rfl rfl ?_
  refine q_if_ne hK 16 dX9_twist_11 (by decide) (fun c11 => ?_) (fun c11 => ?_)
  rotate_left
  · have hn : n = 0 := (nI_eq (b := 0) (by omega) (by decide)).mp c11
    rw [if_pos hn] at h
    refine q_lconst (v := 1) hK dX9_twist_14 (by decide) ?_
    exact q_lret hR dX9_twist_15 ⟨_, rfl, h L'⟩
  have hn : n ≠ 0 := fun z => c11 (by rw [z]; rfl)
  rw [if_neg hn] at h
  have hmn : ∀ a, a < 2 ^ gC σ → ∀ b, mnr (gCr σ) a b n = lN (mnN (gCr σ) a b n) ∧ mnN (gCr σ) a b n < 2 ^ 62 := by
    intro a ha b
    refine mnr_nat (by omega) (fun i _ hi k hk => ?_)
    have hig : i < gC σ := by
      rcases Nat.lt_or_ge i (gC σ) with q | q
      · exact q
      · have : a < 2 ^ i := Nat.lt_of_lt_of_le ha (Nat.pow_le_pow_right (by decide) q)
        rw [Nat.div_eq_of_lt this] at hi
        omega
    exact (hrow i hig k hk).2
  generalize hres : twA (gCr σ) n (2 ^ gC σ) 0 0 = res at h
  refine q_lconst (v := 0) hK dX9_twist_16 (by decide) ?_
  refine q_lstore_n hK 2 dX9_twist_17 rfl (by decide) ?_
  refine q_iconst (v := nI 0) hK dX9_twist_18 (by decide) ?_
  refine q_istore hK dX9_twist_19 (by decide) ?_
  have loop : ∀ f a gg L v5 v6 v7 v8 v9, a + f = 2 ^ gC σ → gg < 2 ^ 62 → twA (gCr σ) n f a gg = res → K (MM X (va_up Z 0 0) F L g) 21 [some (rf X 0), some (.int (nI n)), some (.long (lN gg)), none, some (.int (nI a)), v5, v6, v7, v8, v9] [] := by
    intro f
    induction f with
    | zero =>
      intro a gg L v5 v6 v7 v8 v9 ha hg he
      refine q_iload hK dX9_twist_21 rfl ?_
      refine q_iconst (v := nI 1) hK dX9_twist_23 (by decide) ?_
      refine q_aload_n hK 0 dX9_twist_24 rfl rfl ?_
      refine q_getf hK dX9_twist_25 fX9_162 (by decide) rfl rfl ?_
      refine q_ishl hK dX9_twist_28 ?_
      rw [z14, show (nI 1 <<< (nI (gC (sSt σ 0)) &&& 31)) = nI (2 ^ gC σ) from shl_1 _ (by omega)]
      refine q_icmp_ge hK 112 dX9_twist_29 (by decide) (fun c29 => ?_) (fun c29 => ?_)
      rotate_left
      · exact absurd ((nI_leI (by omega) (by omega)).mpr (by omega)) c29
      rw [← he] at h
      refine q_lload_n hK 2 dX9_twist_112 rfl rfl ?_
      exact q_lret hR dX9_twist_113 ⟨_, rfl, h L⟩
    | succ f ih =>
      intro a gg L v5 v6 v7 v8 v9 ha hg he
      refine q_iload hK dX9_twist_21 rfl ?_
      refine q_iconst (v := nI 1) hK dX9_twist_23 (by decide) ?_
      refine q_aload_n hK 0 dX9_twist_24 rfl rfl ?_
      refine q_getf hK dX9_twist_25 fX9_162 (by decide) rfl rfl ?_
      refine q_ishl hK dX9_twist_28 ?_
      rw [z14, show (nI 1 <<< (nI (gC (sSt σ 0)) &&& 31)) = nI (2 ^ gC σ) from shl_1 _ (by omega)]
      refine q_icmp_ge hK 112 dX9_twist_29 (by decide) (fun c29 => ?_) (fun c29 => ?_)
      · have := (nI_leI (by omega) (by omega)).mp c29
        omega
      unfold twA at he
      have hp6 := sel_len a 6
      refine q_iload hK dX9_twist_32 rfl ?_
      refine q_cSi1 hK dX9_twist_34 lX9_175 (by decide) (Nat.le_of_ble_eq_true rfl) (m_bits (by omega) ?_)
      refine q_iload_n hK 1 dX9_twist_37 rfl rfl ?_
      have next : ∀ gg L v5 v6 v7 v8 v9, gg < 2 ^ 62 → twA (gCr σ) n f (a + 1) gg = res → K (MM X (va_up Z 0 0) F L g) 106 [some (rf X 0), some (.int (nI n)), some (.long (lN gg)), none, some (.int (nI a)), v5, v6, v7, v8, v9] [] := by
        intro gg L v5 v6 v7 v8 v9 hg he
        refine q_inc1 hK dX9_twist_106 rfl (by decide) ?_
        refine q_goto hK 21 dX9_twist_109 (by decide) ?_
        exact ih (a + 1) gg L _ _ _ _ _ (by omega) hg he
      refine q_icmp_eq hK 44 dX9_twist_38 (by decide) (fun c38 => ?_) (fun c38 => ?_)
      rotate_left
      · have hne : ¬ plen a = n := fun z => c38 (by rw [z])
        rw [if_neg hne] at he
        refine q_goto hK 106 dX9_twist_41 (by decide) ?_
        exact next gg L _ _ _ _ _ hg he
      have hpa : plen a = n := (nI_eq (by unfold plen; omega) (by omega)).mp c38
      rw [if_pos hpa] at he
      refine q_iconst (v := nI 0) hK dX9_twist_44 (by decide) ?_
      refine q_istore hK dX9_twist_45 (by decide) ?_
      have cols : ∀ f2 b gg L v6 v7 v8 v9, b + f2 = 64 → gg < 2 ^ 62 → twA (gCr σ) n f (a + 1) (twB (gCr σ) n a f2 b gg) = res → K (MM X (va_up Z 0 0) F L g) 47 [some (rf X 0), some (.int (nI n)), some (.long (lN gg)), none, some (.int (nI a)), some (.int (nI b)), v6, v7, v8, v9] [] := by
        intro f2
        induction f2 with
        | zero =>
          intro b gg L v6 v7 v8 v9 hb hg he
          refine q_iload hK dX9_twist_47 rfl ?_
          refine q_bipush (v := nI 64) hK dX9_twist_49 (by decide) ?_
          refine q_icmp_ge hK 106 dX9_twist_51 (by decide) (fun c51 => ?_) (fun c51 => ?_)
          rotate_left
          · exact absurd ((nI_leI (by decide) (by omega)).mpr (by omega)) c51
          exact next gg L _ _ _ _ _ hg he
        | succ f2 ih2 =>
          intro b gg L v6 v7 v8 v9 hb hg he
          refine q_iload hK dX9_twist_47 rfl ?_
          refine q_bipush (v := nI 64) hK dX9_twist_49 (by decide) ?_
          refine q_icmp_ge hK 106 dX9_twist_51 (by decide) (fun c51 => ?_) (fun c51 => ?_)
          · have := (nI_leI (by decide) (by omega)).mp c51
            omega
          unfold twB at he
          have hp6b := sel_len b 6
          refine q_iload hK dX9_twist_54 rfl ?_
          refine q_cSi1 hK dX9_twist_56 lX9_175 (by decide) (Nat.le_of_ble_eq_true rfl) (m_bits (by omega) ?_)
          refine q_iload_n hK 1 dX9_twist_59 rfl rfl ?_
          refine q_icmp_eq hK 66 dX9_twist_60 (by decide) (fun c60 => ?_) (fun c60 => ?_)
          rotate_left
          · have hne : ¬ plen b = n := fun z => c60 (by rw [z])
            rw [if_neg hne] at he
            refine q_goto hK 100 dX9_twist_63 (by decide) ?_
            refine q_inc1 hK dX9_twist_100 rfl (by decide) ?_
            refine q_goto hK 47 dX9_twist_103 (by decide) ?_
            exact ih2 (b + 1) gg L _ _ _ _ (by omega) hg he
          have hpb : plen b = n := (nI_eq (by unfold plen; omega) (by omega)).mp c60
          rw [if_pos hpb] at he
          refine q_aload_n hK 0 dX9_twist_66 rfl rfl ?_
          refine q_iload hK dX9_twist_67 rfl ?_
          refine q_iload hK dX9_twist_69 rfl ?_
          refine q_iload_n hK 1 dX9_twist_71 rfl rfl ?_
          refine q_cVl3 hK dX9_twist_72 lX9_178 (by decide) (by decide) rfl (Nat.le_of_ble_eq_true rfl) (m_minor hI0 (by show a < 2 ^ gC σ; omega) (by omega) hpa hpb (by omega) (fun L2 => ?_))
          obtain ⟨m1, m2⟩ := hmn a (by omega) b
          rw [show mnr (gCr (sSt σ 0)) a b n = lN (mnN (gCr σ) a b n) from m1]
          generalize mnN (gCr σ) a b n = mb at *
          refine q_lstore hK dX9_twist_75 (by decide) ?_
          have gl : ∀ y x v8 v9, x < 2 ^ 62 → y < 2 ^ 62 → Nat.gcd x y = Nat.gcd gg mb → K (MM X (va_up Z 0 0) F L2 g) 77 [some (rf X 0), some (.int (nI n)), some (.long (lN x)), none, some (.int (nI a)), some (.int (nI b)), some (.long (lN y)), none, v8, v9] [] := by
            intro y
            induction y using Nat.strongRecOn with
            | ind y ihy =>
              intro x v8 v9 hx hy hgc
              refine q_lload hK dX9_twist_77 rfl ?_
              refine q_lconst (v := 0) hK dX9_twist_79 (by decide) ?_
              refine q_lcmp hK dX9_twist_80 ?_
              refine q_if_eq hK 100 dX9_twist_81 (by decide) (fun c81 => ?_) (fun c81 => ?_)
              · have hy0 : y = 0 := (pk_lEQ (b := 0) (by omega) (by decide)).mp ((lg_cmp_eq _ _).mp c81)
                subst hy0
                rw [Nat.gcd_zero_right] at hgc
                rw [← hgc] at he
                refine q_inc1 hK dX9_twist_100 rfl (by decide) ?_
                refine q_goto hK 47 dX9_twist_103 (by decide) ?_
                exact ih2 (b + 1) x L2 _ _ _ _ (by omega) hx he
              · have hy0 : y ≠ 0 := fun z => c81 ((lg_cmp_eq _ _).mpr (by rw [z]; rfl))
                have hmod : x % y < y := Nat.mod_lt _ (by omega)
                refine q_lload_n hK 2 dX9_twist_84 rfl rfl ?_
                refine q_lload hK dX9_twist_85 rfl ?_
                refine q_lrem hK dX9_twist_87 (fun z => hy0 ((pk_lEQ (b := 0) (by omega) (by decide)).mp z)) ?_
                rw [pk_lRem (by omega) (by omega) (by omega)]
                refine q_lstore hK dX9_twist_88 (by decide) ?_
                refine q_lload hK dX9_twist_90 rfl ?_
                refine q_lstore_n hK 2 dX9_twist_92 rfl (by decide) ?_
                refine q_lload hK dX9_twist_93 rfl ?_
                refine q_lstore hK dX9_twist_95 (by decide) ?_
                refine q_goto hK 77 dX9_twist_97 (by decide) ?_
                refine ihy (x % y) hmod y _ _ hy (by omega) ?_
                rw [← hgc, Nat.gcd_comm x y, Nat.gcd_rec y x, Nat.gcd_comm]
          exact gl mb gg _ _ hg m2 rfl
      exact cols 64 0 gg L _ _ _ _ rfl hg he
  exact loop (2 ^ gC σ) 0 0 L' none none none none none (by omega) (by decide) hres
theorem M_vanishes {σ : Sg} {s : Int32} {Q : Int32 → Mem → Prop} (hI : MI Z F σ) (h : ∀ Z' F' L', MI Z' F' (sp_vanishes σ s).2 → Q (sp_vanishes σ s).1 (MM X Z' F' L' g)) : CallI X 9 yX9_vanishes [rf X 0, .int s] (MM X Z F L g) Q := by
  refine CallM_intro (own := RX9) [some (rf X 0), some (.int s), none, none] wX9_vanishes (by decide) (by decide) rfl (Nat.le_of_ble_eq_true rfl) rfl (fun K hK hR => ?_)
  refine q_iload_n hK 1 dX9_vanishes_0 rfl rfl ?_
  refine q_cSi1 hK dX9_vanishes_1 lX9_111 (by decide) (Nat.le_of_ble_eq_true rfl) (m_isShelf ?_)
  refine q_if_ne hK 13 dX9_vanishes_4 (by decide) (fun c4 => ?_) (fun c4 => ?_)
  rotate_left
  · have hs := (b2i_eq0 _).mp c4
    simp only [sp_vanishes, hs] at h
    refine q_aload_n hK 0 dX9_vanishes_7 rfl rfl ?_
    refine q_iconst (v := nI 1) hK dX9_vanishes_8 (by decide) ?_
    refine q_cVi1 hK dX9_vanishes_9 lX9_136 (by decide) (by decide) rfl (Nat.le_of_ble_eq_true rfl) (m_none ?_)
    exact q_iret hR dX9_vanishes_12 rfl ⟨_, rfl, h _ _ _ (hI.st 1)⟩
  have hs := (b2i_ne0 _).mp c4
  obtain ⟨ia, ha1, rfl, ha2⟩ := isIn_ex hs (by decide)
  simp only [sp_vanishes, hs, onS, rowS, ha2, if_true] at h
  refine q_aload_n hK 0 dX9_vanishes_13 rfl rfl ?_
  refine q_getf hK dX9_vanishes_14 fX9_13 (by decide) rfl rfl ?_
  refine q_iload_n hK 1 dX9_vanishes_17 rfl rfl ?_
  refine qm_zald hK dX9_vanishes_18 rfl ha1 ?_
  rw [hI.2.1 ia ha1]
  refine q_if_ne hK 28 dX9_vanishes_19 (by decide) (fun c19 => ?_) (fun c19 => ?_)
  rotate_left
  · have ho := (b2i_eq0 _).mp c19
    simp only [ho] at h
    refine q_aload_n hK 0 dX9_vanishes_22 rfl rfl ?_
    refine q_iconst (v := nI 2) hK dX9_vanishes_23 (by decide) ?_
    refine q_cVi1 hK dX9_vanishes_24 lX9_136 (by decide) (by decide) rfl (Nat.le_of_ble_eq_true rfl) (m_none ?_)
    exact q_iret hR dX9_vanishes_27 rfl ⟨_, rfl, h _ _ _ (hI.st 2)⟩
  have oa := (b2i_ne0 _).mp c19
  simp only [oa, if_true] at h
  have rA := hI.2.2.1 ia ha1 oa
  have hI0 := hI.st 0
  obtain ⟨z14, hc5, hrow⟩ := hI0.2.2.2.1
  have hc5 : gC σ ≤ 5 := hc5
  have hrow : ∀ i, i < gC σ → hasA (F 10) (6 * i) (gCr σ i) 24 := hrow
  have z14 : va_up Z 0 0 14 = nI (gC σ) := z14
  have h := fun L' => h _ _ L' hI0
  refine q_aload_n hK 0 dX9_vanishes_28 rfl rfl ?_
  refine q_iconst (v := nI 0) hK dX9_vanishes_29 (by decide) ?_
  refine qm_put0 hK dX9_vanishes_30 pX9_66 ?_
  refine q_aload_n hK 0 dX9_vanishes_33 rfl rfl ?_
  refine q_cVi0 hK dX9_vanishes_34 lX9_172 (by decide) (by decide) rfl (Nat.le_of_ble_eq_true rfl) (m_commaRank hI0 (fun L' => ?_))
  have hrk := rkv_le (gC σ) (gCr σ)
  show K (MM X (va_up Z 0 0) F L' g) (34 + 3) _ (.int (nI (rkv (gC σ) (gCr σ))) :: [])
  generalize rkv (gC σ) (gCr σ) = n at *
  refine q_istore_n hK 2 dX9_vanishes_37 rfl (by decide) ?_
  refine q_iconst (v := nI 0) hK dX9_vanishes_38 (by decide) ?_
  refine q_istore_n hK 3 dX9_vanishes_39 rfl (by decide) ?_
  have l2 : ∀ e k L, k + e = 6 → (∀ j, j < 6 * gC σ → L j = (F 10 j).toInt64) → (∀ j, j < k → L (6 * gC σ + j) = (jI (gRow σ ia j)).toInt64) → K (MM X (va_up Z 0 0) F L g) 72 [some (rf X 0), some (.int (nI ia)), some (.int (nI n)), some (.int (nI k))] [] := by
    intro e
    induction e with
    | zero =>
      intro k L hk hL hL2
      refine q_iload_n hK 3 dX9_vanishes_72 rfl rfl ?_
      refine q_bipush (v := nI 6) hK dX9_vanishes_73 (by decide) ?_
      refine q_icmp_ge hK 110 dX9_vanishes_75 (by decide) (fun c75 => ?_) (fun c75 => ?_)
      rotate_left
      · exact absurd ((nI_leI (by decide) (by omega)).mpr (by omega)) c75
      refine q_aload_n hK 0 dX9_vanishes_110 rfl rfl ?_
      refine q_aload_n hK 0 dX9_vanishes_111 rfl rfl ?_
      refine q_getf hK dX9_vanishes_112 fX9_162 (by decide) rfl rfl ?_
      refine q_iconst (v := nI 1) hK dX9_vanishes_115 (by decide) ?_
      refine q_iadd hK dX9_vanishes_116 ?_
      rw [z14, show nI (gC σ) + nI 1 = nI (gC σ + 1) from nI_add _ 1]
      have hT : hasT (gC σ + 1) L (tbC (fun i => if i = gC σ then gRow σ ia else gCr σ i)) := fun r j hr hj => by
        unfold tbC
        dsimp only
        by_cases q : r = gC σ
        · rw [if_pos q, q]
          exact hL2 j (by omega)
        · rw [if_neg q, hL _ (by omega), (hrow r (by omega) j hj).1]
      refine q_cVi1 hK dX9_vanishes_117 lX9_169 (by decide) (by decide) rfl (Nat.le_of_ble_eq_true rfl) (m_rankOf (by omega) hT (fun L2 _ => ?_))
      have hrk2 := rkv_le (gC σ + 1) (fun i => if i = gC σ then gRow σ ia else gCr σ i)
      show K (MM X (va_up Z 0 0) F L2 g) (117 + 3) _ (.int (nI (rkv (gC σ + 1) (fun i => if i = gC σ then gRow σ ia else gCr σ i))) :: [])
      generalize rkv (gC σ + 1) (fun i => if i = gC σ then gRow σ ia else gCr σ i) = n2 at *
      refine q_iload_n hK 2 dX9_vanishes_120 rfl rfl ?_
      refine q_icmp_ne hK 128 dX9_vanishes_121 (by decide) (fun c121 => ?_) (fun c121 => ?_)
      · have hne : ¬ n2 = n := fun z => c121 (by rw [z])
        rw [show decide (n2 = n) = false by simp [hne]] at h
        refine q_iconst (v := nI 0) hK dX9_vanishes_128 (by decide) ?_
        exact q_iret hR dX9_vanishes_129 rfl ⟨_, rfl, h L2⟩
      · have heq : n2 = n := (nI_eq (by omega) (by omega)).mp c121
        rw [show decide (n2 = n) = true by simp [heq]] at h
        refine q_iconst (v := nI 1) hK dX9_vanishes_124 (by decide) ?_
        refine q_goto hK 129 dX9_vanishes_125 (by decide) ?_
        exact q_iret hR dX9_vanishes_129 rfl ⟨_, rfl, h L2⟩
    | succ e ih =>
      intro k L hk hL hL2
      refine q_iload_n hK 3 dX9_vanishes_72 rfl rfl ?_
      refine q_bipush (v := nI 6) hK dX9_vanishes_73 (by decide) ?_
      refine q_icmp_ge hK 110 dX9_vanishes_75 (by decide) (fun c75 => ?_) (fun c75 => ?_)
      · have := (nI_leI (by decide) (by omega)).mp c75
        omega
      refine q_aload_n hK 0 dX9_vanishes_78 rfl rfl ?_
      refine q_getf hK dX9_vanishes_79 fX9_41 (by decide) rfl rfl ?_
      refine q_bipush (v := nI 6) hK dX9_vanishes_82 (by decide) ?_
      refine q_aload_n hK 0 dX9_vanishes_84 rfl rfl ?_
      refine q_getf hK dX9_vanishes_85 fX9_162 (by decide) rfl rfl ?_
      refine q_imul hK dX9_vanishes_88 ?_
      refine q_iload_n hK 3 dX9_vanishes_89 rfl rfl ?_
      refine q_iadd hK dX9_vanishes_90 ?_
      refine q_aload_n hK 0 dX9_vanishes_91 rfl rfl ?_
      refine q_getf hK dX9_vanishes_92 fX9_7 (by decide) rfl rfl ?_
      refine q_bipush (v := nI 6) hK dX9_vanishes_95 (by decide) ?_
      refine q_iload_n hK 1 dX9_vanishes_97 rfl rfl ?_
      refine q_imul hK dX9_vanishes_98 ?_
      refine q_iload_n hK 3 dX9_vanishes_99 rfl rfl ?_
      refine q_iadd hK dX9_vanishes_100 ?_
      rw [z14]
      refine qm_iald hK dX9_vanishes_101 (n := 1) (k := 6 * ia + k) rfl (by rw [pk_mul, nI_add]) (by show _ < 96; omega) ?_
      refine q_i2l hK dX9_vanishes_102 ?_
      refine qm_last hK dX9_vanishes_103 (k := 6 * gC σ + k) (by rw [pk_mul, nI_add]) (by omega) ?_
      refine q_inc1 hK dX9_vanishes_104 rfl (by decide) ?_
      refine q_goto hK 72 dX9_vanishes_107 (by decide) ?_
      rw [(rA k (by omega)).1]
      refine ih (k + 1) _ (by omega) (fun j hj => ?_) (fun j hj => ?_)
      · unfold vp_updL
        rw [if_neg (by omega)]
        exact hL j hj
      · unfold vp_updL
        by_cases z : j = k
        · rw [if_pos (by omega), z]
        · rw [if_neg (by omega)]
          exact hL2 j (by omega)
  have l1 : ∀ e k L, k + e = 6 * gC σ → (∀ j, j < k → L j = (F 10 j).toInt64) → K (MM X (va_up Z 0 0) F L g) 40 [some (rf X 0), some (.int (nI ia)), some (.int (nI n)), some (.int (nI k))] [] := by
    intro e
    induction e with
    | zero =>
      intro k L hk hL
      refine q_iload_n hK 3 dX9_vanishes_40 rfl rfl ?_
      refine q_bipush (v := nI 6) hK dX9_vanishes_41 (by decide) ?_
      refine q_aload_n hK 0 dX9_vanishes_43 rfl rfl ?_
      refine q_getf hK dX9_vanishes_44 fX9_162 (by decide) rfl rfl ?_
      refine q_imul hK dX9_vanishes_47 ?_
      rw [z14, show nI 6 * nI (gC σ) = nI (6 * gC σ) from pk_mul 6 _]
      refine q_icmp_ge hK 70 dX9_vanishes_48 (by decide) (fun c48 => ?_) (fun c48 => ?_)
      rotate_left
      · exact absurd ((nI_leI (by omega) (by omega)).mpr (by omega)) c48
      refine q_iconst (v := nI 0) hK dX9_vanishes_70 (by decide) ?_
      refine q_istore_n hK 3 dX9_vanishes_71 rfl (by decide) ?_
      exact l2 6 0 L rfl (fun j hj => hL j (by omega)) (fun j hj => absurd hj (Nat.not_lt_zero j))
    | succ e ih =>
      intro k L hk hL
      refine q_iload_n hK 3 dX9_vanishes_40 rfl rfl ?_
      refine q_bipush (v := nI 6) hK dX9_vanishes_41 (by decide) ?_
      refine q_aload_n hK 0 dX9_vanishes_43 rfl rfl ?_
      refine q_getf hK dX9_vanishes_44 fX9_162 (by decide) rfl rfl ?_
      refine q_imul hK dX9_vanishes_47 ?_
      rw [z14, show nI 6 * nI (gC σ) = nI (6 * gC σ) from pk_mul 6 _]
      refine q_icmp_ge hK 70 dX9_vanishes_48 (by decide) (fun c48 => ?_) (fun c48 => ?_)
      · have := (nI_leI (by omega) (by omega)).mp c48
        omega
      refine q_aload_n hK 0 dX9_vanishes_51 rfl rfl ?_
      refine q_getf hK dX9_vanishes_52 fX9_41 (by decide) rfl rfl ?_
      refine q_iload_n hK 3 dX9_vanishes_55 rfl rfl ?_
      refine q_aload_n hK 0 dX9_vanishes_56 rfl rfl ?_
      refine q_getf hK dX9_vanishes_57 fX9_38 (by decide) rfl rfl ?_
      refine q_iload_n hK 3 dX9_vanishes_60 rfl rfl ?_
      refine qm_iald hK dX9_vanishes_61 (n := 10) (k := k) rfl rfl (by show k < 36; omega) ?_
      refine q_i2l hK dX9_vanishes_62 ?_
      refine qm_last hK dX9_vanishes_63 (k := k) rfl (by omega) ?_
      refine q_inc1 hK dX9_vanishes_64 rfl (by decide) ?_
      refine q_goto hK 40 dX9_vanishes_67 (by decide) ?_
      refine ih (k + 1) _ (by omega) (fun j hj => ?_)
      unfold vp_updL
      by_cases z : j = k
      · rw [if_pos z, z]
      · rw [if_neg z]
        exact hL j (by omega)
  exact l1 (6 * gC σ) 0 L' (by omega) (fun j hj => absurd hj (Nat.not_lt_zero j))
end M18
