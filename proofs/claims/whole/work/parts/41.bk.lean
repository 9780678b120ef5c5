-- ===== kinds: as they come, and put in order
abbrev Ks : Type := Nat × (Nat → Vec) × (Nat → Nat)
def srt (c : Nat) (R : Nat → Vec) : Prop := ∀ i j, i < j → j < c → 0 < sgn (fun k => R j k - R i k)
theorem sgn_tr {a b c : Vec} (h1 : 0 < sgn (fun k => b k - a k)) (h2 : 0 < sgn (fun k => c k - b k)) : 0 < sgn (fun k => c k - a k) := by
  have := sgn_add (a := fun k => b k - a k) (b := fun k => c k - b k) (by omega) h2
  rw [sgn_congr (b := fun k => c k - a k) (fun k _ => by omega)] at this
  exact this
theorem srt_ins {c a : Nat} {R : Nat → Vec} {e : Vec} (hs : srt c R) (ha : a ≤ c) (h1 : ∀ t, t < a → 0 < sgn (fun k => e k - R t k)) (h2 : a < c → sgn (fun k => e k - R a k) < 0) : srt (c + 1) (insR R a e) := by
  intro i j hij hj
  unfold insR
  by_cases ei : i < a
  · rw [if_pos ei]
    by_cases ej : j < a
    · rw [if_pos ej]
      exact hs i j hij (by omega)
    · rw [if_neg ej]
      by_cases ej2 : j = a
      · rw [if_pos ej2]
        exact h1 i ei
      · rw [if_neg ej2]
        exact hs i (j - 1) (by omega) (by omega)
  · rw [if_neg ei, if_neg (show ¬ j < a by omega), if_neg (show ¬ j = a by omega)]
    by_cases ei2 : i = a
    · rw [if_pos ei2]
      have h3 := sgn_flip (h2 (by omega))
      by_cases ej : j - 1 = a
      · rw [ej]; exact h3
      · exact sgn_tr h3 (hs a (j - 1) (by omega) (by omega))
    · rw [if_neg ei2]
      exact hs (i - 1) (j - 1) (by omega) (by omega)
theorem kS_srt (n : Nat) (nt : Nat → Vec) (k : Nat) : ∀ i, srt (kS n nt k i).1 (kS n nt k i).2.1
  | 0 => fun i j h1 h2 => absurd h2 (Nat.not_lt_zero j)
  | i + 1 => by
    have ih := kS_srt n nt k i
    unfold kS
    split
    · exact ih
    · rename_i hq
      unfold plcv at hq ⊢
      rcases plc_range (R := (kS n nt k i).2.1) (e := stV n nt k i) (f := (kS n nt k i).1) (i := 0) with ⟨a1, -⟩ | ⟨j, a2, a3, a4, a5, a6⟩
      · exact absurd a1 hq
      · rw [a4, Int.toNat_natCast]
        exact srt_ins ih (by omega) (fun t ht => a5 t (Nat.zero_le _) ht) (fun h => a6 (by omega))
theorem srt_eq {c i j : Nat} {R : Nat → Vec} (hs : srt c R) (hi : i < c) (hj : j < c) (h : ∀ k, k < 6 → R i k = R j k) : i = j := by
  have key : ∀ a b, a < b → b < c → (∀ k, k < 6 → R b k = R a k) → False := by
    intro a b hab hb he
    have h1 := hs a b hab hb
    have : sgn (fun k => R b k - R a k) = 0 := sgn_one.mpr (fun k hk => by have := he k hk; show R b k - R a k = 0; omega)
    omega
  rcases Nat.lt_trichotomy i j with q | q | q
  · exact (key i j q hj (fun k hk => (h k hk).symm)).elim
  · exact q
  · exact (key j i q hi h).elim
/-- the class's kinds, as they came, are these -/
def kH (P : Nat → Nat → Nat) (F : Nat → Nat → Int32) (s : Ks) (π ρ : Nat → Nat) : Prop :=
  (∀ i, i < s.1 → π i < s.1 ∧ ρ (π i) = i ∧ ρ i < s.1 ∧ π (ρ i) = i) ∧ ∀ i, i < s.1 → (∀ k, k < 6 → F (P 38 i) k = jI (s.2.1 (π i) k)) ∧ F 39 i = nI (s.2.2 (π i))
theorem plcv_neg {R : Nat → Vec} {e : Vec} {m : Nat} (h : plcv R e m < 0) : ∃ j : Nat, j < m ∧ plcv R e m = -2 - (j : Int) ∧ ∀ k, k < 6 → e k = R j k := by
  unfold plcv at h ⊢
  rcases plc_range (R := R) (e := e) (f := m) (i := 0) with ⟨a1, j, a2, a3, a4, a5, a6⟩ | ⟨j, a2, a3, a4, a5, a6⟩
  · exact ⟨j, by omega, a4, fun k hk => by have := sgn_one.mp a5 k hk; omega⟩
  · omega
theorem plcv_none {R : Nat → Vec} {e : Vec} {m : Nat} (hs : srt m R) (h : ¬ plcv R e m < 0) : ∀ j, j < m → ¬ ∀ k, k < 6 → e k = R j k := by
  unfold plcv at h
  rcases plc_range (R := R) (e := e) (f := m) (i := 0) with ⟨a1, -⟩ | ⟨j, a2, a3, a4, a5, a6⟩
  · exact absurd a1 h
  · intro t ht he
    have h0 : sgn (fun k => e k - R t k) = 0 := sgn_one.mpr (fun k hk => by have := he k hk; show e k - R t k = 0; omega)
    by_cases q : t < j
    · have := a5 t (Nat.zero_le _) q
      omega
    · have h1 := a6 (by omega)
      by_cases q2 : t = j
      · rw [← q2] at h1
        omega
      · have h2 := hs j t (by omega) ht
        have h3 := sgn_tr (sgn_flip h1) h2
        have h4 := sgn_opp (fun k => e k - R t k)
        rw [sgn_congr (b := fun k => R t k - e k) (fun k _ => by omega)] at h4
        omega
/-- a step that is there already is counted -/
theorem kH_cnt {P : Nat → Nat → Nat} {F F' : Nat → Nat → Int32} {n k i t : Nat} {nt : Nat → Vec} {π ρ : Nat → Nat} (h : kH P F (kS n nt k i) π ρ) (hi : i ≤ 24) (ht : t < (kS n nt k i).1) (he : ∀ j, j < 6 → (kS n nt k i).2.1 (π t) j = stV n nt k i j) (hF : ∀ j, j < (kS n nt k i).1 → F' (P 38 j) = F (P 38 j)) (h39 : F' 39 = upd (F 39) t (F 39 t + nI 1)) : (kS n nt k (i + 1)).1 = (kS n nt k i).1 ∧ kH P F' (kS n nt k (i + 1)) π ρ := by
  have hpt := (h.1 t ht).1
  have hneg : plcv (kS n nt k i).2.1 (stV n nt k i) (kS n nt k i).1 < 0 := by
    by_cases q : plcv (kS n nt k i).2.1 (stV n nt k i) (kS n nt k i).1 < 0
    · exact q
    · exact absurd (fun j hj => (he j hj).symm) (plcv_none (kS_srt n nt k i) q (π t) hpt)
  obtain ⟨j, j1, j2, j3⟩ := plcv_neg hneg
  have hj : j = π t := srt_eq (kS_srt n nt k i) j1 hpt (fun q hq => by rw [← j3 q hq, he q hq])
  have e1 : (-2 - plcv (kS n nt k i).2.1 (stV n nt k i) (kS n nt k i).1).toNat = π t := by rw [j2]; omega
  have hk : kS n nt k (i + 1) = ((kS n nt k i).1, (kS n nt k i).2.1, va_up (kS n nt k i).2.2 (π t) ((kS n nt k i).2.2 (π t) + 1)) := by
    rw [kS, if_pos hneg, e1]
  rw [hk]
  refine ⟨rfl, h.1, fun q hq => ?_⟩
  have hq' : q < (kS n nt k i).1 := hq
  obtain ⟨a1, a2⟩ := h.2 q hq'
  refine ⟨fun z hz => by rw [hF q hq']; exact a1 z hz, ?_⟩
  rw [h39]
  show upd (F 39) t _ q = nI (va_up (kS n nt k i).2.2 (π t) ((kS n nt k i).2.2 (π t) + 1) (π q))
  by_cases e : q = t
  · rw [e, upd_same, up_same, (h.2 t ht).2]
    exact nI_add _ 1
  · rw [upd_ne e, up_ne (fun z => e (by have := (h.1 q hq').2.1; have := (h.1 t ht).2.1; rw [z] at *; omega))]
    exact a2
/-- a new step comes behind the others -/
theorem kH_new {P : Nat → Nat → Nat} {F F' : Nat → Nat → Int32} {n k i : Nat} {nt : Nat → Vec} {π ρ : Nat → Nat} (h : kH P F (kS n nt k i) π ρ) (hno : ∀ t, t < (kS n nt k i).1 → ¬ ∀ j, j < 6 → (kS n nt k i).2.1 (π t) j = stV n nt k i j) (hF : ∀ j, j < (kS n nt k i).1 → F' (P 38 j) = F (P 38 j)) (hc : ∀ j, j < 6 → F' (P 38 (kS n nt k i).1) j = jI (stV n nt k i j)) (h39 : ∀ j, j < (kS n nt k i).1 → F' 39 j = F 39 j) (h39c : F' 39 (kS n nt k i).1 = nI 1) : (kS n nt k (i + 1)).1 = (kS n nt k i).1 + 1 ∧ ∃ π' ρ', kH P F' (kS n nt k (i + 1)) π' ρ' := by
  have hneg : ¬ plcv (kS n nt k i).2.1 (stV n nt k i) (kS n nt k i).1 < 0 := by
    intro q
    obtain ⟨j, j1, j2, j3⟩ := plcv_neg q
    have := h.1 j j1
    exact hno (ρ j) this.2.2.1 (fun z hz => by rw [this.2.2.2]; exact (j3 z hz).symm)
  obtain ⟨a, ha, ha2⟩ : ∃ a : Nat, plcv (kS n nt k i).2.1 (stV n nt k i) (kS n nt k i).1 = (a : Int) ∧ a ≤ (kS n nt k i).1 := by
    have := (plcv_bd (kS n nt k i).2.1 (stV n nt k i) (kS n nt k i).1).2.1
    exact ⟨(plcv (kS n nt k i).2.1 (stV n nt k i) (kS n nt k i).1).toNat, by omega, by omega⟩
  have hk : kS n nt k (i + 1) = ((kS n nt k i).1 + 1, insR (kS n nt k i).2.1 a (stV n nt k i), insN (kS n nt k i).2.2 a 1) := by
    rw [kS, if_neg hneg, ha, Int.toNat_natCast]
  rw [hk]
  generalize hcc : (kS n nt k i).1 = c at *
  have h1 := h.1
  rw [hcc] at h1
  have h2 := h.2
  rw [hcc] at h2
  refine ⟨rfl, (fun q => if q = c then a else if π q < a then π q else π q + 1), (fun q => if q < a then ρ q else if q = a then c else ρ (q - 1)), fun q hq => ?_, fun q hq => ?_⟩
  · have hq' : q < c + 1 := hq
    show (if q = c then a else if π q < a then π q else π q + 1) < c + 1 ∧ (if (if q = c then a else if π q < a then π q else π q + 1) < a then ρ (if q = c then a else if π q < a then π q else π q + 1) else if (if q = c then a else if π q < a then π q else π q + 1) = a then c else ρ ((if q = c then a else if π q < a then π q else π q + 1) - 1)) = q ∧ (if q < a then ρ q else if q = a then c else ρ (q - 1)) < c + 1 ∧ (if (if q < a then ρ q else if q = a then c else ρ (q - 1)) = c then a else if π (if q < a then ρ q else if q = a then c else ρ (q - 1)) < a then π (if q < a then ρ q else if q = a then c else ρ (q - 1)) else π (if q < a then ρ q else if q = a then c else ρ (q - 1)) + 1) = q
    refine ⟨?_, ?_, ?_, ?_⟩
    · by_cases e : q = c
      · rw [if_pos e]; omega
      · have := (h1 q (by omega)).1
        rw [if_neg e]
        split <;> omega
    · by_cases e : q = c
      · rw [if_pos e, if_neg (Nat.lt_irrefl a), if_pos rfl, e]
      · have := h1 q (by omega)
        rw [if_neg e]
        by_cases e2 : π q < a
        · rw [if_pos e2, if_pos e2]; exact this.2.1
        · rw [if_neg e2, if_neg (by omega), if_neg (by omega), Nat.add_sub_cancel]; exact this.2.1
    · by_cases e : q < a
      · rw [if_pos e]
        have := (h1 q (by omega)).2.2.1
        omega
      · rw [if_neg e]
        by_cases e2 : q = a
        · rw [if_pos e2]; omega
        · rw [if_neg e2]
          have := (h1 (q - 1) (by omega)).2.2.1
          omega
    · by_cases e : q < a
      · have := h1 q (by omega)
        rw [if_pos e, if_neg (by omega), this.2.2.2, if_pos e]
      · rw [if_neg e]
        by_cases e2 : q = a
        · rw [if_pos e2, if_pos rfl, e2]
        · have := h1 (q - 1) (by omega)
          rw [if_neg e2, if_neg (by omega), this.2.2.2, if_neg (by omega)]
          omega
  · have hq' : q < c + 1 := hq
    show (∀ z, z < 6 → F' (P 38 q) z = jI (insR (kS n nt k i).2.1 a (stV n nt k i) (if q = c then a else if π q < a then π q else π q + 1) z)) ∧ F' 39 q = nI (insN (kS n nt k i).2.2 a 1 (if q = c then a else if π q < a then π q else π q + 1))
    by_cases e : q = c
    · rw [if_pos e]
      unfold insR insN
      rw [if_neg (Nat.lt_irrefl a), if_pos rfl, if_neg (Nat.lt_irrefl a), if_pos rfl, e]
      exact ⟨hc, h39c⟩
    · have b1 := h2 q (by omega)
      rw [if_neg e, hF q (by omega), h39 q (by omega)]
      unfold insR insN
      by_cases e2 : π q < a
      · rw [if_pos e2, if_pos e2, if_pos e2]; exact b1
      · rw [if_neg e2, if_neg (by omega), if_neg (by omega), if_neg (by omega), if_neg (by omega), Nat.add_sub_cancel]; exact b1
/-- steps are not far apart -/
theorem stV_bd {n k i : Nat} {nt : Nat → Vec} (hn : 1 ≤ n) (hk : k ≤ n) (hi : i < n) (hr : ∀ i, i ≤ n → ∀ j, j < 6 → -24 ≤ nt i j ∧ nt i j ≤ 24) {j : Nat} (hj : j < 6) : -100 ≤ stV n nt k i j ∧ stV n nt k i j ≤ 100 := by
  unfold stV ntA
  have h1 := hr i (by omega) j hj
  have h2 := hr ((i + k) % n) (Nat.le_of_lt (Nat.mod_lt _ hn)) j hj
  have h3 := hr n (Nat.le_refl _) j hj
  have h4 : (i + k) / n ≤ 1 := by
    have : (i + k) / n < 2 := (Nat.div_lt_iff_lt_mul hn).mpr (by omega)
    omega
  generalize (i + k) / n = qq at *
  have h5 : qq = 0 ∨ qq = 1 := by omega
  rcases h5 with q | q <;> rw [q] <;> simp <;> omega
theorem kS_bd {n k : Nat} {nt : Nat → Vec} (hn : 1 ≤ n) (hk : k ≤ n) (hr : ∀ i, i ≤ n → ∀ j, j < 6 → -24 ≤ nt i j ∧ nt i j ≤ 24) : ∀ i, i ≤ n → ∀ t, t < (kS n nt k i).1 → ∀ j, j < 6 → -100 ≤ (kS n nt k i).2.1 t j ∧ (kS n nt k i).2.1 t j ≤ 100
  | 0, _, t, ht, j, hj => absurd ht (Nat.not_lt_zero t)
  | i + 1, hi, t, ht, j, hj => by
    have ih := kS_bd hn hk hr i (by omega)
    have h1 := stV_bd (i := i) hn hk (by omega) hr hj
    have hle := (plcv_bd (kS n nt k i).2.1 (stV n nt k i) (kS n nt k i).1)
    unfold kS at ht ⊢
    split
    · rename_i hq
      rw [if_pos hq] at ht
      exact ih t ht j hj
    · rename_i hq
      rw [if_neg hq] at ht
      have ht' : t < (kS n nt k i).1 + 1 := ht
      show -100 ≤ insR (kS n nt k i).2.1 _ (stV n nt k i) t j ∧ insR (kS n nt k i).2.1 _ (stV n nt k i) t j ≤ 100
      unfold insR
      split
      · exact ih t (by omega) j hj
      · split
        · exact h1
        · exact ih (t - 1) (by omega) j hj
