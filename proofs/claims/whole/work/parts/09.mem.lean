
-- ===== memories
def mlen (n : Nat) : Nat := match n with
  | 1 => 96
  | 3 => 130
  | 4 => 130
  | 8 => 400
  | 9 => 600
  | 10 => 36
  | 12 => 150
  | 13 => 150
  | 14 => 150
  | 15 => 25
  | 16 => 150
  | _ => 6
def mI (n : Nat) : Bool := decide (1 ≤ n) && decide (n ≤ 18) && !(n == 2) && !(n == 11)
theorem mlen_lt (n : Nat) : mlen n < 2 ^ 31 := by
  unfold mlen
  split <;> decide
abbrev mO (X : Cx) (Z : Nat → Int32) : va_E := .inr (7, [.int (Z 0), rf X 1, rf X 2, rf X 3, rf X 4, .int (Z 5), .int (Z 6), rf X 5, rf X 6, rf X 7, rf X 8, .int (Z 11), rf X 9, rf X 10, .int (Z 14), rf X 11, rf X 12, rf X 13, .int (Z 18), rf X 14, rf X 15, rf X 16, .int (Z 22), rf X 17, rf X 18])
def MM (X : Cx) (Z : Nat → Int32) (F : Nat → Nat → Int32) (L : Nat → Int64) (g : Mem) : Mem := fun i => if i = 0 then mO X Z else if i = 2 then aZ X 16 (F 2) else if i = 11 then aJ X 36 L else if i ≤ 18 then aI X (mlen i) (F i) else g i
theorem MM_I {X : Cx} {Z : Nat → Int32} {F : Nat → Nat → Int32} {L : Nat → Int64} {g : Mem} {n : Nat} (h : mI n = true) : MM X Z F L g n = aI X (mlen n) (F n) := by
  simp only [mI, Bool.and_eq_true, decide_eq_true_eq, Bool.not_eq_true', beq_eq_false_iff_ne, ne_eq] at h
  obtain ⟨⟨⟨h1, h2⟩, h3⟩, h4⟩ := h
  simp [MM, show n ≠ 0 by omega, h3, h4, h2]
theorem mI_lt {n : Nat} (h : mI n = true) : n < 147 := by
  simp only [mI, Bool.and_eq_true, decide_eq_true_eq] at h
  omega
theorem MM_setI {X : Cx} {Z : Nat → Int32} {F : Nat → Nat → Int32} {L : Nat → Int64} {g : Mem} {n : Nat} {f : Nat → Int32} (h : mI n = true) : va_up (MM X Z F L g) n (aI X (mlen n) f) = MM X Z (va_up F n f) L g := by
  simp only [mI, Bool.and_eq_true, decide_eq_true_eq, Bool.not_eq_true', beq_eq_false_iff_ne, ne_eq] at h
  obtain ⟨⟨⟨h1, h2⟩, h3⟩, h4⟩ := h
  funext i
  by_cases hi : i = n
  · subst hi
    simp [va_up, MM, show i ≠ 0 by omega, h3, h4, h2]
  · have h5 : va_up F n f i = F i := by simp [va_up, hi]
    have h6 : va_up F n f 2 = F 2 := by simp [va_up, Ne.symm h3]
    simp only [va_up, hi, if_false, MM]
    split
    · rfl
    · split
      · simp [Ne.symm h3]
      · rfl
theorem MM_set2 {X : Cx} {Z : Nat → Int32} {F : Nat → Nat → Int32} {L : Nat → Int64} {g : Mem} {f : Nat → Int32} : va_up (MM X Z F L g) 2 (aZ X 16 f) = MM X Z (va_up F 2 f) L g := by
  funext i
  by_cases hi : i = 2
  · subst hi
    simp [va_up, MM]
  · simp [va_up, MM, hi]
theorem MM_setL {X : Cx} {Z : Nat → Int32} {F : Nat → Nat → Int32} {L : Nat → Int64} {g : Mem} {f : Nat → Int64} : va_up (MM X Z F L g) 11 (aJ X 36 f) = MM X Z F f g := by
  funext i
  by_cases hi : i = 11
  · subst hi
    simp [va_up, MM]
  · simp [va_up, MM, hi]
theorem MM_setO {X : Cx} {Z Z' : Nat → Int32} {F : Nat → Nat → Int32} {L : Nat → Int64} {g : Mem} {e : va_E} (he : e = mO X Z') : va_up (MM X Z F L g) 0 e = MM X Z' F L g := by
  subst he
  funext i
  by_cases hi : i = 0
  · subst hi
    simp [va_up, MM]
  · simp [va_up, MM, hi]
-- rows over the reference's memory
section QM
variable {X : Cx} {own : String} {cc : ByteArray} {nL d : Nat} {K : KT} {Z : Nat → Int32} {F : Nat → Nat → Int32} {L : Nat → Int64} {g : Mem} {pc : Nat} {vs : Lv} {st : List Value}
theorem qm_iald (hK : Cl X own cc nL d K) {n k : Nat} {i : Int32} (hd : decode cc pc = .ok (.iaload, 1)) (hn : mI n = true) (hi : i = nI k) (hk : k < mlen n) (h : K (MM X Z F L g) (pc + 1) vs (.int (F n k) :: st)) : K (MM X Z F L g) pc vs (.int i :: rf X n :: st) := by
  subst hi
  have h2 : k < 2 ^ 31 := Nat.lt_trans hk (mlen_lt n)
  exact q_iald hK hd (mI_lt hn) (MM_I hn) (vp_in_nI hk (mlen_lt n)) (by rw [nI_clamp h2]; exact h)
theorem qm_iast (hK : Cl X own cc nL d K) {n k : Nat} {i x : Int32} (hd : decode cc pc = .ok (.iastore, 1)) (hn : mI n = true) (hi : i = nI k) (hk : k < mlen n) (h : K (MM X Z (va_up F n (upd (F n) k x)) L g) (pc + 1) vs st) : K (MM X Z F L g) pc vs (.int x :: .int i :: rf X n :: st) := by
  subst hi
  have h2 : k < 2 ^ 31 := Nat.lt_trans hk (mlen_lt n)
  exact q_iast hK hd (mI_lt hn) (MM_I hn) (vp_in_nI hk (mlen_lt n)) (by rw [nI_clamp h2, MM_setI hn]; exact h)
theorem qm_zald (hK : Cl X own cc nL d K) {k : Nat} {i : Int32} (hd : decode cc pc = .ok (.baload, 1)) (hi : i = nI k) (hk : k < 16) (h : K (MM X Z F L g) (pc + 1) vs (.int (F 2 k) :: st)) : K (MM X Z F L g) pc vs (.int i :: rf X 2 :: st) := by
  subst hi
  have h2 : k < 2 ^ 31 := by omega
  exact q_zald hK hd (by decide) rfl (vp_in_nI hk (by decide)) (by rw [nI_clamp h2]; exact h)
theorem qm_zast (hK : Cl X own cc nL d K) {k : Nat} {i x : Int32} (hd : decode cc pc = .ok (.bastore, 1)) (hi : i = nI k) (hk : k < 16) (hx : vp_nar .boolean x = x) (h : K (MM X Z (va_up F 2 (upd (F 2) k x)) L g) (pc + 1) vs st) : K (MM X Z F L g) pc vs (.int x :: .int i :: rf X 2 :: st) := by
  subst hi
  have h2 : k < 2 ^ 31 := by omega
  exact q_zast hK hd (by decide) rfl (vp_in_nI hk (by decide)) (by rw [nI_clamp h2, hx, MM_set2]; exact h)
theorem qm_lald (hK : Cl X own cc nL d K) {k : Nat} {i : Int32} (hd : decode cc pc = .ok (.laload, 1)) (hi : i = nI k) (hk : k < 36) (h : K (MM X Z F L g) (pc + 1) vs (.long (L k) :: st)) : K (MM X Z F L g) pc vs (.int i :: rf X 11 :: st) := by
  subst hi
  have h2 : k < 2 ^ 31 := by omega
  exact q_lald hK hd (by decide) rfl (vp_in_nI hk (by decide)) (by rw [nI_clamp h2]; exact h)
theorem qm_last (hK : Cl X own cc nL d K) {k : Nat} {i : Int32} {x : Int64} (hd : decode cc pc = .ok (.lastore, 1)) (hi : i = nI k) (hk : k < 36) (h : K (MM X Z F (vp_updL L k x) g) (pc + 1) vs st) : K (MM X Z F L g) pc vs (.long x :: .int i :: rf X 11 :: st) := by
  subst hi
  have h2 : k < 2 ^ 31 := by omega
  exact q_last hK hd (by decide) rfl (vp_in_nI hk (by decide)) (by rw [nI_clamp h2, MM_setL]; exact h)
theorem qm_put0 (hK : Cl X own cc nL d K) {v : Int32} {idx : Nat} (hd : decode cc pc = .ok (.putfield idx, 3)) (hF : FP own idx 7 0 .int) (h : K (MM X (va_up Z 0 v) F L g) (pc + 3) vs st) : K (MM X Z F L g) pc vs (.int v :: rf X 0 :: st) := q_putf hK hd hF (by decide) rfl rfl rfl (Nat.le_of_ble_eq_true rfl) ((congrArg (fun q => K q (pc + 3) vs st) (MM_setO (Z' := va_up Z 0 v) rfl)).mpr h)
theorem qm_put5 (hK : Cl X own cc nL d K) {v : Int32} {idx : Nat} (hd : decode cc pc = .ok (.putfield idx, 3)) (hF : FP own idx 7 5 .int) (h : K (MM X (va_up Z 5 v) F L g) (pc + 3) vs st) : K (MM X Z F L g) pc vs (.int v :: rf X 0 :: st) := q_putf hK hd hF (by decide) rfl rfl rfl (Nat.le_of_ble_eq_true rfl) ((congrArg (fun q => K q (pc + 3) vs st) (MM_setO (Z' := va_up Z 5 v) rfl)).mpr h)
theorem qm_put6 (hK : Cl X own cc nL d K) {v : Int32} {idx : Nat} (hd : decode cc pc = .ok (.putfield idx, 3)) (hF : FP own idx 7 6 .int) (h : K (MM X (va_up Z 6 v) F L g) (pc + 3) vs st) : K (MM X Z F L g) pc vs (.int v :: rf X 0 :: st) := q_putf hK hd hF (by decide) rfl rfl rfl (Nat.le_of_ble_eq_true rfl) ((congrArg (fun q => K q (pc + 3) vs st) (MM_setO (Z' := va_up Z 6 v) rfl)).mpr h)
theorem qm_put11 (hK : Cl X own cc nL d K) {v : Int32} {idx : Nat} (hd : decode cc pc = .ok (.putfield idx, 3)) (hF : FP own idx 7 11 .int) (h : K (MM X (va_up Z 11 v) F L g) (pc + 3) vs st) : K (MM X Z F L g) pc vs (.int v :: rf X 0 :: st) := q_putf hK hd hF (by decide) rfl rfl rfl (Nat.le_of_ble_eq_true rfl) ((congrArg (fun q => K q (pc + 3) vs st) (MM_setO (Z' := va_up Z 11 v) rfl)).mpr h)
theorem qm_put14 (hK : Cl X own cc nL d K) {v : Int32} {idx : Nat} (hd : decode cc pc = .ok (.putfield idx, 3)) (hF : FP own idx 7 14 .int) (h : K (MM X (va_up Z 14 v) F L g) (pc + 3) vs st) : K (MM X Z F L g) pc vs (.int v :: rf X 0 :: st) := q_putf hK hd hF (by decide) rfl rfl rfl (Nat.le_of_ble_eq_true rfl) ((congrArg (fun q => K q (pc + 3) vs st) (MM_setO (Z' := va_up Z 14 v) rfl)).mpr h)
theorem qm_put18 (hK : Cl X own cc nL d K) {v : Int32} {idx : Nat} (hd : decode cc pc = .ok (.putfield idx, 3)) (hF : FP own idx 7 18 .int) (h : K (MM X (va_up Z 18 v) F L g) (pc + 3) vs st) : K (MM X Z F L g) pc vs (.int v :: rf X 0 :: st) := q_putf hK hd hF (by decide) rfl rfl rfl (Nat.le_of_ble_eq_true rfl) ((congrArg (fun q => K q (pc + 3) vs st) (MM_setO (Z' := va_up Z 18 v) rfl)).mpr h)
theorem qm_put22 (hK : Cl X own cc nL d K) {v : Int32} {idx : Nat} (hd : decode cc pc = .ok (.putfield idx, 3)) (hF : FP own idx 7 22 .int) (h : K (MM X (va_up Z 22 v) F L g) (pc + 3) vs st) : K (MM X Z F L g) pc vs (.int v :: rf X 0 :: st) := q_putf hK hd hF (by decide) rfl rfl rfl (Nat.le_of_ble_eq_true rfl) ((congrArg (fun q => K q (pc + 3) vs st) (MM_setO (Z' := va_up Z 22 v) rfl)).mpr h)
end QM

-- ===== the class's memory: Z int fields, V long fields, P pointers, F int arrays, L long arrays
def bR (n : Nat) : Bool := (n == 22) || (n == 29) || (decide (34 ≤ n) && decide (n ≤ 37)) || (decide (45 ≤ n) && decide (n ≤ 68)) || (decide (75 ≤ n) && decide (n ≤ 146))
def blen (n : Nat) : Nat := match n with
  | 26 => 104
  | 28 => 104
  | 39 => 24
  | _ => 6
def bI (n : Nat) : Bool := (n == 26) || (n == 28) || (n == 39) || bR n
theorem blen_lt (n : Nat) : blen n < 2 ^ 31 := by
  unfold blen
  split <;> decide
def BB (X : Cx) (Z : Nat → Int32) (V : Nat → Int64) (P : Nat → Nat → Nat) (F : Nat → Nat → Int32) (L : Nat → Nat → Int64) (g : Mem) : Mem := fun i => match i with
  | 19 => .inr (6, [rf X 20, rf X 21, rf X 22, rf X 23, rf X 24, rf X 30, rf X 33, rf X 44, .int (Z 0), .int (Z 1)])
  | 20 => aRI X 16 (fun k => 48 + k)
  | 21 => aZ X 16 (F 21)
  | 23 => aB X 256 (F 23)
  | 24 => .inr (5, [rf X 25, rf X 27, rf X 29])
  | 25 => .inr (2, [rf X 26, .int (Z 2), .long (V 0)])
  | 27 => .inr (2, [rf X 28, .int (Z 3), .long (V 1)])
  | 30 => .inr (0, [rf X 31, rf X 32, .int (Z 4), .long (V 2)])
  | 31 => aRI X 5 (fun k => 64 + k)
  | 32 => aRJ X 6 (P 32)
  | 33 => .inr (4, [rf X 24, rf X 34, rf X 35, rf X 36, rf X 37, rf X 38, rf X 39, rf X (P 33 7), rf X (P 33 8)])
  | 38 => aRI X 24 (P 38)
  | 40 => .inr (3, [rf X 41, .int (Z 5)])
  | 41 => aRI X 24 (P 41)
  | 42 => .inr (3, [rf X 43, .int (Z 6)])
  | 43 => aRI X 24 (P 43)
  | 44 => .inr (1, [rf X 24, rf X 45, rf X (P 44 2), rf X (P 44 3)])
  | n => if bI n = true then aI X (blen n) (F n) else if 69 ≤ n ∧ n ≤ 74 then aJ X 6 (L n) else g n

theorem BB_I {X : Cx} {Z : Nat → Int32} {V : Nat → Int64} {P : Nat → Nat → Nat} {F : Nat → Nat → Int32} {L : Nat → Nat → Int64} {g : Mem} {n : Nat} (h : bI n = true) : BB X Z V P F L g n = aI X (blen n) (F n) := by
  unfold BB
  split <;> first | exact absurd h (by decide) | simp [h]
theorem bI_lt {n : Nat} (h : bI n = true) : n < 147 := by
  simp only [bI, bR, Bool.or_eq_true, beq_iff_eq, Bool.and_eq_true, decide_eq_true_eq] at h
  omega
theorem bR_I {n : Nat} (h : bR n = true) : bI n = true := by simp [bI, h]
theorem bR_len {n : Nat} (h : bR n = true) : blen n = 6 := by
  unfold blen
  split <;> first | exact absurd h (by decide) | rfl
theorem BB_R {X : Cx} {Z : Nat → Int32} {V : Nat → Int64} {P : Nat → Nat → Nat} {F : Nat → Nat → Int32} {L : Nat → Nat → Int64} {g : Mem} {n : Nat} (h : bR n = true) : BB X Z V P F L g n = aI X 6 (F n) := by
  rw [BB_I (bR_I h), bR_len h]
theorem up_of {b b' : Mem} {o : Nat} {e : va_E} (h1 : b' o = e) (h2 : ∀ i, i ≠ o → b' i = b i) : va_up b o e = b' := by
  funext i
  by_cases hi : i = o
  · subst hi
    simp [va_up, h1]
  · simp [va_up, hi, h2 i hi]
theorem BB_setI {X : Cx} {Z : Nat → Int32} {V : Nat → Int64} {P : Nat → Nat → Nat} {F : Nat → Nat → Int32} {L : Nat → Nat → Int64} {g : Mem} {n : Nat} {f : Nat → Int32} (h : bI n = true) : va_up (BB X Z V P F L g) n (aI X (blen n) f) = BB X Z V P (va_up F n f) L g := by
  refine up_of (by rw [BB_I h]; simp [va_up]) (fun i hi => ?_)
  have h21 : n ≠ 21 := fun q => by subst q; exact absurd h (by decide)
  have h23 : n ≠ 23 := fun q => by subst q; exact absurd h (by decide)
  unfold BB
  split <;> first | rfl | simp [va_up, Ne.symm h21, Ne.symm h23, hi]
theorem BB_setR {X : Cx} {Z : Nat → Int32} {V : Nat → Int64} {P : Nat → Nat → Nat} {F : Nat → Nat → Int32} {L : Nat → Nat → Int64} {g : Mem} {n : Nat} {f : Nat → Int32} (h : bR n = true) : va_up (BB X Z V P F L g) n (aI X 6 f) = BB X Z V P (va_up F n f) L g := by
  have := BB_setI (X := X) (Z := Z) (V := V) (P := P) (F := F) (L := L) (g := g) (f := f) (bR_I h)
  rwa [bR_len h] at this
theorem BB_set21 {X : Cx} {Z : Nat → Int32} {V : Nat → Int64} {P : Nat → Nat → Nat} {F : Nat → Nat → Int32} {L : Nat → Nat → Int64} {g : Mem} {f : Nat → Int32} : va_up (BB X Z V P F L g) 21 (aZ X 16 f) = BB X Z V P (va_up F 21 f) L g := by
  refine up_of rfl (fun i hi => ?_)
  unfold BB
  split <;> first | rfl | exact absurd rfl hi | simp [va_up, hi]
theorem BB_set23 {X : Cx} {Z : Nat → Int32} {V : Nat → Int64} {P : Nat → Nat → Nat} {F : Nat → Nat → Int32} {L : Nat → Nat → Int64} {g : Mem} {f : Nat → Int32} : va_up (BB X Z V P F L g) 23 (aB X 256 f) = BB X Z V P (va_up F 23 f) L g := by
  refine up_of rfl (fun i hi => ?_)
  unfold BB
  split <;> first | rfl | exact absurd rfl hi | simp [va_up, hi]
theorem BB_J {X : Cx} {Z : Nat → Int32} {V : Nat → Int64} {P : Nat → Nat → Nat} {F : Nat → Nat → Int32} {L : Nat → Nat → Int64} {g : Mem} {n : Nat} (h1 : 69 ≤ n) (h2 : n ≤ 74) : BB X Z V P F L g n = aJ X 6 (L n) := by
  have hb : bI n = false := by
    cases hb : bI n
    · rfl
    · simp only [bI, bR, Bool.or_eq_true, beq_iff_eq, Bool.and_eq_true, decide_eq_true_eq] at hb
      omega
  unfold BB
  split <;> first | omega | simp [hb, h1, h2]
theorem BB_setJ {X : Cx} {Z : Nat → Int32} {V : Nat → Int64} {P : Nat → Nat → Nat} {F : Nat → Nat → Int32} {L : Nat → Nat → Int64} {g : Mem} {n : Nat} {f : Nat → Int64} (h1 : 69 ≤ n) (h2 : n ≤ 74) : va_up (BB X Z V P F L g) n (aJ X 6 f) = BB X Z V P F (va_up L n f) g := by
  refine up_of (by rw [BB_J h1 h2]; simp [va_up]) (fun i hi => ?_)
  unfold BB
  split <;> first | rfl | simp [va_up, hi]
theorem BB_setP32 {X : Cx} {Z : Nat → Int32} {V : Nat → Int64} {P : Nat → Nat → Nat} {F : Nat → Nat → Int32} {L : Nat → Nat → Int64} {g : Mem} {r : Nat → Nat} : va_up (BB X Z V P F L g) 32 (aRJ X 6 r) = BB X Z V (va_up P 32 r) F L g := by
  refine up_of rfl (fun i hi => ?_)
  unfold BB
  split <;> first | rfl | exact absurd rfl hi | simp [va_up, hi]
theorem BB_setP38 {X : Cx} {Z : Nat → Int32} {V : Nat → Int64} {P : Nat → Nat → Nat} {F : Nat → Nat → Int32} {L : Nat → Nat → Int64} {g : Mem} {r : Nat → Nat} : va_up (BB X Z V P F L g) 38 (aRI X 24 r) = BB X Z V (va_up P 38 r) F L g := by
  refine up_of rfl (fun i hi => ?_)
  unfold BB
  split <;> first | rfl | exact absurd rfl hi | simp [va_up, hi]
theorem BB_setP41 {X : Cx} {Z : Nat → Int32} {V : Nat → Int64} {P : Nat → Nat → Nat} {F : Nat → Nat → Int32} {L : Nat → Nat → Int64} {g : Mem} {r : Nat → Nat} : va_up (BB X Z V P F L g) 41 (aRI X 24 r) = BB X Z V (va_up P 41 r) F L g := by
  refine up_of rfl (fun i hi => ?_)
  unfold BB
  split <;> first | rfl | exact absurd rfl hi | simp [va_up, hi]
theorem BB_setP43 {X : Cx} {Z : Nat → Int32} {V : Nat → Int64} {P : Nat → Nat → Nat} {F : Nat → Nat → Int32} {L : Nat → Nat → Int64} {g : Mem} {r : Nat → Nat} : va_up (BB X Z V P F L g) 43 (aRI X 24 r) = BB X Z V (va_up P 43 r) F L g := by
  refine up_of rfl (fun i hi => ?_)
  unfold BB
  split <;> first | rfl | exact absurd rfl hi | simp [va_up, hi]
section QB
variable {X : Cx} {own : String} {cc : ByteArray} {nL d : Nat} {K : KT} {Z : Nat → Int32} {V : Nat → Int64} {P : Nat → Nat → Nat} {F : Nat → Nat → Int32} {L : Nat → Nat → Int64} {g : Mem} {pc : Nat} {vs : Lv} {st : List Value}
theorem qb_put19_8 (hK : Cl X own cc nL d K) {v : Int32} {idx : Nat} (hd : decode cc pc = .ok (.putfield idx, 3)) (hF : FP own idx 6 8 .int) (h : K (BB X (va_up Z 0 v) V P F L g) (pc + 3) vs st) : K (BB X Z V P F L g) pc vs (.int v :: rf X 19 :: st) := by
  refine q_putf hK hd hF (by decide) rfl rfl rfl (Nat.le_of_ble_eq_true rfl) ((congrArg (fun q => K q (pc + 3) vs st) (up_of (b' := BB X (va_up Z 0 v) V P F L g) rfl (fun i hi => ?_))).mpr h)
  unfold BB
  split <;> first | rfl | exact absurd rfl hi | simp [va_up]
theorem qb_put19_9 (hK : Cl X own cc nL d K) {v : Int32} {idx : Nat} (hd : decode cc pc = .ok (.putfield idx, 3)) (hF : FP own idx 6 9 .int) (h : K (BB X (va_up Z 1 v) V P F L g) (pc + 3) vs st) : K (BB X Z V P F L g) pc vs (.int v :: rf X 19 :: st) := by
  refine q_putf hK hd hF (by decide) rfl rfl rfl (Nat.le_of_ble_eq_true rfl) ((congrArg (fun q => K q (pc + 3) vs st) (up_of (b' := BB X (va_up Z 1 v) V P F L g) rfl (fun i hi => ?_))).mpr h)
  unfold BB
  split <;> first | rfl | exact absurd rfl hi | simp [va_up]
theorem qb_put25_1 (hK : Cl X own cc nL d K) {v : Int32} {idx : Nat} (hd : decode cc pc = .ok (.putfield idx, 3)) (hF : FP own idx 2 1 .int) (h : K (BB X (va_up Z 2 v) V P F L g) (pc + 3) vs st) : K (BB X Z V P F L g) pc vs (.int v :: rf X 25 :: st) := by
  refine q_putf hK hd hF (by decide) rfl rfl rfl (Nat.le_of_ble_eq_true rfl) ((congrArg (fun q => K q (pc + 3) vs st) (up_of (b' := BB X (va_up Z 2 v) V P F L g) rfl (fun i hi => ?_))).mpr h)
  unfold BB
  split <;> first | rfl | exact absurd rfl hi | simp [va_up]
theorem qb_put25_2 (hK : Cl X own cc nL d K) {v : Int64} {idx : Nat} (hd : decode cc pc = .ok (.putfield idx, 3)) (hF : FP own idx 2 2 .long) (h : K (BB X Z (va_up V 0 v) P F L g) (pc + 3) vs st) : K (BB X Z V P F L g) pc vs (.long v :: rf X 25 :: st) := by
  refine q_putf hK hd hF (by decide) rfl rfl rfl (Nat.le_of_ble_eq_true rfl) ((congrArg (fun q => K q (pc + 3) vs st) (up_of (b' := BB X Z (va_up V 0 v) P F L g) rfl (fun i hi => ?_))).mpr h)
  unfold BB
  split <;> first | rfl | exact absurd rfl hi | simp [va_up]
theorem qb_put27_1 (hK : Cl X own cc nL d K) {v : Int32} {idx : Nat} (hd : decode cc pc = .ok (.putfield idx, 3)) (hF : FP own idx 2 1 .int) (h : K (BB X (va_up Z 3 v) V P F L g) (pc + 3) vs st) : K (BB X Z V P F L g) pc vs (.int v :: rf X 27 :: st) := by
  refine q_putf hK hd hF (by decide) rfl rfl rfl (Nat.le_of_ble_eq_true rfl) ((congrArg (fun q => K q (pc + 3) vs st) (up_of (b' := BB X (va_up Z 3 v) V P F L g) rfl (fun i hi => ?_))).mpr h)
  unfold BB
  split <;> first | rfl | exact absurd rfl hi | simp [va_up]
theorem qb_put27_2 (hK : Cl X own cc nL d K) {v : Int64} {idx : Nat} (hd : decode cc pc = .ok (.putfield idx, 3)) (hF : FP own idx 2 2 .long) (h : K (BB X Z (va_up V 1 v) P F L g) (pc + 3) vs st) : K (BB X Z V P F L g) pc vs (.long v :: rf X 27 :: st) := by
  refine q_putf hK hd hF (by decide) rfl rfl rfl (Nat.le_of_ble_eq_true rfl) ((congrArg (fun q => K q (pc + 3) vs st) (up_of (b' := BB X Z (va_up V 1 v) P F L g) rfl (fun i hi => ?_))).mpr h)
  unfold BB
  split <;> first | rfl | exact absurd rfl hi | simp [va_up]
theorem qb_put30_2 (hK : Cl X own cc nL d K) {v : Int32} {idx : Nat} (hd : decode cc pc = .ok (.putfield idx, 3)) (hF : FP own idx 0 2 .int) (h : K (BB X (va_up Z 4 v) V P F L g) (pc + 3) vs st) : K (BB X Z V P F L g) pc vs (.int v :: rf X 30 :: st) := by
  refine q_putf hK hd hF (by decide) rfl rfl rfl (Nat.le_of_ble_eq_true rfl) ((congrArg (fun q => K q (pc + 3) vs st) (up_of (b' := BB X (va_up Z 4 v) V P F L g) rfl (fun i hi => ?_))).mpr h)
  unfold BB
  split <;> first | rfl | exact absurd rfl hi | simp [va_up]
theorem qb_put30_3 (hK : Cl X own cc nL d K) {v : Int64} {idx : Nat} (hd : decode cc pc = .ok (.putfield idx, 3)) (hF : FP own idx 0 3 .long) (h : K (BB X Z (va_up V 2 v) P F L g) (pc + 3) vs st) : K (BB X Z V P F L g) pc vs (.long v :: rf X 30 :: st) := by
  refine q_putf hK hd hF (by decide) rfl rfl rfl (Nat.le_of_ble_eq_true rfl) ((congrArg (fun q => K q (pc + 3) vs st) (up_of (b' := BB X Z (va_up V 2 v) P F L g) rfl (fun i hi => ?_))).mpr h)
  unfold BB
  split <;> first | rfl | exact absurd rfl hi | simp [va_up]
theorem qb_put40_1 (hK : Cl X own cc nL d K) {v : Int32} {idx : Nat} (hd : decode cc pc = .ok (.putfield idx, 3)) (hF : FP own idx 3 1 .int) (h : K (BB X (va_up Z 5 v) V P F L g) (pc + 3) vs st) : K (BB X Z V P F L g) pc vs (.int v :: rf X 40 :: st) := by
  refine q_putf hK hd hF (by decide) rfl rfl rfl (Nat.le_of_ble_eq_true rfl) ((congrArg (fun q => K q (pc + 3) vs st) (up_of (b' := BB X (va_up Z 5 v) V P F L g) rfl (fun i hi => ?_))).mpr h)
  unfold BB
  split <;> first | rfl | exact absurd rfl hi | simp [va_up]
theorem qb_put42_1 (hK : Cl X own cc nL d K) {v : Int32} {idx : Nat} (hd : decode cc pc = .ok (.putfield idx, 3)) (hF : FP own idx 3 1 .int) (h : K (BB X (va_up Z 6 v) V P F L g) (pc + 3) vs st) : K (BB X Z V P F L g) pc vs (.int v :: rf X 42 :: st) := by
  refine q_putf hK hd hF (by decide) rfl rfl rfl (Nat.le_of_ble_eq_true rfl) ((congrArg (fun q => K q (pc + 3) vs st) (up_of (b' := BB X (va_up Z 6 v) V P F L g) rfl (fun i hi => ?_))).mpr h)
  unfold BB
  split <;> first | rfl | exact absurd rfl hi | simp [va_up]
theorem qb_put33_7 (hK : Cl X own cc nL d K) {v : Nat} {idx : Nat} (hd : decode cc pc = .ok (.putfield idx, 3)) (hF : FP own idx 4 7 (.object "TuneBench$NoteList")) (h : K (BB X Z V (va_up P 33 (va_up (P 33) 7 v)) F L g) (pc + 3) vs st) : K (BB X Z V P F L g) pc vs (rf X v :: rf X 33 :: st) := by
  refine q_putf hK hd hF (by decide) rfl rfl rfl (Nat.le_of_ble_eq_true rfl) ((congrArg (fun q => K q (pc + 3) vs st) (up_of (b' := BB X Z V (va_up P 33 (va_up (P 33) 7 v)) F L g) rfl (fun i hi => ?_))).mpr h)
  unfold BB
  split <;> first | rfl | exact absurd rfl hi | simp [va_up]
theorem qb_put33_8 (hK : Cl X own cc nL d K) {v : Nat} {idx : Nat} (hd : decode cc pc = .ok (.putfield idx, 3)) (hF : FP own idx 4 8 (.object "TuneBench$NoteList")) (h : K (BB X Z V (va_up P 33 (va_up (P 33) 8 v)) F L g) (pc + 3) vs st) : K (BB X Z V P F L g) pc vs (rf X v :: rf X 33 :: st) := by
  refine q_putf hK hd hF (by decide) rfl rfl rfl (Nat.le_of_ble_eq_true rfl) ((congrArg (fun q => K q (pc + 3) vs st) (up_of (b' := BB X Z V (va_up P 33 (va_up (P 33) 8 v)) F L g) rfl (fun i hi => ?_))).mpr h)
  unfold BB
  split <;> first | rfl | exact absurd rfl hi | simp [va_up]
theorem qb_put44_2 (hK : Cl X own cc nL d K) {v : Nat} {idx : Nat} (hd : decode cc pc = .ok (.putfield idx, 3)) (hF : FP own idx 1 2 (.array .int)) (h : K (BB X Z V (va_up P 44 (va_up (P 44) 2 v)) F L g) (pc + 3) vs st) : K (BB X Z V P F L g) pc vs (rf X v :: rf X 44 :: st) := by
  refine q_putf hK hd hF (by decide) rfl rfl rfl (Nat.le_of_ble_eq_true rfl) ((congrArg (fun q => K q (pc + 3) vs st) (up_of (b' := BB X Z V (va_up P 44 (va_up (P 44) 2 v)) F L g) rfl (fun i hi => ?_))).mpr h)
  unfold BB
  split <;> first | rfl | exact absurd rfl hi | simp [va_up]
theorem qb_put44_3 (hK : Cl X own cc nL d K) {v : Nat} {idx : Nat} (hd : decode cc pc = .ok (.putfield idx, 3)) (hF : FP own idx 1 3 (.array .int)) (h : K (BB X Z V (va_up P 44 (va_up (P 44) 3 v)) F L g) (pc + 3) vs st) : K (BB X Z V P F L g) pc vs (rf X v :: rf X 44 :: st) := by
  refine q_putf hK hd hF (by decide) rfl rfl rfl (Nat.le_of_ble_eq_true rfl) ((congrArg (fun q => K q (pc + 3) vs st) (up_of (b' := BB X Z V (va_up P 44 (va_up (P 44) 3 v)) F L g) rfl (fun i hi => ?_))).mpr h)
  unfold BB
  split <;> first | rfl | exact absurd rfl hi | simp [va_up]

theorem qb_iald (hK : Cl X own cc nL d K) {n k : Nat} {i : Int32} (hd : decode cc pc = .ok (.iaload, 1)) (hn : bI n = true) (hi : i = nI k) (hk : k < blen n) (h : K (BB X Z V P F L g) (pc + 1) vs (.int (F n k) :: st)) : K (BB X Z V P F L g) pc vs (.int i :: rf X n :: st) := by
  subst hi
  have h2 : k < 2 ^ 31 := Nat.lt_trans hk (blen_lt n)
  exact q_iald hK hd (bI_lt hn) (BB_I hn) (vp_in_nI hk (blen_lt n)) (by rw [nI_clamp h2]; exact h)
theorem qb_iast (hK : Cl X own cc nL d K) {n k : Nat} {i x : Int32} (hd : decode cc pc = .ok (.iastore, 1)) (hn : bI n = true) (hi : i = nI k) (hk : k < blen n) (h : K (BB X Z V P (va_up F n (upd (F n) k x)) L g) (pc + 1) vs st) : K (BB X Z V P F L g) pc vs (.int x :: .int i :: rf X n :: st) := by
  subst hi
  have h2 : k < 2 ^ 31 := Nat.lt_trans hk (blen_lt n)
  exact q_iast hK hd (bI_lt hn) (BB_I hn) (vp_in_nI hk (blen_lt n)) (by rw [nI_clamp h2, BB_setI hn]; exact h)
theorem qb_ialdR (hK : Cl X own cc nL d K) {n k : Nat} {i : Int32} (hd : decode cc pc = .ok (.iaload, 1)) (hn : bR n = true) (hi : i = nI k) (hk : k < 6) (h : K (BB X Z V P F L g) (pc + 1) vs (.int (F n k) :: st)) : K (BB X Z V P F L g) pc vs (.int i :: rf X n :: st) := qb_iald hK hd (bR_I hn) hi (by rw [bR_len hn]; exact hk) h
theorem qb_iastR (hK : Cl X own cc nL d K) {n k : Nat} {i x : Int32} (hd : decode cc pc = .ok (.iastore, 1)) (hn : bR n = true) (hi : i = nI k) (hk : k < 6) (h : K (BB X Z V P (va_up F n (upd (F n) k x)) L g) (pc + 1) vs st) : K (BB X Z V P F L g) pc vs (.int x :: .int i :: rf X n :: st) := qb_iast hK hd (bR_I hn) hi (by rw [bR_len hn]; exact hk) h
theorem qb_zald (hK : Cl X own cc nL d K) {k : Nat} {i : Int32} (hd : decode cc pc = .ok (.baload, 1)) (hi : i = nI k) (hk : k < 16) (h : K (BB X Z V P F L g) (pc + 1) vs (.int (F 21 k) :: st)) : K (BB X Z V P F L g) pc vs (.int i :: rf X 21 :: st) := by
  subst hi
  have h2 : k < 2 ^ 31 := by omega
  exact q_zald hK hd (by decide) rfl (vp_in_nI hk (by decide)) (by rw [nI_clamp h2]; exact h)
theorem qb_zast (hK : Cl X own cc nL d K) {k : Nat} {i x : Int32} (hd : decode cc pc = .ok (.bastore, 1)) (hi : i = nI k) (hk : k < 16) (hx : vp_nar .boolean x = x) (h : K (BB X Z V P (va_up F 21 (upd (F 21) k x)) L g) (pc + 1) vs st) : K (BB X Z V P F L g) pc vs (.int x :: .int i :: rf X 21 :: st) := by
  subst hi
  have h2 : k < 2 ^ 31 := by omega
  exact q_zast hK hd (by decide) rfl (vp_in_nI hk (by decide)) (by rw [nI_clamp h2, hx, BB_set21]; exact h)
theorem qb_bald (hK : Cl X own cc nL d K) {k : Nat} {i : Int32} (hd : decode cc pc = .ok (.baload, 1)) (hi : i = nI k) (hk : k < 256) (h : K (BB X Z V P F L g) (pc + 1) vs (.int (F 23 k) :: st)) : K (BB X Z V P F L g) pc vs (.int i :: rf X 23 :: st) := by
  subst hi
  have h2 : k < 2 ^ 31 := by omega
  exact q_bald hK hd (by decide) rfl (vp_in_nI hk (by decide)) (by rw [nI_clamp h2]; exact h)
theorem qb_bast (hK : Cl X own cc nL d K) {k : Nat} {i x : Int32} (hd : decode cc pc = .ok (.bastore, 1)) (hi : i = nI k) (hk : k < 256) (h : K (BB X Z V P (va_up F 23 (upd (F 23) k (vp_nar .byte x))) L g) (pc + 1) vs st) : K (BB X Z V P F L g) pc vs (.int x :: .int i :: rf X 23 :: st) := by
  subst hi
  have h2 : k < 2 ^ 31 := by omega
  exact q_bast hK hd (by decide) rfl (vp_in_nI hk (by decide)) (by rw [nI_clamp h2, BB_set23]; exact h)
theorem qb_lald (hK : Cl X own cc nL d K) {n k : Nat} {i : Int32} (hd : decode cc pc = .ok (.laload, 1)) (h1 : 69 ≤ n) (h2 : n ≤ 74) (hi : i = nI k) (hk : k < 6) (h : K (BB X Z V P F L g) (pc + 1) vs (.long (L n k) :: st)) : K (BB X Z V P F L g) pc vs (.int i :: rf X n :: st) := by
  subst hi
  have h3 : k < 2 ^ 31 := by omega
  exact q_lald hK hd (by omega) (BB_J h1 h2) (vp_in_nI hk (by decide)) (by rw [nI_clamp h3]; exact h)
theorem qb_last (hK : Cl X own cc nL d K) {n k : Nat} {i : Int32} {x : Int64} (hd : decode cc pc = .ok (.lastore, 1)) (h1 : 69 ≤ n) (h2 : n ≤ 74) (hi : i = nI k) (hk : k < 6) (h : K (BB X Z V P F (va_up L n (vp_updL (L n) k x)) g) (pc + 1) vs st) : K (BB X Z V P F L g) pc vs (.long x :: .int i :: rf X n :: st) := by
  subst hi
  have h3 : k < 2 ^ 31 := by omega
  exact q_last hK hd (by omega) (BB_J h1 h2) (vp_in_nI hk (by decide)) (by rw [nI_clamp h3, BB_setJ h1 h2]; exact h)
theorem qb_aald20 (hK : Cl X own cc nL d K) {k : Nat} {i : Int32} (hd : decode cc pc = .ok (.aaload, 1)) (hi : i = nI k) (hk : k < 16) (h : K (BB X Z V P F L g) (pc + 1) vs (rf X (48 + k) :: st)) : K (BB X Z V P F L g) pc vs (.int i :: rf X 20 :: st) := by
  subst hi
  have h2 : k < 2 ^ 31 := by omega
  exact q_aaldI (r := fun k => 48 + k) hK hd (by decide) rfl (vp_in_nI hk (by decide)) (by rw [nI_clamp h2]; exact h)
theorem qb_aald31 (hK : Cl X own cc nL d K) {k : Nat} {i : Int32} (hd : decode cc pc = .ok (.aaload, 1)) (hi : i = nI k) (hk : k < 5) (h : K (BB X Z V P F L g) (pc + 1) vs (rf X (64 + k) :: st)) : K (BB X Z V P F L g) pc vs (.int i :: rf X 31 :: st) := by
  subst hi
  have h2 : k < 2 ^ 31 := by omega
  exact q_aaldI (r := fun k => 64 + k) hK hd (by decide) rfl (vp_in_nI hk (by decide)) (by rw [nI_clamp h2]; exact h)
theorem qb_aald32 (hK : Cl X own cc nL d K) {k : Nat} {i : Int32} (hd : decode cc pc = .ok (.aaload, 1)) (hi : i = nI k) (hk : k < 6) (h : K (BB X Z V P F L g) (pc + 1) vs (rf X (P 32 k) :: st)) : K (BB X Z V P F L g) pc vs (.int i :: rf X 32 :: st) := by
  subst hi
  have h2 : k < 2 ^ 31 := by omega
  exact q_aaldJ (r := P 32) hK hd (by decide) rfl (vp_in_nI hk (by decide)) (by rw [nI_clamp h2]; exact h)
theorem qb_aast32 (hK : Cl X own cc nL d K) {k q : Nat} {i : Int32} (hd : decode cc pc = .ok (.aastore, 1)) (hi : i = nI k) (hk : k < 6) (h1 : 69 ≤ q) (h2 : q ≤ 74) (h : K (BB X Z V (va_up P 32 (va_up (P 32) k q)) F L g) (pc + 1) vs st) : K (BB X Z V P F L g) pc vs (rf X q :: .int i :: rf X 32 :: st) := by
  subst hi
  have h3 : k < 2 ^ 31 := by omega
  exact q_aastJ (r := P 32) hK hd (by decide) rfl (vp_in_nI hk (by decide)) (by omega) (BB_J h1 h2) (by rw [nI_clamp h3, BB_setP32]; exact h)
theorem qb_aald38 (hK : Cl X own cc nL d K) {k : Nat} {i : Int32} (hd : decode cc pc = .ok (.aaload, 1)) (hi : i = nI k) (hk : k < 24) (h : K (BB X Z V P F L g) (pc + 1) vs (rf X (P 38 k) :: st)) : K (BB X Z V P F L g) pc vs (.int i :: rf X 38 :: st) := by
  subst hi
  have h2 : k < 2 ^ 31 := by omega
  exact q_aaldI (r := P 38) hK hd (by decide) rfl (vp_in_nI hk (by decide)) (by rw [nI_clamp h2]; exact h)
theorem qb_aast38 (hK : Cl X own cc nL d K) {k q : Nat} {i : Int32} (hd : decode cc pc = .ok (.aastore, 1)) (hi : i = nI k) (hk : k < 24) (hq : bR q = true) (h : K (BB X Z V (va_up P 38 (va_up (P 38) k q)) F L g) (pc + 1) vs st) : K (BB X Z V P F L g) pc vs (rf X q :: .int i :: rf X 38 :: st) := by
  subst hi
  have h3 : k < 2 ^ 31 := by omega
  exact q_aastI (r := P 38) hK hd (by decide) rfl (vp_in_nI hk (by decide)) (bI_lt (bR_I hq)) (BB_R hq) (by rw [nI_clamp h3, BB_setP38]; exact h)
theorem qb_aald41 (hK : Cl X own cc nL d K) {k : Nat} {i : Int32} (hd : decode cc pc = .ok (.aaload, 1)) (hi : i = nI k) (hk : k < 24) (h : K (BB X Z V P F L g) (pc + 1) vs (rf X (P 41 k) :: st)) : K (BB X Z V P F L g) pc vs (.int i :: rf X 41 :: st) := by
  subst hi
  have h2 : k < 2 ^ 31 := by omega
  exact q_aaldI (r := P 41) hK hd (by decide) rfl (vp_in_nI hk (by decide)) (by rw [nI_clamp h2]; exact h)
theorem qb_aast41 (hK : Cl X own cc nL d K) {k q : Nat} {i : Int32} (hd : decode cc pc = .ok (.aastore, 1)) (hi : i = nI k) (hk : k < 24) (hq : bR q = true) (h : K (BB X Z V (va_up P 41 (va_up (P 41) k q)) F L g) (pc + 1) vs st) : K (BB X Z V P F L g) pc vs (rf X q :: .int i :: rf X 41 :: st) := by
  subst hi
  have h3 : k < 2 ^ 31 := by omega
  exact q_aastI (r := P 41) hK hd (by decide) rfl (vp_in_nI hk (by decide)) (bI_lt (bR_I hq)) (BB_R hq) (by rw [nI_clamp h3, BB_setP41]; exact h)
theorem qb_aald43 (hK : Cl X own cc nL d K) {k : Nat} {i : Int32} (hd : decode cc pc = .ok (.aaload, 1)) (hi : i = nI k) (hk : k < 24) (h : K (BB X Z V P F L g) (pc + 1) vs (rf X (P 43 k) :: st)) : K (BB X Z V P F L g) pc vs (.int i :: rf X 43 :: st) := by
  subst hi
  have h2 : k < 2 ^ 31 := by omega
  exact q_aaldI (r := P 43) hK hd (by decide) rfl (vp_in_nI hk (by decide)) (by rw [nI_clamp h2]; exact h)
theorem qb_aast43 (hK : Cl X own cc nL d K) {k q : Nat} {i : Int32} (hd : decode cc pc = .ok (.aastore, 1)) (hi : i = nI k) (hk : k < 24) (hq : bR q = true) (h : K (BB X Z V (va_up P 43 (va_up (P 43) k q)) F L g) (pc + 1) vs st) : K (BB X Z V P F L g) pc vs (rf X q :: .int i :: rf X 43 :: st) := by
  subst hi
  have h3 : k < 2 ^ 31 := by omega
  exact q_aastI (r := P 43) hK hd (by decide) rfl (vp_in_nI hk (by decide)) (bI_lt (bR_I hq)) (BB_R hq) (by rw [nI_clamp h3, BB_setP43]; exact h)
end QB
section QC
variable {X : Cx} {own : String} {cc : ByteArray} {nL d : Nat} {K : KT} {g : Mem} {pc : Nat} {vs : Lv} {r : List Value} {idx d1 : Nat} {y : MethodName}
theorem q_cVi0 (hK : Cl X own cc nL d K) {ob ci : Nat} {fs : List Value}  (hd : decode cc pc = .ok (.invokevirtual idx, 3)) (hL : VL own idx y 0 ci) (hd1 : d1 + 1 ≤ d) (ho : ob < 147) (hg : g ob = .inr (ci, fs)) (hr8 : (r.map fun v => v.category).sum ≤ 8) (hC : CallI X d1 y (rf X ob :: []) g (fun v g9 => K g9 (pc + 3) vs (.int v :: r))) : K g pc vs (rf X ob :: r) := q_callVi hK hd hL rfl hd1 ho hg hC rfl hr8 (fun v g9 h => h)
theorem q_cVl0 (hK : Cl X own cc nL d K) {ob ci : Nat} {fs : List Value}  (hd : decode cc pc = .ok (.invokevirtual idx, 3)) (hL : VL own idx y 0 ci) (hd1 : d1 + 1 ≤ d) (ho : ob < 147) (hg : g ob = .inr (ci, fs)) (hr8 : (r.map fun v => v.category).sum ≤ 8) (hC : CallL X d1 y (rf X ob :: []) g (fun v g9 => K g9 (pc + 3) vs (.long v :: r))) : K g pc vs (rf X ob :: r) := q_callVl hK hd hL rfl hd1 ho hg hC rfl hr8 (fun v g9 h => h)
theorem q_cVv0 (hK : Cl X own cc nL d K) {ob ci : Nat} {fs : List Value}  (hd : decode cc pc = .ok (.invokevirtual idx, 3)) (hL : VL own idx y 0 ci) (hd1 : d1 + 1 ≤ d) (ho : ob < 147) (hg : g ob = .inr (ci, fs)) (hr8 : (r.map fun v => v.category).sum ≤ 8) (hC : CallV X d1 y (rf X ob :: []) g (fun g9 => K g9 (pc + 3) vs r)) : K g pc vs (rf X ob :: r) := q_callVv hK hd hL rfl hd1 ho hg hC rfl hr8 (fun g9 h => h)
theorem q_cSi1 (hK : Cl X own cc nL d K) {a1 : Value} (hd : decode cc pc = .ok (.invokestatic idx, 3)) (hL : SL own idx y 1) (hd1 : d1 + 1 ≤ d) (hr8 : (r.map fun v => v.category).sum ≤ 8) (hC : CallI X d1 y [a1] g (fun v g9 => K g9 (pc + 3) vs (.int v :: r))) : K g pc vs (a1 :: r) := q_callSi hK hd hL rfl hd1 hC rfl hr8 (fun v g9 h => h)
theorem q_cVi1 (hK : Cl X own cc nL d K) {ob ci : Nat} {fs : List Value} {a1 : Value} (hd : decode cc pc = .ok (.invokevirtual idx, 3)) (hL : VL own idx y 1 ci) (hd1 : d1 + 1 ≤ d) (ho : ob < 147) (hg : g ob = .inr (ci, fs)) (hr8 : (r.map fun v => v.category).sum ≤ 8) (hC : CallI X d1 y (rf X ob :: [a1]) g (fun v g9 => K g9 (pc + 3) vs (.int v :: r))) : K g pc vs (a1 :: rf X ob :: r) := q_callVi hK hd hL rfl hd1 ho hg hC rfl hr8 (fun v g9 h => h)
theorem q_cSl1 (hK : Cl X own cc nL d K) {a1 : Value} (hd : decode cc pc = .ok (.invokestatic idx, 3)) (hL : SL own idx y 1) (hd1 : d1 + 1 ≤ d) (hr8 : (r.map fun v => v.category).sum ≤ 8) (hC : CallL X d1 y [a1] g (fun v g9 => K g9 (pc + 3) vs (.long v :: r))) : K g pc vs (a1 :: r) := q_callSl hK hd hL rfl hd1 hC rfl hr8 (fun v g9 h => h)
theorem q_cVl1 (hK : Cl X own cc nL d K) {ob ci : Nat} {fs : List Value} {a1 : Value} (hd : decode cc pc = .ok (.invokevirtual idx, 3)) (hL : VL own idx y 1 ci) (hd1 : d1 + 1 ≤ d) (ho : ob < 147) (hg : g ob = .inr (ci, fs)) (hr8 : (r.map fun v => v.category).sum ≤ 8) (hC : CallL X d1 y (rf X ob :: [a1]) g (fun v g9 => K g9 (pc + 3) vs (.long v :: r))) : K g pc vs (a1 :: rf X ob :: r) := q_callVl hK hd hL rfl hd1 ho hg hC rfl hr8 (fun v g9 h => h)
theorem q_cSv1 (hK : Cl X own cc nL d K) {a1 : Value} (hd : decode cc pc = .ok (.invokestatic idx, 3)) (hL : SL own idx y 1) (hd1 : d1 + 1 ≤ d) (hr8 : (r.map fun v => v.category).sum ≤ 8) (hC : CallV X d1 y [a1] g (fun g9 => K g9 (pc + 3) vs r)) : K g pc vs (a1 :: r) := q_callSv hK hd hL rfl hd1 hC rfl hr8 (fun g9 h => h)
theorem q_cVv1 (hK : Cl X own cc nL d K) {ob ci : Nat} {fs : List Value} {a1 : Value} (hd : decode cc pc = .ok (.invokevirtual idx, 3)) (hL : VL own idx y 1 ci) (hd1 : d1 + 1 ≤ d) (ho : ob < 147) (hg : g ob = .inr (ci, fs)) (hr8 : (r.map fun v => v.category).sum ≤ 8) (hC : CallV X d1 y (rf X ob :: [a1]) g (fun g9 => K g9 (pc + 3) vs r)) : K g pc vs (a1 :: rf X ob :: r) := q_callVv hK hd hL rfl hd1 ho hg hC rfl hr8 (fun g9 h => h)
theorem q_cSi2 (hK : Cl X own cc nL d K) {a1 a2 : Value} (hd : decode cc pc = .ok (.invokestatic idx, 3)) (hL : SL own idx y 2) (hd1 : d1 + 1 ≤ d) (hr8 : (r.map fun v => v.category).sum ≤ 8) (hC : CallI X d1 y [a1, a2] g (fun v g9 => K g9 (pc + 3) vs (.int v :: r))) : K g pc vs (a2 :: a1 :: r) := q_callSi hK hd hL rfl hd1 hC rfl hr8 (fun v g9 h => h)
theorem q_cVi2 (hK : Cl X own cc nL d K) {ob ci : Nat} {fs : List Value} {a1 a2 : Value} (hd : decode cc pc = .ok (.invokevirtual idx, 3)) (hL : VL own idx y 2 ci) (hd1 : d1 + 1 ≤ d) (ho : ob < 147) (hg : g ob = .inr (ci, fs)) (hr8 : (r.map fun v => v.category).sum ≤ 8) (hC : CallI X d1 y (rf X ob :: [a1, a2]) g (fun v g9 => K g9 (pc + 3) vs (.int v :: r))) : K g pc vs (a2 :: a1 :: rf X ob :: r) := q_callVi hK hd hL rfl hd1 ho hg hC rfl hr8 (fun v g9 h => h)
theorem q_cSl2 (hK : Cl X own cc nL d K) {a1 a2 : Value} (hd : decode cc pc = .ok (.invokestatic idx, 3)) (hL : SL own idx y 2) (hd1 : d1 + 1 ≤ d) (hr8 : (r.map fun v => v.category).sum ≤ 8) (hC : CallL X d1 y [a1, a2] g (fun v g9 => K g9 (pc + 3) vs (.long v :: r))) : K g pc vs (a2 :: a1 :: r) := q_callSl hK hd hL rfl hd1 hC rfl hr8 (fun v g9 h => h)
theorem q_cVl2 (hK : Cl X own cc nL d K) {ob ci : Nat} {fs : List Value} {a1 a2 : Value} (hd : decode cc pc = .ok (.invokevirtual idx, 3)) (hL : VL own idx y 2 ci) (hd1 : d1 + 1 ≤ d) (ho : ob < 147) (hg : g ob = .inr (ci, fs)) (hr8 : (r.map fun v => v.category).sum ≤ 8) (hC : CallL X d1 y (rf X ob :: [a1, a2]) g (fun v g9 => K g9 (pc + 3) vs (.long v :: r))) : K g pc vs (a2 :: a1 :: rf X ob :: r) := q_callVl hK hd hL rfl hd1 ho hg hC rfl hr8 (fun v g9 h => h)
theorem q_cSv2 (hK : Cl X own cc nL d K) {a1 a2 : Value} (hd : decode cc pc = .ok (.invokestatic idx, 3)) (hL : SL own idx y 2) (hd1 : d1 + 1 ≤ d) (hr8 : (r.map fun v => v.category).sum ≤ 8) (hC : CallV X d1 y [a1, a2] g (fun g9 => K g9 (pc + 3) vs r)) : K g pc vs (a2 :: a1 :: r) := q_callSv hK hd hL rfl hd1 hC rfl hr8 (fun g9 h => h)
theorem q_cVv2 (hK : Cl X own cc nL d K) {ob ci : Nat} {fs : List Value} {a1 a2 : Value} (hd : decode cc pc = .ok (.invokevirtual idx, 3)) (hL : VL own idx y 2 ci) (hd1 : d1 + 1 ≤ d) (ho : ob < 147) (hg : g ob = .inr (ci, fs)) (hr8 : (r.map fun v => v.category).sum ≤ 8) (hC : CallV X d1 y (rf X ob :: [a1, a2]) g (fun g9 => K g9 (pc + 3) vs r)) : K g pc vs (a2 :: a1 :: rf X ob :: r) := q_callVv hK hd hL rfl hd1 ho hg hC rfl hr8 (fun g9 h => h)
theorem q_cSi3 (hK : Cl X own cc nL d K) {a1 a2 a3 : Value} (hd : decode cc pc = .ok (.invokestatic idx, 3)) (hL : SL own idx y 3) (hd1 : d1 + 1 ≤ d) (hr8 : (r.map fun v => v.category).sum ≤ 8) (hC : CallI X d1 y [a1, a2, a3] g (fun v g9 => K g9 (pc + 3) vs (.int v :: r))) : K g pc vs (a3 :: a2 :: a1 :: r) := q_callSi hK hd hL rfl hd1 hC rfl hr8 (fun v g9 h => h)
theorem q_cVi3 (hK : Cl X own cc nL d K) {ob ci : Nat} {fs : List Value} {a1 a2 a3 : Value} (hd : decode cc pc = .ok (.invokevirtual idx, 3)) (hL : VL own idx y 3 ci) (hd1 : d1 + 1 ≤ d) (ho : ob < 147) (hg : g ob = .inr (ci, fs)) (hr8 : (r.map fun v => v.category).sum ≤ 8) (hC : CallI X d1 y (rf X ob :: [a1, a2, a3]) g (fun v g9 => K g9 (pc + 3) vs (.int v :: r))) : K g pc vs (a3 :: a2 :: a1 :: rf X ob :: r) := q_callVi hK hd hL rfl hd1 ho hg hC rfl hr8 (fun v g9 h => h)
theorem q_cSl3 (hK : Cl X own cc nL d K) {a1 a2 a3 : Value} (hd : decode cc pc = .ok (.invokestatic idx, 3)) (hL : SL own idx y 3) (hd1 : d1 + 1 ≤ d) (hr8 : (r.map fun v => v.category).sum ≤ 8) (hC : CallL X d1 y [a1, a2, a3] g (fun v g9 => K g9 (pc + 3) vs (.long v :: r))) : K g pc vs (a3 :: a2 :: a1 :: r) := q_callSl hK hd hL rfl hd1 hC rfl hr8 (fun v g9 h => h)
theorem q_cVl3 (hK : Cl X own cc nL d K) {ob ci : Nat} {fs : List Value} {a1 a2 a3 : Value} (hd : decode cc pc = .ok (.invokevirtual idx, 3)) (hL : VL own idx y 3 ci) (hd1 : d1 + 1 ≤ d) (ho : ob < 147) (hg : g ob = .inr (ci, fs)) (hr8 : (r.map fun v => v.category).sum ≤ 8) (hC : CallL X d1 y (rf X ob :: [a1, a2, a3]) g (fun v g9 => K g9 (pc + 3) vs (.long v :: r))) : K g pc vs (a3 :: a2 :: a1 :: rf X ob :: r) := q_callVl hK hd hL rfl hd1 ho hg hC rfl hr8 (fun v g9 h => h)
theorem q_cSv3 (hK : Cl X own cc nL d K) {a1 a2 a3 : Value} (hd : decode cc pc = .ok (.invokestatic idx, 3)) (hL : SL own idx y 3) (hd1 : d1 + 1 ≤ d) (hr8 : (r.map fun v => v.category).sum ≤ 8) (hC : CallV X d1 y [a1, a2, a3] g (fun g9 => K g9 (pc + 3) vs r)) : K g pc vs (a3 :: a2 :: a1 :: r) := q_callSv hK hd hL rfl hd1 hC rfl hr8 (fun g9 h => h)
theorem q_cVv3 (hK : Cl X own cc nL d K) {ob ci : Nat} {fs : List Value} {a1 a2 a3 : Value} (hd : decode cc pc = .ok (.invokevirtual idx, 3)) (hL : VL own idx y 3 ci) (hd1 : d1 + 1 ≤ d) (ho : ob < 147) (hg : g ob = .inr (ci, fs)) (hr8 : (r.map fun v => v.category).sum ≤ 8) (hC : CallV X d1 y (rf X ob :: [a1, a2, a3]) g (fun g9 => K g9 (pc + 3) vs r)) : K g pc vs (a3 :: a2 :: a1 :: rf X ob :: r) := q_callVv hK hd hL rfl hd1 ho hg hC rfl hr8 (fun g9 h => h)
theorem q_cSi4 (hK : Cl X own cc nL d K) {a1 a2 a3 a4 : Value} (hd : decode cc pc = .ok (.invokestatic idx, 3)) (hL : SL own idx y 4) (hd1 : d1 + 1 ≤ d) (hr8 : (r.map fun v => v.category).sum ≤ 8) (hC : CallI X d1 y [a1, a2, a3, a4] g (fun v g9 => K g9 (pc + 3) vs (.int v :: r))) : K g pc vs (a4 :: a3 :: a2 :: a1 :: r) := q_callSi hK hd hL rfl hd1 hC rfl hr8 (fun v g9 h => h)
theorem q_cVi4 (hK : Cl X own cc nL d K) {ob ci : Nat} {fs : List Value} {a1 a2 a3 a4 : Value} (hd : decode cc pc = .ok (.invokevirtual idx, 3)) (hL : VL own idx y 4 ci) (hd1 : d1 + 1 ≤ d) (ho : ob < 147) (hg : g ob = .inr (ci, fs)) (hr8 : (r.map fun v => v.category).sum ≤ 8) (hC : CallI X d1 y (rf X ob :: [a1, a2, a3, a4]) g (fun v g9 => K g9 (pc + 3) vs (.int v :: r))) : K g pc vs (a4 :: a3 :: a2 :: a1 :: rf X ob :: r) := q_callVi hK hd hL rfl hd1 ho hg hC rfl hr8 (fun v g9 h => h)
theorem q_cSl4 (hK : Cl X own cc nL d K) {a1 a2 a3 a4 : Value} (hd : decode cc pc = .ok (.invokestatic idx, 3)) (hL : SL own idx y 4) (hd1 : d1 + 1 ≤ d) (hr8 : (r.map fun v => v.category).sum ≤ 8) (hC : CallL X d1 y [a1, a2, a3, a4] g (fun v g9 => K g9 (pc + 3) vs (.long v :: r))) : K g pc vs (a4 :: a3 :: a2 :: a1 :: r) := q_callSl hK hd hL rfl hd1 hC rfl hr8 (fun v g9 h => h)
theorem q_cVl4 (hK : Cl X own cc nL d K) {ob ci : Nat} {fs : List Value} {a1 a2 a3 a4 : Value} (hd : decode cc pc = .ok (.invokevirtual idx, 3)) (hL : VL own idx y 4 ci) (hd1 : d1 + 1 ≤ d) (ho : ob < 147) (hg : g ob = .inr (ci, fs)) (hr8 : (r.map fun v => v.category).sum ≤ 8) (hC : CallL X d1 y (rf X ob :: [a1, a2, a3, a4]) g (fun v g9 => K g9 (pc + 3) vs (.long v :: r))) : K g pc vs (a4 :: a3 :: a2 :: a1 :: rf X ob :: r) := q_callVl hK hd hL rfl hd1 ho hg hC rfl hr8 (fun v g9 h => h)
theorem q_cSv4 (hK : Cl X own cc nL d K) {a1 a2 a3 a4 : Value} (hd : decode cc pc = .ok (.invokestatic idx, 3)) (hL : SL own idx y 4) (hd1 : d1 + 1 ≤ d) (hr8 : (r.map fun v => v.category).sum ≤ 8) (hC : CallV X d1 y [a1, a2, a3, a4] g (fun g9 => K g9 (pc + 3) vs r)) : K g pc vs (a4 :: a3 :: a2 :: a1 :: r) := q_callSv hK hd hL rfl hd1 hC rfl hr8 (fun g9 h => h)
theorem q_cVv4 (hK : Cl X own cc nL d K) {ob ci : Nat} {fs : List Value} {a1 a2 a3 a4 : Value} (hd : decode cc pc = .ok (.invokevirtual idx, 3)) (hL : VL own idx y 4 ci) (hd1 : d1 + 1 ≤ d) (ho : ob < 147) (hg : g ob = .inr (ci, fs)) (hr8 : (r.map fun v => v.category).sum ≤ 8) (hC : CallV X d1 y (rf X ob :: [a1, a2, a3, a4]) g (fun g9 => K g9 (pc + 3) vs r)) : K g pc vs (a4 :: a3 :: a2 :: a1 :: rf X ob :: r) := q_callVv hK hd hL rfl hd1 ho hg hC rfl hr8 (fun g9 h => h)
theorem q_cSi5 (hK : Cl X own cc nL d K) {a1 a2 a3 a4 a5 : Value} (hd : decode cc pc = .ok (.invokestatic idx, 3)) (hL : SL own idx y 5) (hd1 : d1 + 1 ≤ d) (hr8 : (r.map fun v => v.category).sum ≤ 8) (hC : CallI X d1 y [a1, a2, a3, a4, a5] g (fun v g9 => K g9 (pc + 3) vs (.int v :: r))) : K g pc vs (a5 :: a4 :: a3 :: a2 :: a1 :: r) := q_callSi hK hd hL rfl hd1 hC rfl hr8 (fun v g9 h => h)
theorem q_cVi5 (hK : Cl X own cc nL d K) {ob ci : Nat} {fs : List Value} {a1 a2 a3 a4 a5 : Value} (hd : decode cc pc = .ok (.invokevirtual idx, 3)) (hL : VL own idx y 5 ci) (hd1 : d1 + 1 ≤ d) (ho : ob < 147) (hg : g ob = .inr (ci, fs)) (hr8 : (r.map fun v => v.category).sum ≤ 8) (hC : CallI X d1 y (rf X ob :: [a1, a2, a3, a4, a5]) g (fun v g9 => K g9 (pc + 3) vs (.int v :: r))) : K g pc vs (a5 :: a4 :: a3 :: a2 :: a1 :: rf X ob :: r) := q_callVi hK hd hL rfl hd1 ho hg hC rfl hr8 (fun v g9 h => h)
theorem q_cSl5 (hK : Cl X own cc nL d K) {a1 a2 a3 a4 a5 : Value} (hd : decode cc pc = .ok (.invokestatic idx, 3)) (hL : SL own idx y 5) (hd1 : d1 + 1 ≤ d) (hr8 : (r.map fun v => v.category).sum ≤ 8) (hC : CallL X d1 y [a1, a2, a3, a4, a5] g (fun v g9 => K g9 (pc + 3) vs (.long v :: r))) : K g pc vs (a5 :: a4 :: a3 :: a2 :: a1 :: r) := q_callSl hK hd hL rfl hd1 hC rfl hr8 (fun v g9 h => h)
theorem q_cVl5 (hK : Cl X own cc nL d K) {ob ci : Nat} {fs : List Value} {a1 a2 a3 a4 a5 : Value} (hd : decode cc pc = .ok (.invokevirtual idx, 3)) (hL : VL own idx y 5 ci) (hd1 : d1 + 1 ≤ d) (ho : ob < 147) (hg : g ob = .inr (ci, fs)) (hr8 : (r.map fun v => v.category).sum ≤ 8) (hC : CallL X d1 y (rf X ob :: [a1, a2, a3, a4, a5]) g (fun v g9 => K g9 (pc + 3) vs (.long v :: r))) : K g pc vs (a5 :: a4 :: a3 :: a2 :: a1 :: rf X ob :: r) := q_callVl hK hd hL rfl hd1 ho hg hC rfl hr8 (fun v g9 h => h)
theorem q_cSv5 (hK : Cl X own cc nL d K) {a1 a2 a3 a4 a5 : Value} (hd : decode cc pc = .ok (.invokestatic idx, 3)) (hL : SL own idx y 5) (hd1 : d1 + 1 ≤ d) (hr8 : (r.map fun v => v.category).sum ≤ 8) (hC : CallV X d1 y [a1, a2, a3, a4, a5] g (fun g9 => K g9 (pc + 3) vs r)) : K g pc vs (a5 :: a4 :: a3 :: a2 :: a1 :: r) := q_callSv hK hd hL rfl hd1 hC rfl hr8 (fun g9 h => h)
theorem q_cVv5 (hK : Cl X own cc nL d K) {ob ci : Nat} {fs : List Value} {a1 a2 a3 a4 a5 : Value} (hd : decode cc pc = .ok (.invokevirtual idx, 3)) (hL : VL own idx y 5 ci) (hd1 : d1 + 1 ≤ d) (ho : ob < 147) (hg : g ob = .inr (ci, fs)) (hr8 : (r.map fun v => v.category).sum ≤ 8) (hC : CallV X d1 y (rf X ob :: [a1, a2, a3, a4, a5]) g (fun g9 => K g9 (pc + 3) vs r)) : K g pc vs (a5 :: a4 :: a3 :: a2 :: a1 :: rf X ob :: r) := q_callVv hK hd hL rfl hd1 ho hg hC rfl hr8 (fun g9 h => h)
theorem q_cSi6 (hK : Cl X own cc nL d K) {a1 a2 a3 a4 a5 a6 : Value} (hd : decode cc pc = .ok (.invokestatic idx, 3)) (hL : SL own idx y 6) (hd1 : d1 + 1 ≤ d) (hr8 : (r.map fun v => v.category).sum ≤ 8) (hC : CallI X d1 y [a1, a2, a3, a4, a5, a6] g (fun v g9 => K g9 (pc + 3) vs (.int v :: r))) : K g pc vs (a6 :: a5 :: a4 :: a3 :: a2 :: a1 :: r) := q_callSi hK hd hL rfl hd1 hC rfl hr8 (fun v g9 h => h)
theorem q_cVi6 (hK : Cl X own cc nL d K) {ob ci : Nat} {fs : List Value} {a1 a2 a3 a4 a5 a6 : Value} (hd : decode cc pc = .ok (.invokevirtual idx, 3)) (hL : VL own idx y 6 ci) (hd1 : d1 + 1 ≤ d) (ho : ob < 147) (hg : g ob = .inr (ci, fs)) (hr8 : (r.map fun v => v.category).sum ≤ 8) (hC : CallI X d1 y (rf X ob :: [a1, a2, a3, a4, a5, a6]) g (fun v g9 => K g9 (pc + 3) vs (.int v :: r))) : K g pc vs (a6 :: a5 :: a4 :: a3 :: a2 :: a1 :: rf X ob :: r) := q_callVi hK hd hL rfl hd1 ho hg hC rfl hr8 (fun v g9 h => h)
theorem q_cSl6 (hK : Cl X own cc nL d K) {a1 a2 a3 a4 a5 a6 : Value} (hd : decode cc pc = .ok (.invokestatic idx, 3)) (hL : SL own idx y 6) (hd1 : d1 + 1 ≤ d) (hr8 : (r.map fun v => v.category).sum ≤ 8) (hC : CallL X d1 y [a1, a2, a3, a4, a5, a6] g (fun v g9 => K g9 (pc + 3) vs (.long v :: r))) : K g pc vs (a6 :: a5 :: a4 :: a3 :: a2 :: a1 :: r) := q_callSl hK hd hL rfl hd1 hC rfl hr8 (fun v g9 h => h)
theorem q_cVl6 (hK : Cl X own cc nL d K) {ob ci : Nat} {fs : List Value} {a1 a2 a3 a4 a5 a6 : Value} (hd : decode cc pc = .ok (.invokevirtual idx, 3)) (hL : VL own idx y 6 ci) (hd1 : d1 + 1 ≤ d) (ho : ob < 147) (hg : g ob = .inr (ci, fs)) (hr8 : (r.map fun v => v.category).sum ≤ 8) (hC : CallL X d1 y (rf X ob :: [a1, a2, a3, a4, a5, a6]) g (fun v g9 => K g9 (pc + 3) vs (.long v :: r))) : K g pc vs (a6 :: a5 :: a4 :: a3 :: a2 :: a1 :: rf X ob :: r) := q_callVl hK hd hL rfl hd1 ho hg hC rfl hr8 (fun v g9 h => h)
theorem q_cSv6 (hK : Cl X own cc nL d K) {a1 a2 a3 a4 a5 a6 : Value} (hd : decode cc pc = .ok (.invokestatic idx, 3)) (hL : SL own idx y 6) (hd1 : d1 + 1 ≤ d) (hr8 : (r.map fun v => v.category).sum ≤ 8) (hC : CallV X d1 y [a1, a2, a3, a4, a5, a6] g (fun g9 => K g9 (pc + 3) vs r)) : K g pc vs (a6 :: a5 :: a4 :: a3 :: a2 :: a1 :: r) := q_callSv hK hd hL rfl hd1 hC rfl hr8 (fun g9 h => h)
theorem q_cVv6 (hK : Cl X own cc nL d K) {ob ci : Nat} {fs : List Value} {a1 a2 a3 a4 a5 a6 : Value} (hd : decode cc pc = .ok (.invokevirtual idx, 3)) (hL : VL own idx y 6 ci) (hd1 : d1 + 1 ≤ d) (ho : ob < 147) (hg : g ob = .inr (ci, fs)) (hr8 : (r.map fun v => v.category).sum ≤ 8) (hC : CallV X d1 y (rf X ob :: [a1, a2, a3, a4, a5, a6]) g (fun g9 => K g9 (pc + 3) vs r)) : K g pc vs (a6 :: a5 :: a4 :: a3 :: a2 :: a1 :: rf X ob :: r) := q_callVv hK hd hL rfl hd1 ho hg hC rfl hr8 (fun g9 h => h)
theorem q_cSi7 (hK : Cl X own cc nL d K) {a1 a2 a3 a4 a5 a6 a7 : Value} (hd : decode cc pc = .ok (.invokestatic idx, 3)) (hL : SL own idx y 7) (hd1 : d1 + 1 ≤ d) (hr8 : (r.map fun v => v.category).sum ≤ 8) (hC : CallI X d1 y [a1, a2, a3, a4, a5, a6, a7] g (fun v g9 => K g9 (pc + 3) vs (.int v :: r))) : K g pc vs (a7 :: a6 :: a5 :: a4 :: a3 :: a2 :: a1 :: r) := q_callSi hK hd hL rfl hd1 hC rfl hr8 (fun v g9 h => h)
theorem q_cVi7 (hK : Cl X own cc nL d K) {ob ci : Nat} {fs : List Value} {a1 a2 a3 a4 a5 a6 a7 : Value} (hd : decode cc pc = .ok (.invokevirtual idx, 3)) (hL : VL own idx y 7 ci) (hd1 : d1 + 1 ≤ d) (ho : ob < 147) (hg : g ob = .inr (ci, fs)) (hr8 : (r.map fun v => v.category).sum ≤ 8) (hC : CallI X d1 y (rf X ob :: [a1, a2, a3, a4, a5, a6, a7]) g (fun v g9 => K g9 (pc + 3) vs (.int v :: r))) : K g pc vs (a7 :: a6 :: a5 :: a4 :: a3 :: a2 :: a1 :: rf X ob :: r) := q_callVi hK hd hL rfl hd1 ho hg hC rfl hr8 (fun v g9 h => h)
theorem q_cSl7 (hK : Cl X own cc nL d K) {a1 a2 a3 a4 a5 a6 a7 : Value} (hd : decode cc pc = .ok (.invokestatic idx, 3)) (hL : SL own idx y 7) (hd1 : d1 + 1 ≤ d) (hr8 : (r.map fun v => v.category).sum ≤ 8) (hC : CallL X d1 y [a1, a2, a3, a4, a5, a6, a7] g (fun v g9 => K g9 (pc + 3) vs (.long v :: r))) : K g pc vs (a7 :: a6 :: a5 :: a4 :: a3 :: a2 :: a1 :: r) := q_callSl hK hd hL rfl hd1 hC rfl hr8 (fun v g9 h => h)
theorem q_cVl7 (hK : Cl X own cc nL d K) {ob ci : Nat} {fs : List Value} {a1 a2 a3 a4 a5 a6 a7 : Value} (hd : decode cc pc = .ok (.invokevirtual idx, 3)) (hL : VL own idx y 7 ci) (hd1 : d1 + 1 ≤ d) (ho : ob < 147) (hg : g ob = .inr (ci, fs)) (hr8 : (r.map fun v => v.category).sum ≤ 8) (hC : CallL X d1 y (rf X ob :: [a1, a2, a3, a4, a5, a6, a7]) g (fun v g9 => K g9 (pc + 3) vs (.long v :: r))) : K g pc vs (a7 :: a6 :: a5 :: a4 :: a3 :: a2 :: a1 :: rf X ob :: r) := q_callVl hK hd hL rfl hd1 ho hg hC rfl hr8 (fun v g9 h => h)
theorem q_cSv7 (hK : Cl X own cc nL d K) {a1 a2 a3 a4 a5 a6 a7 : Value} (hd : decode cc pc = .ok (.invokestatic idx, 3)) (hL : SL own idx y 7) (hd1 : d1 + 1 ≤ d) (hr8 : (r.map fun v => v.category).sum ≤ 8) (hC : CallV X d1 y [a1, a2, a3, a4, a5, a6, a7] g (fun g9 => K g9 (pc + 3) vs r)) : K g pc vs (a7 :: a6 :: a5 :: a4 :: a3 :: a2 :: a1 :: r) := q_callSv hK hd hL rfl hd1 hC rfl hr8 (fun g9 h => h)
theorem q_cVv7 (hK : Cl X own cc nL d K) {ob ci : Nat} {fs : List Value} {a1 a2 a3 a4 a5 a6 a7 : Value} (hd : decode cc pc = .ok (.invokevirtual idx, 3)) (hL : VL own idx y 7 ci) (hd1 : d1 + 1 ≤ d) (ho : ob < 147) (hg : g ob = .inr (ci, fs)) (hr8 : (r.map fun v => v.category).sum ≤ 8) (hC : CallV X d1 y (rf X ob :: [a1, a2, a3, a4, a5, a6, a7]) g (fun g9 => K g9 (pc + 3) vs r)) : K g pc vs (a7 :: a6 :: a5 :: a4 :: a3 :: a2 :: a1 :: rf X ob :: r) := q_callVv hK hd hL rfl hd1 ho hg hC rfl hr8 (fun g9 h => h)
end QC
theorem q_inc1 {X : Cx} {own : String} {cc : ByteArray} {nL d : Nat} {K : KT} (hK : Cl X own cc nL d K) {g : Mem} {pc : Nat} {vs : Lv} {st : List Value} {i k : Nat} (hd : decode cc pc = .ok (.iinc i 1, 3)) (hx : lget vs i = some (.int (nI k))) (hn : i < nL) (h : K g (pc + 3) (lset vs i (.int (nI (k + 1)))) st) : K g pc vs st := q_iinc hK hd hx (nI_1 k) hn h
def b2i (b : Bool) : Int32 := if b then 1 else 0
theorem nar_b (b : Bool) : narrow .boolean (.int (b2i b)) = .int (b2i b) := by cases b <;> rfl
theorem vnar_b (b : Bool) : vp_nar .boolean (b2i b) = b2i b := by cases b <;> rfl
theorem b2i_eq0 (b : Bool) : b2i b = 0 ↔ b = false := by cases b <;> decide
theorem b2i_ne0 (b : Bool) : ¬ b2i b = 0 ↔ b = true := by cases b <;> decide
-- whole numbers as ints
abbrev jI (x : Int) : Int32 := Int32.ofInt x
theorem jI_add (a b : Int) : jI a + jI b = jI (a + b) := (Int32.ofInt_add a b).symm
theorem jI_mul (a b : Int) : jI a * jI b = jI (a * b) := (Int32.ofInt_mul a b).symm
theorem jI_neg (a : Int) : -jI a = jI (-a) := (Int32.ofInt_neg a).symm
theorem jI_sub (a b : Int) : jI a - jI b = jI (a - b) := (Int32.ofInt_sub a b).symm
theorem jI_nat (n : Nat) : nI n = jI (n : Int) := by unfold nI jI; exact (Int32.ofInt_eq_ofNat).symm
theorem jI_toInt {a : Int} (h1 : -2147483648 ≤ a) (h2 : a < 2147483648) : (jI a).toInt = a := Int32.toInt_ofInt_of_le h1 h2
theorem jI_lt {a b : Int} (h1 : -2147483648 ≤ a) (h2 : a < 2147483648) (h3 : -2147483648 ≤ b) (h4 : b < 2147483648) : jI a < jI b ↔ a < b := by rw [Int32.lt_iff_toInt_lt, jI_toInt h1 h2, jI_toInt h3 h4]
theorem jI_le {a b : Int} (h1 : -2147483648 ≤ a) (h2 : a < 2147483648) (h3 : -2147483648 ≤ b) (h4 : b < 2147483648) : jI a ≤ jI b ↔ a ≤ b := by rw [Int32.le_iff_toInt_le, jI_toInt h1 h2, jI_toInt h3 h4]
theorem jI_eq {a b : Int} (h1 : -2147483648 ≤ a) (h2 : a < 2147483648) (h3 : -2147483648 ≤ b) (h4 : b < 2147483648) : jI a = jI b ↔ a = b := by
  constructor
  · intro h
    have := congrArg Int32.toInt h
    rwa [jI_toInt h1 h2, jI_toInt h3 h4] at this
  · intro h
    rw [h]
theorem jI_of (x : Int32) : x = jI x.toInt := (Int32.ofInt_toInt x).symm
