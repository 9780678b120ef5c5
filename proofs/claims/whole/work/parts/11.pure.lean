-- big numbers, word by word
def bB : Nat := 1000000000
def bv (w : Nat → Nat) : Nat → Nat
  | 0 => 0
  | n + 1 => bv w n + w n * bB ^ n
theorem bv_congr {w u : Nat → Nat} : ∀ {n : Nat}, (∀ i, i < n → w i = u i) → bv w n = bv u n
  | 0, _ => rfl
  | n + 1, h => by
    unfold bv
    rw [bv_congr (n := n) (fun i hi => h i (by omega)), h n (by omega)]
theorem bv_lt {w : Nat → Nat} : ∀ {n : Nat}, (∀ i, i < n → w i < bB) → bv w n < bB ^ n
  | 0, _ => by simp [bv]
  | n + 1, h => by
    have h1 := bv_lt (n := n) (fun i hi => h i (by omega))
    have h2 := h n (by omega)
    unfold bv
    rw [Nat.pow_succ]
    have h3 : (w n + 1) * bB ^ n ≤ bB * bB ^ n := Nat.mul_le_mul_right _ h2
    rw [Nat.add_mul, Nat.one_mul] at h3
    rw [Nat.mul_comm (bB ^ n) bB]
    omega
theorem bv_ge {w : Nat → Nat} {n : Nat} (h : w n ≠ 0) : bB ^ n ≤ bv w (n + 1) := by
  unfold bv
  have : 1 * bB ^ n ≤ w n * bB ^ n := Nat.mul_le_mul_right _ (by omega)
  omega
/-- the carry before word k, and word k, of w times p -/
def crr (w : Nat → Nat) (p : Nat) : Nat → Nat
  | 0 => 0
  | k + 1 => (w k * p + crr w p k) / bB
def dgt (w : Nat → Nat) (p k : Nat) : Nat := (w k * p + crr w p k) % bB
theorem dgt_lt (w : Nat → Nat) (p k : Nat) : dgt w p k < bB := Nat.mod_lt _ (by decide)
theorem crr_lt {w : Nat → Nat} {p : Nat} (hp : 0 < p) : ∀ {k : Nat}, (∀ i, i < k → w i < bB) → crr w p k < p
  | 0, _ => hp
  | k + 1, h => by
    have h1 := crr_lt (w := w) hp (k := k) (fun i hi => h i (by omega))
    have h2 := h k (by omega)
    unfold crr
    rw [Nat.div_lt_iff_lt_mul (by decide)]
    have : (w k + 1) * p ≤ bB * p := Nat.mul_le_mul_right _ h2
    rw [Nat.add_mul, Nat.one_mul] at this
    rw [Nat.mul_comm p bB]
    omega
theorem dgt_val (w : Nat → Nat) (p : Nat) : ∀ k : Nat, bv (dgt w p) k + crr w p k * bB ^ k = p * bv w k
  | 0 => by simp [bv, crr]
  | k + 1 => by
    have h1 := dgt_val w p k
    have h2 : w k * p + crr w p k = bB * crr w p (k + 1) + dgt w p k := (Nat.div_add_mod _ _).symm
    have h3 : (w k * p + crr w p k) * bB ^ k = (bB * crr w p (k + 1) + dgt w p k) * bB ^ k := by rw [h2]
    rw [Nat.add_mul, Nat.add_mul] at h3
    have h4 : crr w p (k + 1) * bB ^ (k + 1) = bB * crr w p (k + 1) * bB ^ k := by rw [Nat.pow_succ]; simp only [Nat.mul_comm, Nat.mul_left_comm, Nat.mul_assoc]
    have h5 : p * (w k * bB ^ k) = w k * p * bB ^ k := by simp only [Nat.mul_comm, Nat.mul_left_comm, Nat.mul_assoc]
    rw [bv, bv, Nat.mul_add, h4, h5]
    omega
/-- a number of n words, the first of them not 0 -/
def nrm (w : Nat → Nat) (n : Nat) : Prop := 1 ≤ n ∧ (∀ i, i < n → w i < bB) ∧ w (n - 1) ≠ 0
theorem nrm_ge {w : Nat → Nat} {n : Nat} (h : nrm w n) : bB ^ (n - 1) ≤ bv w n := by
  obtain ⟨h1, -, h3⟩ := h
  obtain ⟨m, rfl⟩ : ∃ m, n = m + 1 := ⟨n - 1, by omega⟩
  exact bv_ge (by simpa using h3)
theorem nrm_lt {w : Nat → Nat} {n : Nat} (h : nrm w n) : bv w n < bB ^ n := bv_lt h.2.1
theorem nrm_room {w : Nat → Nat} {n N : Nat} (h : nrm w n) (hv : bv w n < bB ^ N) : n ≤ N := by
  have h1 := nrm_ge h
  have h2 : bB ^ (n - 1) < bB ^ N := Nat.lt_of_le_of_lt h1 hv
  have h3 := (Nat.pow_lt_pow_iff_right (by decide : 1 < bB)).mp h2
  have := h.1
  omega
theorem nrm_len {w u : Nat → Nat} {n m : Nat} (hw : nrm w n) (hu : nrm u m) (h : n < m) : bv w n < bv u m := by
  have h1 := nrm_lt hw
  have h2 := nrm_ge hu
  have h3 : bB ^ n ≤ bB ^ (m - 1) := Nat.pow_le_pow_right (by decide) (by omega)
  omega
theorem bv_top {w u : Nat → Nat} : ∀ {n k : Nat}, k < n → (∀ i, i < n → w i < bB) → (∀ i, k < i → i < n → w i = u i) → w k < u k → bv w n < bv u n
  | 0, k, h, _, _, _ => by omega
  | n + 1, k, h, hw, he, hk => by
    by_cases e : k = n
    · subst e
      have h1 := bv_lt (w := w) (n := k) (fun i hi => hw i (by omega))
      unfold bv
      have : (w k + 1) * bB ^ k ≤ u k * bB ^ k := Nat.mul_le_mul_right _ hk
      rw [Nat.add_mul, Nat.one_mul] at this
      omega
    · have := bv_top (n := n) (k := k) (by omega) (fun i hi => hw i (by omega)) (fun i h1 h2 => he i h1 (by omega)) hk
      unfold bv
      rw [he n (by omega) (by omega)]
      omega
-- products of powers of the six primes
def P6 (x : Nat → Nat) : Nat := 2 ^ x 0 * 3 ^ x 1 * 5 ^ x 2 * 7 ^ x 3 * 11 ^ x 4 * 13 ^ x 5
theorem P6_add (x y : Nat → Nat) : P6 (fun k => x k + y k) = P6 x * P6 y := by
  simp only [P6, Nat.pow_add]
  ac_rfl
theorem P6_pos (x : Nat → Nat) : 0 < P6 x := by
  unfold P6
  have h : ∀ a b : Nat, 0 < a → 0 < a ^ b := fun a b h => Nat.pow_pos h
  exact Nat.mul_pos (Nat.mul_pos (Nat.mul_pos (Nat.mul_pos (Nat.mul_pos (h 2 _ (by decide)) (h 3 _ (by decide))) (h 5 _ (by decide))) (h 7 _ (by decide))) (h 11 _ (by decide))) (h 13 _ (by decide))
theorem P6_congr {x y : Nat → Nat} (h : ∀ k, k < 6 → x k = y k) : P6 x = P6 y := by
  unfold P6
  rw [h 0 (by decide), h 1 (by decide), h 2 (by decide), h 3 (by decide), h 4 (by decide), h 5 (by decide)]
theorem P6_mono {x y : Nat → Nat} (h : ∀ k, k < 6 → x k ≤ y k) : P6 x ≤ P6 y := by
  have e : P6 y = P6 (fun k => x k + (y k - x k)) := P6_congr (fun k hk => by have := h k hk; omega)
  rw [e, P6_add]
  exact Nat.le_mul_of_pos_right _ (P6_pos _)
abbrev Vec : Type := Nat → Int
def upP (e : Vec) : Nat := P6 (fun k => (e k).toNat)
def loP (e : Vec) : Nat := P6 (fun k => (-e k).toNat)
theorem upP_pos (e : Vec) : 0 < upP e := P6_pos _
theorem loP_pos (e : Vec) : 0 < loP e := P6_pos _
theorem upP_neg (e : Vec) : upP (fun k => -e k) = loP e := rfl
theorem loP_neg (e : Vec) : loP (fun k => -e k) = upP e := by
  unfold loP upP
  exact P6_congr (fun k _ => by rw [Int.neg_neg])
theorem upP_congr {a b : Vec} (h : ∀ k, k < 6 → a k = b k) : upP a = upP b := P6_congr (fun k hk => by rw [h k hk])
theorem loP_congr {a b : Vec} (h : ∀ k, k < 6 → a k = b k) : loP a = loP b := P6_congr (fun k hk => by rw [h k hk])
theorem P6_sum (a b : Vec) : upP (fun k => a k + b k) * loP a * loP b = upP a * upP b * loP (fun k => a k + b k) := by
  unfold upP loP
  rw [← P6_add, ← P6_add, ← P6_add, ← P6_add]
  exact P6_congr (fun k _ => by dsimp only; omega)
/-- 1, 0 or -1: greater than ONE, ONE, below it -/
def sgn (e : Vec) : Int := if loP e < upP e then 1 else if upP e < loP e then -1 else 0
theorem sgn_congr {a b : Vec} (h : ∀ k, k < 6 → a k = b k) : sgn a = sgn b := by
  unfold sgn
  rw [upP_congr h, loP_congr h]
theorem sgn_pos {e : Vec} : 0 < sgn e ↔ loP e < upP e := by
  unfold sgn
  split
  · simp [*]
  · split <;> simp [*]
theorem sgn_neg {e : Vec} : sgn e < 0 ↔ upP e < loP e := by
  unfold sgn
  split
  · rename_i h
    simp only [Int.reduceLT, false_iff]
    omega
  · split
    · simp [*]
    · simp only [Int.lt_irrefl, false_iff]
      assumption
theorem sgn_range (e : Vec) : sgn e = 1 ∨ sgn e = 0 ∨ sgn e = -1 := by
  unfold sgn
  split
  · exact Or.inl rfl
  · split
    · exact Or.inr (Or.inr rfl)
    · exact Or.inr (Or.inl rfl)
theorem sgn_opp (e : Vec) : sgn (fun k => -e k) = -sgn e := by
  have h1 := upP_neg e
  have h2 := loP_neg e
  unfold sgn
  rw [h1, h2]
  split <;> split <;> first | rfl | omega
/-- products: what is not below ONE stays so -/
theorem sgn_add {a b : Vec} (ha : 0 ≤ sgn a) (hb : 0 < sgn b) : 0 < sgn (fun k => a k + b k) := by
  have h := P6_sum a b
  have h1 : loP a ≤ upP a := by
    rcases Nat.lt_or_ge (upP a) (loP a) with q | q
    · have := sgn_neg.mpr q
      omega
    · exact q
  have h2 := sgn_pos.mp hb
  rw [sgn_pos]
  rcases Nat.lt_or_ge (loP fun k => a k + b k) (upP fun k => a k + b k) with q | q
  · exact q
  · exfalso
    have p1 : upP (fun k => a k + b k) * loP a * loP b ≤ loP (fun k => a k + b k) * loP a * loP b := Nat.mul_le_mul_right _ (Nat.mul_le_mul_right _ q)
    have p2 : loP (fun k => a k + b k) * loP a * loP b < loP (fun k => a k + b k) * upP a * upP b := by
      have z1 : loP (fun k => a k + b k) * loP a ≤ loP (fun k => a k + b k) * upP a := Nat.mul_le_mul_left _ h1
      have z2 : 0 < loP (fun k => a k + b k) * upP a := Nat.mul_pos (loP_pos _) (upP_pos _)
      exact Nat.lt_of_le_of_lt (Nat.mul_le_mul_right _ z1) (Nat.mul_lt_mul_of_pos_left h2 z2)
    have p3 : upP a * upP b * loP (fun k => a k + b k) = loP (fun k => a k + b k) * upP a * upP b := by ac_rfl
    omega
theorem sgn_zero : sgn (fun _ => 0) = 0 := by decide
-- ONE alone has size 1
theorem cop_pow {p q : Nat} (h : Nat.Coprime p q) (n : Nat) : Nat.Coprime p (q ^ n) := Nat.Coprime.pow_right n h
theorem P6_ne {x y : Nat → Nat} (h : P6 x = P6 y) (hd : ∀ k, k < 6 → x k = 0 ∨ y k = 0) : ∀ k, k < 6 → x k = 0 := by
  have key : ∀ (p a r s : Nat), 1 < p → (p ^ a * r = s) → Nat.Coprime p s → a = 0 := by
    intro p a r s hp he hc
    cases a with
    | zero => rfl
    | succ a =>
      exfalso
      have hdv : p ∣ s := ⟨p ^ a * r, by rw [← he, Nat.pow_succ]; simp only [Nat.mul_comm, Nat.mul_left_comm, Nat.mul_assoc]⟩
      have := Nat.Coprime.eq_one_of_dvd hc hdv
      omega
  intro k hk
  rcases hd k hk with q | q
  · exact q
  have hk6 : k = 0 ∨ k = 1 ∨ k = 2 ∨ k = 3 ∨ k = 4 ∨ k = 5 := by omega
  unfold P6 at h
  rcases hk6 with rfl | rfl | rfl | rfl | rfl | rfl
  · refine key 2 _ (3 ^ x 1 * 5 ^ x 2 * 7 ^ x 3 * 11 ^ x 4 * 13 ^ x 5) _ (by decide) (Eq.trans (by ac_rfl) h) ?_
    rw [q]
    simp only [Nat.pow_zero, Nat.one_mul, Nat.coprime_mul_iff_right]
    exact ⟨⟨⟨⟨cop_pow (by decide) _, cop_pow (by decide) _⟩, cop_pow (by decide) _⟩, cop_pow (by decide) _⟩, cop_pow (by decide) _⟩
  · refine key 3 _ (2 ^ x 0 * 5 ^ x 2 * 7 ^ x 3 * 11 ^ x 4 * 13 ^ x 5) _ (by decide) (Eq.trans (by ac_rfl) h) ?_
    rw [q]
    simp only [Nat.pow_zero, Nat.mul_one, Nat.coprime_mul_iff_right]
    exact ⟨⟨⟨⟨cop_pow (by decide) _, cop_pow (by decide) _⟩, cop_pow (by decide) _⟩, cop_pow (by decide) _⟩, cop_pow (by decide) _⟩
  · refine key 5 _ (2 ^ x 0 * 3 ^ x 1 * 7 ^ x 3 * 11 ^ x 4 * 13 ^ x 5) _ (by decide) (Eq.trans (by ac_rfl) h) ?_
    rw [q]
    simp only [Nat.pow_zero, Nat.mul_one, Nat.coprime_mul_iff_right]
    exact ⟨⟨⟨⟨cop_pow (by decide) _, cop_pow (by decide) _⟩, cop_pow (by decide) _⟩, cop_pow (by decide) _⟩, cop_pow (by decide) _⟩
  · refine key 7 _ (2 ^ x 0 * 3 ^ x 1 * 5 ^ x 2 * 11 ^ x 4 * 13 ^ x 5) _ (by decide) (Eq.trans (by ac_rfl) h) ?_
    rw [q]
    simp only [Nat.pow_zero, Nat.mul_one, Nat.coprime_mul_iff_right]
    exact ⟨⟨⟨⟨cop_pow (by decide) _, cop_pow (by decide) _⟩, cop_pow (by decide) _⟩, cop_pow (by decide) _⟩, cop_pow (by decide) _⟩
  · refine key 11 _ (2 ^ x 0 * 3 ^ x 1 * 5 ^ x 2 * 7 ^ x 3 * 13 ^ x 5) _ (by decide) (Eq.trans (by ac_rfl) h) ?_
    rw [q]
    simp only [Nat.pow_zero, Nat.mul_one, Nat.coprime_mul_iff_right]
    exact ⟨⟨⟨⟨cop_pow (by decide) _, cop_pow (by decide) _⟩, cop_pow (by decide) _⟩, cop_pow (by decide) _⟩, cop_pow (by decide) _⟩
  · refine key 13 _ (2 ^ x 0 * 3 ^ x 1 * 5 ^ x 2 * 7 ^ x 3 * 11 ^ x 4) _ (by decide) (Eq.trans (by ac_rfl) h) ?_
    rw [q]
    simp only [Nat.pow_zero, Nat.mul_one, Nat.coprime_mul_iff_right]
    exact ⟨⟨⟨⟨cop_pow (by decide) _, cop_pow (by decide) _⟩, cop_pow (by decide) _⟩, cop_pow (by decide) _⟩, cop_pow (by decide) _⟩
theorem sgn_one {e : Vec} : sgn e = 0 ↔ ∀ k, k < 6 → e k = 0 := by
  constructor
  · intro h k hk
    have he : upP e = loP e := by
      have h1 := mt sgn_pos.mpr (by omega : ¬ 0 < sgn e)
      have h2 := mt sgn_neg.mpr (by omega : ¬ sgn e < 0)
      omega
    have a1 : (e k).toNat = 0 := P6_ne (x := fun k => (e k).toNat) (y := fun k => (-e k).toNat) he (fun k _ => by show (e k).toNat = 0 ∨ (-e k).toNat = 0; omega) k hk
    have a2 : (-e k).toNat = 0 := P6_ne (x := fun k => (-e k).toNat) (y := fun k => (e k).toNat) he.symm (fun k _ => by show (-e k).toNat = 0 ∨ (e k).toNat = 0; omega) k hk
    omega
  · intro h
    rw [sgn_congr (b := fun _ => 0) h]
    exact sgn_zero
