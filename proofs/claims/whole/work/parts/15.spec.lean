-- ===== the state as the document has it: status, shelves (on, row), commas (how many, rows), notes (how many, rows; the period behind them), OUT (length, bytes)
abbrev Sg : Type := Int32 × (Nat → Bool) × (Nat → Vec) × Nat × (Nat → Vec) × Nat × (Nat → Vec) × Nat × (Nat → Int32)
abbrev gOn (σ : Sg) : Nat → Bool := σ.2.1
abbrev gRow (σ : Sg) : Nat → Vec := σ.2.2.1
abbrev gC (σ : Sg) : Nat := σ.2.2.2.1
abbrev gCr (σ : Sg) : Nat → Vec := σ.2.2.2.2.1
abbrev gN (σ : Sg) : Nat := σ.2.2.2.2.2.1
abbrev gNt (σ : Sg) : Nat → Vec := σ.2.2.2.2.2.2.1
abbrev gOl (σ : Sg) : Nat := σ.2.2.2.2.2.2.2.1
abbrev gOb (σ : Sg) : Nat → Int32 := σ.2.2.2.2.2.2.2.2
abbrev sSt (σ : Sg) (v : Int32) : Sg := (v, σ.2)
/-- far: an exponent beyond t -/
def farV (t : Nat) (e : Vec) : Bool := (List.range 6).any (fun k => decide (e k < -(t : Int)) || decide ((t : Int) < e k))
theorem farV_false {t : Nat} {e : Vec} : farV t e = false ↔ ∀ k, k < 6 → -(t : Int) ≤ e k ∧ e k ≤ t := by
  simp only [farV, List.any_eq_false, List.mem_range, Bool.or_eq_true, decide_eq_true_eq, not_or, Int.not_lt]
theorem farV_congr {t : Nat} {a b : Vec} (h : ∀ k, k < 6 → a k = b k) : farV t a = farV t b := by
  cases hb : farV t b
  · rw [farV_false] at hb ⊢
    intro k hk
    rw [h k hk]
    exact hb k hk
  · cases ha : farV t a
    · rw [farV_false] at ha
      have : farV t b = false := by
        rw [farV_false]
        intro k hk
        rw [← h k hk]
        exact ha k hk
      rw [this] at hb
      cases hb
    · rfl
def hasX (f : Nat → Int32) (e : Vec) : Prop := ∀ k, k < 6 → f k = jI (e k) ∧ -2147483648 ≤ e k ∧ e k < 2147483648
theorem has6.X {f : Nat → Int32} {e : Vec} {b : Nat} (h : has6 f e b) (hb : b < 2147483648) : hasX f e := fun k hk => ⟨(h k hk).1, by have := (h k hk).2.1; omega, by have := (h k hk).2.2; omega⟩
theorem farN_V {t : Nat} {f : Nat → Int32} {e : Vec} (ht : t < 2147483648) (h : hasX f e) : farN t f 6 = farV t e := by
  have key : ∀ n, n ≤ 6 → farN t f n = (List.range n).any (fun k => decide (e k < -(t : Int)) || decide ((t : Int) < e k)) := by
    intro n
    induction n with
    | zero => intro _; rfl
    | succ n ih =>
      intro hn
      obtain ⟨h1, h2, h3⟩ := h n (by omega)
      have a1 : (f n < jI (-(t : Int))) ↔ e n < -(t : Int) := by rw [h1]; exact jI_lt h2 h3 (by omega) (by omega)
      have a2 : (nI t < f n) ↔ (t : Int) < e n := by rw [h1, jI_nat]; exact jI_lt (by omega) (by omega) h2 h3
      rw [farN, ih (by omega), List.range_succ, List.any_append]
      simp only [a1, a2, List.any_cons, List.any_nil, Bool.or_false, Bool.or_assoc]
  exact key 6 (Nat.le_refl 6)
/-- an interval comes to a shelf -/
def sp_put (σ : Sg) (s : Nat) (e : Vec) : Int32 × Sg := if farV 24 e then (0, sSt σ 4) else (1, (0, va_up (gOn σ) s true, va_up (gRow σ) s e, σ.2.2.2))
/-- the scale: ONE first, each note greater than the one ahead, the period behind the last -/
def wfS (n : Nat) (nt : Nat → Vec) : Prop := 0 < n → (∀ k, k < 6 → nt 0 k = 0) ∧ ∀ i, i < n → 0 < sgn (fun k => nt (i + 1) k - nt i k)
/-- the map's number for a prime of a division: the least m with p^2n below 2^(2m+1) -/
def mapv (n k : Nat) : Nat := match k with
  | 0 => n
  | 1 => (2 * n * 1584962500721 + 1000000000000) / 2000000000000
  | 2 => (2 * n * 2321928094887 + 1000000000000) / 2000000000000
  | 3 => (2 * n * 2807354922058 + 1000000000000) / 2000000000000
  | 4 => (2 * n * 3459431618637 + 1000000000000) / 2000000000000
  | _ => (2 * n * 3700439718141 + 1000000000000) / 2000000000000
/-- the reference's cells hold the state -/
def MI (Z : Nat → Int32) (F : Nat → Nat → Int32) (σ : Sg) : Prop :=
  Z 0 = σ.1 ∧ (∀ i, i < 16 → F 2 i = b2i (gOn σ i)) ∧ (∀ i, i < 16 → gOn σ i = true → hasA (F 1) (6 * i) (gRow σ i) 24) ∧
  (Z 14 = nI (gC σ) ∧ gC σ ≤ 5 ∧ ∀ i, i < gC σ → hasA (F 10) (6 * i) (gCr σ i) 24) ∧
  (Z 18 = nI (gN σ) ∧ gN σ ≤ 24 ∧ (0 < gN σ → ∀ i, i ≤ gN σ → hasA (F 12) (6 * i) (gNt σ i) 24) ∧ wfS (gN σ) (gNt σ)) ∧
  (Z 11 = nI (gOl σ) ∧ gOl σ ≤ 256 ∧ ∀ k, k < gOl σ → F 8 k = gOb σ k) ∧
  (∀ n k, 1 ≤ n → n ≤ 99 → k < 6 → F 9 (6 * n + k) = 0 ∨ F 9 (6 * n + k) = nI (mapv n k))
abbrev scZ : List Nat := [5, 6, 22]
abbrev scF : List Nat := [3, 4, 5, 6, 7, 13, 14, 15, 16, 17, 18]
theorem MI.scr {Z Z' : Nat → Int32} {F F' : Nat → Nat → Int32} {σ : Sg} (h : MI Z F σ) (hz : eqo scZ Z Z') (hf : eqo scF F F') : MI Z' F' σ := by
  unfold MI
  rw [hz 0 (by decide), hz 14 (by decide), hz 18 (by decide), hz 11 (by decide), hf 2 (by decide), hf 1 (by decide), hf 10 (by decide), hf 12 (by decide), hf 8 (by decide), hf 9 (by decide)]
  exact h
theorem MI.st {Z : Nat → Int32} {F : Nat → Nat → Int32} {σ : Sg} (h : MI Z F σ) (v : Int32) : MI (va_up Z 0 v) F (sSt σ v) := by
  unfold MI
  rw [up_same, up_ne (by decide), up_ne (by decide), up_ne (by decide)]
  exact ⟨rfl, h.2⟩
theorem MI.put {Z : Nat → Int32} {F : Nat → Nat → Int32} {σ : Sg} {s : Nat} {e : Vec} {f1 : Nat → Int32} (h : MI Z F σ) (hs : s < 16) (hf : farV 24 e = false) (h1 : ∀ k, k < 6 → f1 (6 * s + k) = jI (e k)) (h2 : ∀ k, k < 6 * s ∨ 6 * s + 6 ≤ k → f1 k = F 1 k) : MI (va_up Z 0 0) (va_up (va_up F 1 f1) 2 (upd (F 2) s 1)) (0, va_up (gOn σ) s true, va_up (gRow σ) s e, σ.2.2.2) := by
  obtain ⟨a1, a2, a3, a4, a5, a6, a7⟩ := h
  have hb := farV_false.mp hf
  refine ⟨up_same _ _ _, fun i hi => ?_, fun i hi ho => ?_, ?_, ?_, ?_, ?_⟩
  · rw [up_same]
    by_cases q : i = s
    · subst q
      rw [upd_same]
      simp [gOn, up_same, b2i]
    · rw [upd_ne q, a2 i hi]
      simp [gOn, up_ne q]
  · rw [up_ne (by decide), up_same]
    by_cases q : i = s
    · subst q
      intro k hk
      have := hb k hk
      simp only [gRow, up_same]
      exact ⟨h1 k hk, by omega, by omega⟩
    · have ho' : gOn σ i = true := by simpa [gOn, up_ne q] using ho
      intro k hk
      simp only [gRow, up_ne q]
      rw [h2 _ (by omega)]
      exact a3 i hi ho' k hk
  · rw [up_ne (by decide), up_ne (by decide), up_ne (by decide)]; exact a4
  · rw [up_ne (by decide), up_ne (by decide), up_ne (by decide)]; exact a5
  · rw [up_ne (by decide), up_ne (by decide), up_ne (by decide)]; exact a6
  · rw [up_ne (by decide), up_ne (by decide)]; exact a7
-- what the simple calls answer
def vec6 (a0 a1 a2 a3 a4 a5 : Int32) : Vec := fun k => match k with
  | 0 => a0.toInt
  | 1 => a1.toInt
  | 2 => a2.toInt
  | 3 => a3.toInt
  | 4 => a4.toInt
  | _ => a5.toInt
def sp_set (σ : Sg) (s a0 a1 a2 a3 a4 a5 : Int32) : Int32 × Sg := if isIn s 16 then sp_put σ s.toInt.toNat (vec6 a0 a1 a2 a3 a4 a5) else (0, sSt σ 1)
def onS (σ : Sg) (s : Int32) : Bool := gOn σ s.toInt.toNat
def rowS (σ : Sg) (s : Int32) : Vec := gRow σ s.toInt.toNat
def sp_times (σ : Sg) (a b k t : Int32) : Int32 × Sg :=
  if isIn a 16 && isIn b 16 && isIn t 16 then
    if onS σ a && onS σ b then
      if decide (-24 ≤ k.toInt) && decide (k.toInt ≤ 24) then sp_put σ t.toInt.toNat (fun j => rowS σ a j + k.toInt * rowS σ b j)
      else (0, sSt σ 3)
    else (0, sSt σ 2)
  else (0, sSt σ 1)
def sp_drop (σ : Sg) (s : Int32) : Int32 × Sg := if isIn s 16 then (if onS σ s then (1, (0, va_up (gOn σ) s.toInt.toNat false, σ.2.2)) else (0, sSt σ 2)) else (0, sSt σ 1)
def sp_exponent (σ : Sg) (s k : Int32) : Int32 × Sg := if isIn s 16 then (if onS σ s then (if isIn k 6 then (jI (rowS σ s k.toInt.toNat), sSt σ 0) else (-1, sSt σ 3)) else (-1, sSt σ 2)) else (-1, sSt σ 1)
def sp_order (σ : Sg) (a b : Int32) : Int32 × Sg := if isIn a 16 && isIn b 16 then (if onS σ a && onS σ b then ((if sgn (fun k => rowS σ a k - rowS σ b k) < 0 then -2 else jI (sgn (fun k => rowS σ a k - rowS σ b k))), sSt σ 0) else (-1, sSt σ 2)) else (-1, sSt σ 1)
theorem isIn_nI {k n : Nat} (h : k < n) (hn : n < 2 ^ 31) : isIn (nI k) n = true := (isIn_iff hn).mpr ⟨k, h, rfl⟩
theorem nI_tn {k : Nat} (h : k < 2 ^ 31) : (nI k).toInt.toNat = k := by rw [nI_toInt h]; exact Int.toNat_natCast k
