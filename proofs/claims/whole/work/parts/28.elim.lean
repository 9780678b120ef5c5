-- ===== tables, brought into steps
abbrev Tb : Type := Nat → Nat → Int64
def swp {α : Type} (T : Nat → Nat → α) (a b : Nat) : Nat → Nat → α := fun i => if i = a then T b else if i = b then T a else T i
def fpv (T : Tb) (c : Nat) : Nat → Nat → Nat
  | 0, p => p
  | f + 1, p => if T p c = 0 then fpv T c f (p + 1) else p
def stp (T : Tb) (d c : Nat) (l : Int64) (m : Nat) : Tb := fun r k => if d < r ∧ r < m then (T r k * T d c - T d k * T r c) / l else T r k
def el (m : Nat) : Nat → Nat → Nat → Int64 → Tb → Nat × Int64 × Tb
  | 0, _, d, l, T => (d, l, T)
  | f + 1, c, d, l, T => if d < m then (if fpv T c (m - d) d = m then el m f (c + 1) d l T else el m f (c + 1) (d + 1) (T (fpv T c (m - d) d) c) (stp (swp T (fpv T c (m - d) d) d) d c l m)) else (d, l, T)
theorem fpv_spec (T : Tb) (c : Nat) : ∀ (f p : Nat), p ≤ fpv T c f p ∧ fpv T c f p ≤ p + f ∧ (fpv T c f p < p + f → T (fpv T c f p) c ≠ 0) ∧ ∀ j, p ≤ j → j < fpv T c f p → T j c = 0
  | 0, p => ⟨Nat.le_refl _, Nat.le_refl _, fun h => absurd h (Nat.lt_irrefl _), fun j h1 h2 => by simp only [fpv] at h2; omega⟩
  | f + 1, p => by
    unfold fpv
    split
    · rename_i hz
      obtain ⟨h1, h2, h3, h4⟩ := fpv_spec T c f (p + 1)
      refine ⟨by omega, by omega, fun h => h3 (by omega), fun j a b => ?_⟩
      by_cases e : j = p
      · rw [e]; exact hz
      · exact h4 j (by omega) b
    · rename_i hz
      exact ⟨Nat.le_refl _, by omega, fun _ => hz, fun j a b => by omega⟩
theorem fpv_congr {T T' : Tb} {c : Nat} : ∀ {f p : Nat}, (∀ j, p ≤ j → j < p + f → T j c = T' j c) → fpv T c f p = fpv T' c f p
  | 0, p, _ => rfl
  | f + 1, p, h => by
    unfold fpv
    rw [h p (Nat.le_refl _) (by omega), fpv_congr (f := f) (p := p + 1) (fun j a b => h j (by omega) (by omega))]
theorem el_le (m : Nat) : ∀ (f c d : Nat) (l : Int64) (T : Tb), d ≤ m → (el m f c d l T).1 ≤ d + f ∧ (el m f c d l T).1 ≤ m ∧ d ≤ (el m f c d l T).1
  | 0, c, d, l, T, h => ⟨Nat.le_refl _, h, Nat.le_refl _⟩
  | f + 1, c, d, l, T, h => by
    unfold el
    split
    · split
      · have := el_le m f (c + 1) d l T h
        omega
      · have := el_le m f (c + 1) (d + 1) (T (fpv T c (m - d) d) c) (stp (swp T (fpv T c (m - d) d) d) d c l m) (by omega)
        omega
    · exact ⟨Nat.le_add_right _ _, h, Nat.le_refl _⟩
theorem fpv_none {T : Tb} {c f p : Nat} (h : ∀ j, p ≤ j → j < p + f → T j c = 0) : fpv T c f p = p + f := by
  obtain ⟨h1, h2, h3, h4⟩ := fpv_spec T c f p
  rcases Nat.lt_or_ge (fpv T c f p) (p + f) with q | q
  · exact absurd (h _ h1 q) (h3 q)
  · omega
theorem el_zero (m : Nat) : ∀ (f c d : Nat) (l : Int64) (T : Tb), (∀ r, d ≤ r → r < m → ∀ k, c ≤ k → T r k = 0) → el m f c d l T = (d, l, T)
  | 0, c, d, l, T, h => rfl
  | f + 1, c, d, l, T, h => by
    unfold el
    split
    · rename_i hd
      rw [if_pos (by rw [fpv_none (fun j a b => h j a (by omega) c (Nat.le_refl _))]; omega)]
      exact el_zero m f (c + 1) d l T (fun r a b k hk => h r a b k (by omega))
    · rfl
theorem i64z (l : Int64) : (0 : Int64) / l = 0 := Int64.zero_div
/-- columns that hold 0 alone change nothing -/
theorem el_cut (m n e : Nat) : ∀ (f c d : Nat) (l : Int64) (T : Tb), c + f = n → (∀ r, d ≤ r → r < m → ∀ k, n ≤ k → T r k = 0) → el m (f + e) c d l T = el m f c d l T
  | 0, c, d, l, T, hc, h => by
    rw [Nat.zero_add]
    exact el_zero m e c d l T (fun r a b k hk => h r a b k (by omega))
  | f + 1, c, d, l, T, hc, h => by
    rw [show f + 1 + e = (f + e) + 1 by omega]
    unfold el
    split
    · rename_i hd
      split
      · exact el_cut m n e f (c + 1) d l T (by omega) h
      · rename_i hp
        obtain ⟨q1, q2, -, -⟩ := fpv_spec T c (m - d) d
        have hpm : fpv T c (m - d) d < m := by omega
        refine el_cut m n e f (c + 1) (d + 1) _ _ (by omega) (fun r a b k hk => ?_)
        have hs : ∀ r, d ≤ r → r < m → swp T (fpv T c (m - d) d) d r k = 0 := by
          intro r a b
          unfold swp
          split
          · exact h d (Nat.le_refl _) hd k hk
          · split
            · exact h _ q1 hpm k hk
            · exact h r a b k hk
        unfold stp
        rw [if_pos ⟨by omega, b⟩, hs r (by omega) b, hs d (Nat.le_refl _) hd, Int64.zero_mul, Int64.zero_mul, Int64.sub_self, i64z]
    · rfl
/-- with as many pivots as lines: the last stands in the corner -/
theorem el_last (m : Nat) : ∀ (f c : Nat) (l : Int64) (T : Tb), c + f = m → (1 ≤ c → T (c - 1) (c - 1) = l) → 1 ≤ m → (el m f c c l T).1 = m → (el m f c c l T).2.2 (m - 1) (m - 1) = (el m f c c l T).2.1
  | 0, c, l, T, hc, hl, hm, he => by
    have : c = m := by omega
    subst this
    exact hl hm
  | f + 1, c, l, T, hc, hl, hm, he => by
    unfold el at he ⊢
    rw [if_pos (by omega : c < m)] at he ⊢
    split at he
    · have := (el_le m f (c + 1) c l T (by omega)).1
      omega
    · rename_i hp
      rw [if_neg hp]
      refine el_last m f (c + 1) _ _ (by omega) (fun _ => ?_) hm he
      rw [Nat.add_sub_cancel]
      unfold stp
      rw [if_neg (by omega)]
      unfold swp
      split
      · rename_i e
        rw [← e]
      · rw [if_pos rfl]
theorem el_lne (m : Nat) : ∀ (f c d : Nat) (l : Int64) (T : Tb), l ≠ 0 → (el m f c d l T).2.1 ≠ 0
  | 0, c, d, l, T, h => h
  | f + 1, c, d, l, T, h => by
    unfold el
    split
    · rename_i hd
      split
      · exact el_lne m f (c + 1) d l T h
      · rename_i hp
        obtain ⟨q1, q2, q3, -⟩ := fpv_spec T c (m - d) d
        exact el_lne m f (c + 1) (d + 1) _ _ (q3 (by omega))
    · exact h
-- minors, exactly
abbrev Ai : Type := Nat → Nat → Int
def D1 (A : Ai) (r k : Nat) : Int := A r k * A 0 0 - A 0 k * A r 0
def m3 (A : Ai) (a b c : Nat) : Int := A 2 c * (A 0 a * A 1 b - A 0 b * A 1 a) - A 2 b * (A 0 a * A 1 c - A 0 c * A 1 a) + A 2 a * (A 0 b * A 1 c - A 0 c * A 1 b)
def D2 (A : Ai) (r k : Nat) : Int := A r k * (A 0 0 * A 1 1 - A 0 1 * A 1 0) - A r 1 * (A 0 0 * A 1 k - A 0 k * A 1 0) + A r 0 * (A 0 1 * A 1 k - A 0 k * A 1 1)
def D3 (A : Ai) (r k : Nat) : Int := A r k * m3 A 0 1 2 - A r 2 * m3 A 0 1 k + A r 1 * m3 A 0 2 k - A r 0 * m3 A 1 2 k
def DJ (j : Nat) (A : Ai) (r k : Nat) : Int := match j with
  | 0 => A r k
  | 1 => D1 A r k
  | 2 => D2 A r k
  | _ => D3 A r k
def LJ (j : Nat) (A : Ai) : Int := match j with
  | 0 => 1
  | 1 => A 0 0
  | 2 => D1 A 1 1
  | _ => D2 A 2 2
def BJ (j : Nat) : Nat := match j with
  | 0 => 24
  | 1 => 1152
  | 2 => 82944
  | _ => 7962624
theorem DJ_id (A : Ai) {j : Nat} (hj : j < 3) (r k : Nat) : DJ j A r k * DJ j A j j - DJ j A j k * DJ j A r j = LJ j A * DJ (j + 1) A r k := by
  have h3 : j = 0 ∨ j = 1 ∨ j = 2 := by omega
  rcases h3 with rfl | rfl | rfl
  · show A r k * A 0 0 - A 0 k * A r 0 = 1 * D1 A r k
    unfold D1
    omega
  · show D1 A r k * D1 A 1 1 - D1 A 1 k * D1 A r 1 = A 0 0 * D2 A r k
    unfold D1 D2
    grind
  · show D2 A r k * D2 A 2 2 - D2 A 2 k * D2 A r 2 = D1 A 1 1 * D3 A r k
    unfold D1 D2 D3 m3
    grind
theorem DJ_L (A : Ai) {j : Nat} (hj : j < 3) : LJ (j + 1) A = DJ j A j j := by
  have h3 : j = 0 ∨ j = 1 ∨ j = 2 := by omega
  rcases h3 with rfl | rfl | rfl <;> rfl
def bdA (A : Ai) : Prop := ∀ r k, -24 ≤ A r k ∧ A r k ≤ 24
theorem two_bd {A : Ai} (h : bdA A) (a b c d e f g i : Nat) : -((1152 : Nat) : Int) ≤ A a b * A c d - A e f * A g i ∧ A a b * A c d - A e f * A g i ≤ ((1152 : Nat) : Int) := by
  have h1 := mul_bd (s := 24) (t := 24) (h a b).1 (h a b).2 (h c d).1 (h c d).2
  have h2 := mul_bd (s := 24) (t := 24) (h e f).1 (h e f).2 (h g i).1 (h g i).2
  omega
theorem three_bd {A : Ai} (h : bdA A) {x y z : Int} (a b c d e f : Nat) (hx : -((1152 : Nat) : Int) ≤ x ∧ x ≤ ((1152 : Nat) : Int)) (hy : -((1152 : Nat) : Int) ≤ y ∧ y ≤ ((1152 : Nat) : Int)) (hz : -((1152 : Nat) : Int) ≤ z ∧ z ≤ ((1152 : Nat) : Int)) : -((82944 : Nat) : Int) ≤ A a b * x - A c d * y + A e f * z ∧ A a b * x - A c d * y + A e f * z ≤ ((82944 : Nat) : Int) := by
  have h1 := mul_bd (s := 24) (t := 1152) (h a b).1 (h a b).2 hx.1 hx.2
  have h2 := mul_bd (s := 24) (t := 1152) (h c d).1 (h c d).2 hy.1 hy.2
  have h3 := mul_bd (s := 24) (t := 1152) (h e f).1 (h e f).2 hz.1 hz.2
  omega
theorem m3_bd {A : Ai} (h : bdA A) (a b c : Nat) : -((82944 : Nat) : Int) ≤ m3 A a b c ∧ m3 A a b c ≤ ((82944 : Nat) : Int) := three_bd h _ _ _ _ _ _ (two_bd h ..) (two_bd h ..) (two_bd h ..)
theorem DJ_bd {A : Ai} (h : bdA A) (j r k : Nat) : -(BJ j : Int) ≤ DJ j A r k ∧ DJ j A r k ≤ (BJ j : Int) := by
  unfold BJ DJ
  split
  · exact h r k
  · exact two_bd h ..
  · exact three_bd h _ _ _ _ _ _ (two_bd h ..) (two_bd h ..) (two_bd h ..)
  · have h1 := mul_bd (s := 24) (t := 82944) (h r k).1 (h r k).2 (m3_bd h 0 1 2).1 (m3_bd h 0 1 2).2
    have h2 := mul_bd (s := 24) (t := 82944) (h r 2).1 (h r 2).2 (m3_bd h 0 1 k).1 (m3_bd h 0 1 k).2
    have h3 := mul_bd (s := 24) (t := 82944) (h r 1).1 (h r 1).2 (m3_bd h 0 2 k).1 (m3_bd h 0 2 k).2
    have h4 := mul_bd (s := 24) (t := 82944) (h r 0).1 (h r 0).2 (m3_bd h 1 2 k).1 (m3_bd h 1 2 k).2
    unfold D3
    omega
theorem DJ_congr {A B : Ai} {j r r' : Nat} (h1 : ∀ i, i < j → A i = B i) (h2 : A r = B r') (hj : j ≤ 3) (k : Nat) : DJ j A r k = DJ j B r' k := by
  have h4 : j = 0 ∨ j = 1 ∨ j = 2 ∨ j = 3 := by omega
  rcases h4 with rfl | rfl | rfl | rfl
  · show A r k = B r' k
    rw [h2]
  · show D1 A r k = D1 B r' k
    unfold D1
    rw [h2, h1 0 (by decide)]
  · show D2 A r k = D2 B r' k
    unfold D2
    rw [h2, h1 0 (by decide), h1 1 (by decide)]
  · show D3 A r k = D3 B r' k
    unfold D3 m3
    rw [h2, h1 0 (by decide), h1 1 (by decide), h1 2 (by decide)]
theorem LJ_congr {A B : Ai} {j : Nat} (h1 : ∀ i, i < j → A i = B i) (hj : j ≤ 3) : LJ j A = LJ j B := by
  cases j with
  | zero => rfl
  | succ j =>
    rw [DJ_L A (by omega), DJ_L B (by omega)]
    exact DJ_congr (fun i hi => h1 i (by omega)) (h1 j (by omega)) (by omega) j
theorem bm64 {x : Int} (h1 : -9223372036854775808 ≤ x) (h2 : x < 9223372036854775808) : x.bmod (2 ^ 64) = x := Int.bmod_eq_of_le (by omega) (by omega)
theorem prod2 {a b c d : Int64} {B : Nat} (hB : B ≤ 7962624) (ha : -(B : Int) ≤ a.toInt ∧ a.toInt ≤ B) (hb : -(B : Int) ≤ b.toInt ∧ b.toInt ≤ B) (hc : -(B : Int) ≤ c.toInt ∧ c.toInt ≤ B) (hd : -(B : Int) ≤ d.toInt ∧ d.toInt ≤ B) : (a * b - c * d).toInt = a.toInt * b.toInt - c.toInt * d.toInt ∧ -126806761930752 ≤ a.toInt * b.toInt - c.toInt * d.toInt ∧ a.toInt * b.toInt - c.toInt * d.toInt ≤ 126806761930752 := by
  have hBB : B * B ≤ 7962624 * 7962624 := Nat.mul_le_mul hB hB
  have h1 := mul_bd (s := B) (t := B) ha.1 ha.2 hb.1 hb.2
  have h2 := mul_bd (s := B) (t := B) hc.1 hc.2 hd.1 hd.2
  generalize B * B = W at *
  rw [Int64.toInt_sub, Int64.toInt_mul, Int64.toInt_mul, bm64 (x := a.toInt * b.toInt) (by omega) (by omega), bm64 (x := c.toInt * d.toInt) (by omega) (by omega)]
  exact ⟨bm64 (by omega) (by omega), by omega, by omega⟩
def InvJ (j m : Nat) (A : Ai) (T : Tb) (l : Int64) : Prop := l.toInt = LJ j A ∧ ∀ r k, j ≤ r → r < m → k < m → (T r k).toInt = DJ j A r k
theorem InvJ_swp {j m p : Nat} {A : Ai} {T : Tb} {l : Int64} (h : InvJ j m A T l) (hj : j ≤ 3) (hp : j ≤ p) (hp2 : p < m) : InvJ j m (swp A p j) (swp T p j) l := by
  have hr : ∀ i, i < j → A i = swp A p j i := fun i hi => by simp [swp, show i ≠ p by omega, show i ≠ j by omega]
  refine ⟨by rw [h.1]; exact LJ_congr hr hj, fun r k h1 h2 h3 => ?_⟩
  unfold swp
  split
  · rename_i e
    rw [h.2 j k (Nat.le_refl _) (by omega) h3]
    exact DJ_congr hr (by simp [swp, e]) hj k
  · split
    · rename_i e1 e
      rw [h.2 p k hp hp2 h3]
      refine DJ_congr hr ?_ hj k
      simp [swp, e]
      intro z
      exact absurd (e.trans z) e1
    · rename_i e1 e2
      rw [h.2 r k h1 h2 h3]
      exact DJ_congr hr (by simp [swp, e1, e2]) hj k
theorem bdA_swp {A : Ai} (h : bdA A) (a b : Nat) : bdA (swp A a b) := by
  intro r k
  unfold swp
  split
  · exact h b k
  · split
    · exact h a k
    · exact h r k
theorem BJ_le (j : Nat) : BJ j ≤ 7962624 := by
  unfold BJ
  split <;> decide
theorem InvJ_stp {j m : Nat} {A : Ai} {T : Tb} {l : Int64} (hA : bdA A) (h : InvJ j m A T l) (hj : j < 3) (hm : j < m) (hl : l ≠ 0) : InvJ (j + 1) m A (stp T j j l m) (T j j) := by
  refine ⟨by rw [DJ_L A hj]; exact h.2 j j (Nat.le_refl _) hm hm, fun r k h1 h2 h3 => ?_⟩
  unfold stp
  rw [if_pos ⟨by omega, h2⟩]
  have e1 := h.2 r k (by omega) h2 h3
  have e2 := h.2 j j (Nat.le_refl _) hm hm
  have e3 := h.2 j k (Nat.le_refl _) hm h3
  have e4 := h.2 r j (by omega) h2 hm
  have hp := prod2 (a := T r k) (b := T j j) (c := T j k) (d := T r j) (BJ_le j) (by rw [e1]; exact DJ_bd hA j r k) (by rw [e2]; exact DJ_bd hA j j j) (by rw [e3]; exact DJ_bd hA j j k) (by rw [e4]; exact DJ_bd hA j r j)
  have hl0 : l.toInt ≠ 0 := fun z => hl (Int64.toInt_inj.mp z)
  have hb := DJ_bd hA (j + 1) r k
  have hB := BJ_le (j + 1)
  rw [Int64.toInt_div, hp.1, e1, e2, e3, e4, DJ_id A hj r k, ← h.1, Int.mul_tdiv_cancel_left _ hl0]
  exact bm64 (by omega) (by omega)
theorem tdiv_bd {x y : Int} {B : Nat} (h1 : -(B : Int) ≤ x) (h2 : x ≤ B) : -(B : Int) ≤ x.tdiv y ∧ x.tdiv y ≤ B := by
  have h3 : (x.tdiv y).natAbs ≤ x.natAbs := by rw [Int.natAbs_tdiv]; exact Nat.div_le_self _ _
  omega
theorem el_bd5 {m : Nat} {T : Tb} {l : Int64} (c f : Nat) (hm : m ≤ c) (h : -126806761930752 ≤ l.toInt ∧ l.toInt ≤ 126806761930752) : -126806761930752 ≤ (el m f c c l T).2.1.toInt ∧ (el m f c c l T).2.1.toInt ≤ 126806761930752 := by
  cases f with
  | zero => exact h
  | succ f =>
    unfold el
    rw [if_neg (by omega)]
    exact h
theorem el_bd4 {m f : Nat} {T : Tb} {l : Int64} (hf : 4 + f = m) (hm : m ≤ 5) (hT : ∀ r k, 4 ≤ r → r < m → k < m → -126806761930752 ≤ (T r k).toInt ∧ (T r k).toInt ≤ 126806761930752) (h : -126806761930752 ≤ l.toInt ∧ l.toInt ≤ 126806761930752) : -126806761930752 ≤ (el m f 4 4 l T).2.1.toInt ∧ (el m f 4 4 l T).2.1.toInt ≤ 126806761930752 := by
  cases f with
  | zero => exact h
  | succ f =>
    have : f = 0 := by omega
    subst this
    unfold el
    rw [if_pos (by omega)]
    obtain ⟨q1, q2, -, -⟩ := fpv_spec T 4 (m - 4) 4
    split
    · exact h
    · exact hT _ 4 q1 (by omega) (by omega)
theorem el_bd {m : Nat} (hm : m ≤ 5) : ∀ (g j f : Nat) (A : Ai) (T : Tb) (l : Int64), j + g = 3 → j + f = m → bdA A → InvJ j m A T l → l ≠ 0 → (el m f j j l T).1 = m → -126806761930752 ≤ (el m f j j l T).2.1.toInt ∧ (el m f j j l T).2.1.toInt ≤ 126806761930752
  | g, j, 0, A, T, l, hg, hf, hA, h, hl, he => by
    show -126806761930752 ≤ l.toInt ∧ l.toInt ≤ 126806761930752
    rw [h.1]
    cases j with
    | zero => show (-126806761930752 : Int) ≤ 1 ∧ (1 : Int) ≤ 126806761930752; decide
    | succ j =>
      rw [DJ_L A (by omega)]
      have := DJ_bd hA j j j
      have := BJ_le j
      omega
  | g, j, f + 1, A, T, l, hg, hf, hA, h, hl, he => by
    unfold el at he ⊢
    rw [if_pos (by omega : j < m)] at he ⊢
    split at he
    · have := (el_le m f (j + 1) j l T (by omega)).1
      omega
    · rename_i hp
      rw [if_neg hp]
      obtain ⟨q1, q2, q3, -⟩ := fpv_spec T j (m - j) j
      have hpm : fpv T j (m - j) j < m := by omega
      have hs := InvJ_swp h (by omega) q1 hpm
      have hA' := bdA_swp hA (fpv T j (m - j) j) j
      have hjj : swp T (fpv T j (m - j) j) j j j = T (fpv T j (m - j) j) j := by
        unfold swp
        split
        · rename_i e
          rw [← e]
        · rw [if_pos rfl]
      cases g with
      | succ g =>
        have hst := InvJ_stp hA' hs (by omega) (by omega) hl
        rw [hjj] at hst
        exact el_bd hm g (j + 1) f _ _ _ (by omega) (by omega) hA' hst (q3 (by omega)) he
      | zero =>
        have hj3 : j = 3 := by omega
        subst hj3
        refine el_bd4 (by omega) hm (fun r k h1 h2 h3 => ?_) ?_
        · unfold stp
          rw [if_pos ⟨by omega, h2⟩, Int64.toInt_div]
          have e1 := hs.2 r k (by omega) h2 h3
          have e2 := hs.2 3 3 (Nat.le_refl _) (by omega) (by omega)
          have e3 := hs.2 3 k (Nat.le_refl _) (by omega) h3
          have e4 := hs.2 r 3 (by omega) h2 (by omega)
          have hp := prod2 (a := swp T (fpv T 3 (m - 3) 3) 3 r k) (b := swp T (fpv T 3 (m - 3) 3) 3 3 3) (c := swp T (fpv T 3 (m - 3) 3) 3 3 k) (d := swp T (fpv T 3 (m - 3) 3) 3 r 3) (BJ_le 3) (by rw [e1]; exact DJ_bd hA' 3 r k) (by rw [e2]; exact DJ_bd hA' 3 3 3) (by rw [e3]; exact DJ_bd hA' 3 3 k) (by rw [e4]; exact DJ_bd hA' 3 r 3)
          rw [hp.1]
          have := tdiv_bd (y := l.toInt) (B := 126806761930752) hp.2.1 hp.2.2
          rw [bm64 (by omega) (by omega)]
          exact this
        · rw [← hjj, hs.2 3 3 (Nat.le_refl _) (by omega) (by omega)]
          have := DJ_bd hA' 3 3 3
          have := BJ_le 3
          omega
-- ===== what the commas' table tells
def tbC (R : Nat → Vec) : Tb := fun r k => (jI (R r k)).toInt64
def rkv (n : Nat) (R : Nat → Vec) : Nat := (el n 6 0 0 1 (tbC R)).1
def pcn : Nat → Nat → Nat
  | 0, _ => 0
  | f + 1, v => v % 2 + pcn f (v / 2)
/-- the place of the j-th bit that is set, below n -/
def sel (v : Nat) : Nat → List Nat
  | 0 => []
  | n + 1 => sel v n ++ (if v / 2 ^ n % 2 = 1 then [n] else [])
def tbM (R : Nat → Vec) (rs cs : List Nat) : Tb := fun r k => if r < rs.length ∧ k < cs.length then (jI (R (rs.getD r 0) (cs.getD k 0))).toInt64 else 0
def lab (x : Int64) : Int64 := if x < 0 then -x else x
def mnr (R : Nat → Vec) (a b n : Nat) : Int64 := if (el n n 0 0 1 (tbM R (sel a 5) (sel b 6))).1 = n then lab (el n n 0 0 1 (tbM R (sel a 5) (sel b 6))).2.1 else 0
