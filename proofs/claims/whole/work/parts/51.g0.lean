-- ===== the memory after the makings
def mk8 (X : Cx) (g : Mem) : Mem := (va_up (va_up (va_up (va_up (va_up (va_up (va_up (va_up (va_up (va_up (va_up (va_up (va_up (va_up (va_up (va_ups (va_up (va_up (va_up (va_up (va_up (va_ups (va_up (va_up (va_up (va_up (va_up (va_ups (va_up (va_up (va_up (va_up (va_up (va_up (va_up (va_up (va_up (va_up (va_up (va_up (va_up (va_up (va_up (va_ups (va_up (va_up (va_ups (va_up (va_up (va_up (va_up (va_up (va_up (va_up (va_up (va_up (va_up (va_up (va_up (va_up (va_up (va_up (va_up (va_up (va_up (va_up (va_up (va_up (va_up (va_up (va_up (va_up (va_up (va_up (va_ups (va_up (va_up g 19 (.inr (6, [.null, .null, .null, .null, .null, .null, .null, .null, .int 0, .int 0]))) 20 (.inl (X.2.2.2.1 4, 16, .inr (.inr (.inr (.inr (fun k => some (X.2.2.1 (48 + k))))))))) 48 16 (.inl (X.2.2.2.1 0, (6, .inl (fun _ => 0))))) 19 (.inr (6, [rf X 20, .null, .null, .null, .null, .null, .null, .null, .int 0, .int 0]))) 21 (.inl (X.2.2.2.1 3, (16, .inl (fun _ => 0))))) 19 (.inr (6, [rf X 20, rf X 21, .null, .null, .null, .null, .null, .null, .int 0, .int 0]))) 22 (.inl (X.2.2.2.1 0, (6, .inl (fun _ => 0))))) 19 (.inr (6, [rf X 20, rf X 21, rf X 22, .null, .null, .null, .null, .null, .int 0, .int 0]))) 23 (.inl (X.2.2.2.1 2, (256, .inl (fun _ => 0))))) 19 (.inr (6, [rf X 20, rf X 21, rf X 22, rf X 23, .null, .null, .null, .null, .int 0, .int 0]))) 24 (.inr (5, [.null, .null, .null]))) 25 (.inr (2, [.null, .int 0, .long 0]))) 26 (.inl (X.2.2.2.1 0, (104, .inl (fun _ => 0))))) 25 (.inr (2, [rf X 26, .int 0, .long 0]))) 26 (aI X 104 (upd (fun _ => 0) 0 (nI 1)))) 25 (.inr (2, [rf X 26, .int (nI 1), .long 0]))) 25 (.inr (2, [rf X 26, .int (nI 1), .long 1]))) 24 (.inr (5, [rf X 25, .null, .null]))) 27 (.inr (2, [.null, .int 0, .long 0]))) 28 (.inl (X.2.2.2.1 0, (104, .inl (fun _ => 0))))) 27 (.inr (2, [rf X 28, .int 0, .long 0]))) 28 (aI X 104 (upd (fun _ => 0) 0 (nI 1)))) 27 (.inr (2, [rf X 28, .int (nI 1), .long 0]))) 27 (.inr (2, [rf X 28, .int (nI 1), .long 1]))) 24 (.inr (5, [rf X 25, rf X 27, .null]))) 29 (.inl (X.2.2.2.1 0, (6, .inl (fun _ => 0))))) 24 (.inr (5, [rf X 25, rf X 27, rf X 29]))) 19 (.inr (6, [rf X 20, rf X 21, rf X 22, rf X 23, rf X 24, .null, .null, .null, .int 0, .int 0]))) 30 (.inr (0, [.null, .null, .int 0, .long 0]))) 31 (.inl (X.2.2.2.1 4, 5, .inr (.inr (.inr (.inr (fun k => some (X.2.2.1 (64 + k))))))))) 64 5 (.inl (X.2.2.2.1 0, (6, .inl (fun _ => 0))))) 30 (.inr (0, [rf X 31, .null, .int 0, .long 0]))) 32 (.inl (X.2.2.2.1 5, 6, .inr (.inr (.inr (.inr (fun k => some (X.2.2.1 (69 + k))))))))) 69 6 (.inl (X.2.2.2.1 1, (6, .inr (.inl (fun _ => 0)))))) 30 (.inr (0, [rf X 31, rf X 32, .int 0, .long 0]))) 30 (.inr (0, [rf X 31, rf X 32, .int (nI 0), .long 0]))) 30 (.inr (0, [rf X 31, rf X 32, .int (nI 0), .long 1]))) 19 (.inr (6, [rf X 20, rf X 21, rf X 22, rf X 23, rf X 24, rf X 30, .null, .null, .int 0, .int 0]))) 33 (.inr (4, [.null, .null, .null, .null, .null, .null, .null, .null, .null]))) 33 (.inr (4, [rf X 24, .null, .null, .null, .null, .null, .null, .null, .null]))) 34 (.inl (X.2.2.2.1 0, (6, .inl (fun _ => 0))))) 33 (.inr (4, [rf X 24, rf X 34, .null, .null, .null, .null, .null, .null, .null]))) 35 (.inl (X.2.2.2.1 0, (6, .inl (fun _ => 0))))) 33 (.inr (4, [rf X 24, rf X 34, rf X 35, .null, .null, .null, .null, .null, .null]))) 36 (.inl (X.2.2.2.1 0, (6, .inl (fun _ => 0))))) 33 (.inr (4, [rf X 24, rf X 34, rf X 35, rf X 36, .null, .null, .null, .null, .null]))) 37 (.inl (X.2.2.2.1 0, (6, .inl (fun _ => 0))))) 33 (.inr (4, [rf X 24, rf X 34, rf X 35, rf X 36, rf X 37, .null, .null, .null, .null]))) 38 (.inl (X.2.2.2.1 4, 24, .inr (.inr (.inr (.inr (fun k => some (X.2.2.1 (75 + k))))))))) 75 24 (.inl (X.2.2.2.1 0, (6, .inl (fun _ => 0))))) 33 (.inr (4, [rf X 24, rf X 34, rf X 35, rf X 36, rf X 37, rf X 38, .null, .null, .null]))) 39 (.inl (X.2.2.2.1 0, (24, .inl (fun _ => 0))))) 33 (.inr (4, [rf X 24, rf X 34, rf X 35, rf X 36, rf X 37, rf X 38, rf X 39, .null, .null]))) 40 (.inr (3, [.null, .int 0]))) 41 (.inl (X.2.2.2.1 4, 24, .inr (.inr (.inr (.inr (fun k => some (X.2.2.1 (99 + k))))))))) 99 24 (.inl (X.2.2.2.1 0, (6, .inl (fun _ => 0))))) 40 (.inr (3, [rf X 41, .int 0]))) 40 (.inr (3, [rf X 41, .int (nI 0)]))) 33 (.inr (4, [rf X 24, rf X 34, rf X 35, rf X 36, rf X 37, rf X 38, rf X 39, rf X 40, .null]))) 42 (.inr (3, [.null, .int 0]))) 43 (.inl (X.2.2.2.1 4, 24, .inr (.inr (.inr (.inr (fun k => some (X.2.2.1 (123 + k))))))))) 123 24 (.inl (X.2.2.2.1 0, (6, .inl (fun _ => 0))))) 42 (.inr (3, [rf X 43, .int 0]))) 42 (.inr (3, [rf X 43, .int (nI 0)]))) 33 (.inr (4, [rf X 24, rf X 34, rf X 35, rf X 36, rf X 37, rf X 38, rf X 39, rf X 40, rf X 42]))) 19 (.inr (6, [rf X 20, rf X 21, rf X 22, rf X 23, rf X 24, rf X 30, rf X 33, .null, .int 0, .int 0]))) 44 (.inr (1, [.null, .null, .null, .null]))) 44 (.inr (1, [rf X 24, .null, .null, .null]))) 45 (.inl (X.2.2.2.1 0, (6, .inl (fun _ => 0))))) 44 (.inr (1, [rf X 24, rf X 45, .null, .null]))) 46 (.inl (X.2.2.2.1 0, (6, .inl (fun _ => 0))))) 44 (.inr (1, [rf X 24, rf X 45, rf X 46, .null]))) 47 (.inl (X.2.2.2.1 0, (6, .inl (fun _ => 0))))) 44 (.inr (1, [rf X 24, rf X 45, rf X 46, rf X 47]))) 19 (.inr (6, [rf X 20, rf X 21, rf X 22, rf X 23, rf X 24, rf X 30, rf X 33, rf X 44, .int 0, .int 0]))) 19 (.inr (6, [rf X 20, rf X 21, rf X 22, rf X 23, rf X 24, rf X 30, rf X 33, rf X 44, .int (nI 0), .int 0]))) 19 (.inr (6, [rf X 20, rf X 21, rf X 22, rf X 23, rf X 24, rf X 30, rf X 33, rf X 44, .int (nI 0), .int (nI 0)])))
def mk9 (X : Cx) (g : Mem) : Mem := (va_up (va_up (va_up (va_up (va_up (va_up (va_up (va_up (va_up (va_up (va_up (va_up (va_up (va_up (va_up (va_up (va_up (va_up (va_up (va_up (va_up (va_up (va_up (va_up (va_up (va_up (va_up (va_up (va_up (va_up (va_up (va_up (va_up (va_up (va_up (va_up (va_up g 0 (.inr (7, [.int 0, .null, .null, .null, .null, .int 0, .int 0, .null, .null, .null, .null, .int 0, .null, .null, .int 0, .null, .null, .null, .int 0, .null, .null, .null, .int 0, .null, .null]))) 1 (.inl (X.2.2.2.1 0, (96, .inl (fun _ => 0))))) 0 (.inr (7, [.int 0, rf X 1, .null, .null, .null, .int 0, .int 0, .null, .null, .null, .null, .int 0, .null, .null, .int 0, .null, .null, .null, .int 0, .null, .null, .null, .int 0, .null, .null]))) 2 (.inl (X.2.2.2.1 3, (16, .inl (fun _ => 0))))) 0 (.inr (7, [.int 0, rf X 1, rf X 2, .null, .null, .int 0, .int 0, .null, .null, .null, .null, .int 0, .null, .null, .int 0, .null, .null, .null, .int 0, .null, .null, .null, .int 0, .null, .null]))) 3 (.inl (X.2.2.2.1 0, (130, .inl (fun _ => 0))))) 0 (.inr (7, [.int 0, rf X 1, rf X 2, rf X 3, .null, .int 0, .int 0, .null, .null, .null, .null, .int 0, .null, .null, .int 0, .null, .null, .null, .int 0, .null, .null, .null, .int 0, .null, .null]))) 4 (.inl (X.2.2.2.1 0, (130, .inl (fun _ => 0))))) 0 (.inr (7, [.int 0, rf X 1, rf X 2, rf X 3, rf X 4, .int 0, .int 0, .null, .null, .null, .null, .int 0, .null, .null, .int 0, .null, .null, .null, .int 0, .null, .null, .null, .int 0, .null, .null]))) 5 (.inl (X.2.2.2.1 0, (6, .inl (fun _ => 0))))) 0 (.inr (7, [.int 0, rf X 1, rf X 2, rf X 3, rf X 4, .int 0, .int 0, rf X 5, .null, .null, .null, .int 0, .null, .null, .int 0, .null, .null, .null, .int 0, .null, .null, .null, .int 0, .null, .null]))) 6 (.inl (X.2.2.2.1 0, (6, .inl (fun _ => 0))))) 0 (.inr (7, [.int 0, rf X 1, rf X 2, rf X 3, rf X 4, .int 0, .int 0, rf X 5, rf X 6, .null, .null, .int 0, .null, .null, .int 0, .null, .null, .null, .int 0, .null, .null, .null, .int 0, .null, .null]))) 7 (.inl (X.2.2.2.1 0, (6, .inl (fun _ => 0))))) 0 (.inr (7, [.int 0, rf X 1, rf X 2, rf X 3, rf X 4, .int 0, .int 0, rf X 5, rf X 6, rf X 7, .null, .int 0, .null, .null, .int 0, .null, .null, .null, .int 0, .null, .null, .null, .int 0, .null, .null]))) 8 (.inl (X.2.2.2.1 0, (400, .inl (fun _ => 0))))) 0 (.inr (7, [.int 0, rf X 1, rf X 2, rf X 3, rf X 4, .int 0, .int 0, rf X 5, rf X 6, rf X 7, rf X 8, .int 0, .null, .null, .int 0, .null, .null, .null, .int 0, .null, .null, .null, .int 0, .null, .null]))) 9 (.inl (X.2.2.2.1 0, (600, .inl (fun _ => 0))))) 0 (.inr (7, [.int 0, rf X 1, rf X 2, rf X 3, rf X 4, .int 0, .int 0, rf X 5, rf X 6, rf X 7, rf X 8, .int 0, rf X 9, .null, .int 0, .null, .null, .null, .int 0, .null, .null, .null, .int 0, .null, .null]))) 10 (.inl (X.2.2.2.1 0, (36, .inl (fun _ => 0))))) 0 (.inr (7, [.int 0, rf X 1, rf X 2, rf X 3, rf X 4, .int 0, .int 0, rf X 5, rf X 6, rf X 7, rf X 8, .int 0, rf X 9, rf X 10, .int 0, .null, .null, .null, .int 0, .null, .null, .null, .int 0, .null, .null]))) 11 (.inl (X.2.2.2.1 1, (36, .inr (.inl (fun _ => 0)))))) 0 (.inr (7, [.int 0, rf X 1, rf X 2, rf X 3, rf X 4, .int 0, .int 0, rf X 5, rf X 6, rf X 7, rf X 8, .int 0, rf X 9, rf X 10, .int 0, rf X 11, .null, .null, .int 0, .null, .null, .null, .int 0, .null, .null]))) 12 (.inl (X.2.2.2.1 0, (150, .inl (fun _ => 0))))) 0 (.inr (7, [.int 0, rf X 1, rf X 2, rf X 3, rf X 4, .int 0, .int 0, rf X 5, rf X 6, rf X 7, rf X 8, .int 0, rf X 9, rf X 10, .int 0, rf X 11, rf X 12, .null, .int 0, .null, .null, .null, .int 0, .null, .null]))) 13 (.inl (X.2.2.2.1 0, (150, .inl (fun _ => 0))))) 0 (.inr (7, [.int 0, rf X 1, rf X 2, rf X 3, rf X 4, .int 0, .int 0, rf X 5, rf X 6, rf X 7, rf X 8, .int 0, rf X 9, rf X 10, .int 0, rf X 11, rf X 12, rf X 13, .int 0, .null, .null, .null, .int 0, .null, .null]))) 14 (.inl (X.2.2.2.1 0, (150, .inl (fun _ => 0))))) 0 (.inr (7, [.int 0, rf X 1, rf X 2, rf X 3, rf X 4, .int 0, .int 0, rf X 5, rf X 6, rf X 7, rf X 8, .int 0, rf X 9, rf X 10, .int 0, rf X 11, rf X 12, rf X 13, .int 0, rf X 14, .null, .null, .int 0, .null, .null]))) 15 (.inl (X.2.2.2.1 0, (25, .inl (fun _ => 0))))) 0 (.inr (7, [.int 0, rf X 1, rf X 2, rf X 3, rf X 4, .int 0, .int 0, rf X 5, rf X 6, rf X 7, rf X 8, .int 0, rf X 9, rf X 10, .int 0, rf X 11, rf X 12, rf X 13, .int 0, rf X 14, rf X 15, .null, .int 0, .null, .null]))) 16 (.inl (X.2.2.2.1 0, (150, .inl (fun _ => 0))))) 0 (.inr (7, [.int 0, rf X 1, rf X 2, rf X 3, rf X 4, .int 0, .int 0, rf X 5, rf X 6, rf X 7, rf X 8, .int 0, rf X 9, rf X 10, .int 0, rf X 11, rf X 12, rf X 13, .int 0, rf X 14, rf X 15, rf X 16, .int 0, .null, .null]))) 17 (.inl (X.2.2.2.1 0, (6, .inl (fun _ => 0))))) 0 (.inr (7, [.int 0, rf X 1, rf X 2, rf X 3, rf X 4, .int 0, .int 0, rf X 5, rf X 6, rf X 7, rf X 8, .int 0, rf X 9, rf X 10, .int 0, rf X 11, rf X 12, rf X 13, .int 0, rf X 14, rf X 15, rf X 16, .int 0, rf X 17, .null]))) 18 (.inl (X.2.2.2.1 0, (6, .inl (fun _ => 0))))) 0 (.inr (7, [.int 0, rf X 1, rf X 2, rf X 3, rf X 4, .int 0, .int 0, rf X 5, rf X 6, rf X 7, rf X 8, .int 0, rf X 9, rf X 10, .int 0, rf X 11, rf X 12, rf X 13, .int 0, rf X 14, rf X 15, rf X 16, .int 0, rf X 17, rf X 18])))
def z0 : Nat → Int32 := fun k => match k with
  | 2 => nI 1
  | 3 => nI 1
  | _ => nI 0
def p0 : Nat → Nat → Nat := fun k => match k with
  | 32 => fun j => 69 + j
  | 38 => fun j => 75 + j
  | 41 => fun j => 99 + j
  | 43 => fun j => 123 + j
  | 33 => fun j => match j with
    | 7 => 40
    | _ => 42
  | _ => fun j => match j with
    | 2 => 46
    | _ => 47
def f0 : Nat → Nat → Int32 := fun k => match k with
  | 26 => upd (fun _ => 0) 0 (nI 1)
  | 28 => upd (fun _ => 0) 0 (nI 1)
  | _ => fun _ => 0
def bb0 (X : Cx) (g : Mem) : Mem := BB X z0 (fun _ => 1) p0 f0 (fun _ _ => 0) g
def mm0 (X : Cx) (g : Mem) : Mem := MM X (fun _ => 0) (fun _ _ => 0) (fun _ => 0) g
theorem mk9_a {X : Cx} {g : Mem} {i : Nat} (h : 0 ≤ i ∧ i < 10) : mk9 X g i = mm0 X g i := by
  have h1 : i = 0 ∨ i = 1 ∨ i = 2 ∨ i = 3 ∨ i = 4 ∨ i = 5 ∨ i = 6 ∨ i = 7 ∨ i = 8 ∨ i = 9 := by omega
  rcases h1 with rfl | rfl | rfl | rfl | rfl | rfl | rfl | rfl | rfl | rfl <;> rfl
theorem mk9_b {X : Cx} {g : Mem} {i : Nat} (h : 10 ≤ i ∧ i < 19) : mk9 X g i = mm0 X g i := by
  have h1 : i = 10 ∨ i = 11 ∨ i = 12 ∨ i = 13 ∨ i = 14 ∨ i = 15 ∨ i = 16 ∨ i = 17 ∨ i = 18 := by omega
  rcases h1 with rfl | rfl | rfl | rfl | rfl | rfl | rfl | rfl | rfl <;> rfl
theorem mk8_0 {X : Cx} {g : Mem} {i : Nat} (h : 19 ≤ i ∧ i < 35) : mk8 X g i = bb0 X g i := by
  have h1 : i = 19 ∨ i = 20 ∨ i = 21 ∨ i = 22 ∨ i = 23 ∨ i = 24 ∨ i = 25 ∨ i = 26 ∨ i = 27 ∨ i = 28 ∨ i = 29 ∨ i = 30 ∨ i = 31 ∨ i = 32 ∨ i = 33 ∨ i = 34 := by omega
  rcases h1 with rfl | rfl | rfl | rfl | rfl | rfl | rfl | rfl | rfl | rfl | rfl | rfl | rfl | rfl | rfl | rfl <;> rfl
theorem mk8_1 {X : Cx} {g : Mem} {i : Nat} (h : 35 ≤ i ∧ i < 51) : mk8 X g i = bb0 X g i := by
  have h1 : i = 35 ∨ i = 36 ∨ i = 37 ∨ i = 38 ∨ i = 39 ∨ i = 40 ∨ i = 41 ∨ i = 42 ∨ i = 43 ∨ i = 44 ∨ i = 45 ∨ i = 46 ∨ i = 47 ∨ i = 48 ∨ i = 49 ∨ i = 50 := by omega
  rcases h1 with rfl | rfl | rfl | rfl | rfl | rfl | rfl | rfl | rfl | rfl | rfl | rfl | rfl | rfl | rfl | rfl <;> rfl
theorem mk8_2 {X : Cx} {g : Mem} {i : Nat} (h : 51 ≤ i ∧ i < 67) : mk8 X g i = bb0 X g i := by
  have h1 : i = 51 ∨ i = 52 ∨ i = 53 ∨ i = 54 ∨ i = 55 ∨ i = 56 ∨ i = 57 ∨ i = 58 ∨ i = 59 ∨ i = 60 ∨ i = 61 ∨ i = 62 ∨ i = 63 ∨ i = 64 ∨ i = 65 ∨ i = 66 := by omega
  rcases h1 with rfl | rfl | rfl | rfl | rfl | rfl | rfl | rfl | rfl | rfl | rfl | rfl | rfl | rfl | rfl | rfl <;> rfl
theorem mk8_3 {X : Cx} {g : Mem} {i : Nat} (h : 67 ≤ i ∧ i < 83) : mk8 X g i = bb0 X g i := by
  have h1 : i = 67 ∨ i = 68 ∨ i = 69 ∨ i = 70 ∨ i = 71 ∨ i = 72 ∨ i = 73 ∨ i = 74 ∨ i = 75 ∨ i = 76 ∨ i = 77 ∨ i = 78 ∨ i = 79 ∨ i = 80 ∨ i = 81 ∨ i = 82 := by omega
  rcases h1 with rfl | rfl | rfl | rfl | rfl | rfl | rfl | rfl | rfl | rfl | rfl | rfl | rfl | rfl | rfl | rfl <;> rfl
theorem mk8_4 {X : Cx} {g : Mem} {i : Nat} (h : 83 ≤ i ∧ i < 99) : mk8 X g i = bb0 X g i := by
  have h1 : i = 83 ∨ i = 84 ∨ i = 85 ∨ i = 86 ∨ i = 87 ∨ i = 88 ∨ i = 89 ∨ i = 90 ∨ i = 91 ∨ i = 92 ∨ i = 93 ∨ i = 94 ∨ i = 95 ∨ i = 96 ∨ i = 97 ∨ i = 98 := by omega
  rcases h1 with rfl | rfl | rfl | rfl | rfl | rfl | rfl | rfl | rfl | rfl | rfl | rfl | rfl | rfl | rfl | rfl <;> rfl
theorem mk8_5 {X : Cx} {g : Mem} {i : Nat} (h : 99 ≤ i ∧ i < 115) : mk8 X g i = bb0 X g i := by
  have h1 : i = 99 ∨ i = 100 ∨ i = 101 ∨ i = 102 ∨ i = 103 ∨ i = 104 ∨ i = 105 ∨ i = 106 ∨ i = 107 ∨ i = 108 ∨ i = 109 ∨ i = 110 ∨ i = 111 ∨ i = 112 ∨ i = 113 ∨ i = 114 := by omega
  rcases h1 with rfl | rfl | rfl | rfl | rfl | rfl | rfl | rfl | rfl | rfl | rfl | rfl | rfl | rfl | rfl | rfl <;> rfl
theorem mk8_6 {X : Cx} {g : Mem} {i : Nat} (h : 115 ≤ i ∧ i < 131) : mk8 X g i = bb0 X g i := by
  have h1 : i = 115 ∨ i = 116 ∨ i = 117 ∨ i = 118 ∨ i = 119 ∨ i = 120 ∨ i = 121 ∨ i = 122 ∨ i = 123 ∨ i = 124 ∨ i = 125 ∨ i = 126 ∨ i = 127 ∨ i = 128 ∨ i = 129 ∨ i = 130 := by omega
  rcases h1 with rfl | rfl | rfl | rfl | rfl | rfl | rfl | rfl | rfl | rfl | rfl | rfl | rfl | rfl | rfl | rfl <;> rfl
theorem mk8_7 {X : Cx} {g : Mem} {i : Nat} (h : 131 ≤ i ∧ i < 147) : mk8 X g i = bb0 X g i := by
  have h1 : i = 131 ∨ i = 132 ∨ i = 133 ∨ i = 134 ∨ i = 135 ∨ i = 136 ∨ i = 137 ∨ i = 138 ∨ i = 139 ∨ i = 140 ∨ i = 141 ∨ i = 142 ∨ i = 143 ∨ i = 144 ∨ i = 145 ∨ i = 146 := by omega
  rcases h1 with rfl | rfl | rfl | rfl | rfl | rfl | rfl | rfl | rfl | rfl | rfl | rfl | rfl | rfl | rfl | rfl <;> rfl
theorem ups_out {g : Mem} {lo n : Nat} {e : va_E} {j : Nat} (h : j < lo ∨ lo + n ≤ j) : va_ups g lo n e j = g j := by
  unfold va_ups
  rw [if_neg (by omega)]
theorem mk9_hi {X : Cx} {g : Mem} {i : Nat} (h : 19 ≤ i) : mk9 X g i = g i := by
  unfold mk9
  simp only [up_ne (show i ≠ 0 by omega), up_ne (show i ≠ 1 by omega), up_ne (show i ≠ 2 by omega), up_ne (show i ≠ 3 by omega), up_ne (show i ≠ 4 by omega), up_ne (show i ≠ 5 by omega), up_ne (show i ≠ 6 by omega), up_ne (show i ≠ 7 by omega), up_ne (show i ≠ 8 by omega), up_ne (show i ≠ 9 by omega), up_ne (show i ≠ 10 by omega), up_ne (show i ≠ 11 by omega), up_ne (show i ≠ 12 by omega), up_ne (show i ≠ 13 by omega), up_ne (show i ≠ 14 by omega), up_ne (show i ≠ 15 by omega), up_ne (show i ≠ 16 by omega), up_ne (show i ≠ 17 by omega), up_ne (show i ≠ 18 by omega)]
theorem mm0_hi {X : Cx} {g : Mem} {i : Nat} (h : 19 ≤ i) : mm0 X g i = g i := by
  unfold mm0 MM
  rw [if_neg (by omega), if_neg (by omega), if_neg (by omega), if_neg (by omega)]
theorem mk9_eq {X : Cx} {g : Mem} : mk9 X g = mm0 X g := by
  funext i
  by_cases h1 : i < 10
  · exact mk9_a ⟨Nat.zero_le _, h1⟩
  · by_cases h2 : i < 19
    · exact mk9_b ⟨by omega, h2⟩
    · rw [mk9_hi (by omega), mm0_hi (by omega)]
theorem mk8_out {X : Cx} {g : Mem} {i : Nat} (h : i < 19 ∨ 147 ≤ i) : mk8 X g i = g i := by
  unfold mk8
  simp only [up_ne (show i ≠ 19 by omega), up_ne (show i ≠ 20 by omega), up_ne (show i ≠ 21 by omega), up_ne (show i ≠ 22 by omega), up_ne (show i ≠ 23 by omega), up_ne (show i ≠ 24 by omega), up_ne (show i ≠ 25 by omega), up_ne (show i ≠ 26 by omega), up_ne (show i ≠ 27 by omega), up_ne (show i ≠ 28 by omega), up_ne (show i ≠ 29 by omega), up_ne (show i ≠ 30 by omega), up_ne (show i ≠ 31 by omega), up_ne (show i ≠ 32 by omega), up_ne (show i ≠ 33 by omega), up_ne (show i ≠ 34 by omega), up_ne (show i ≠ 35 by omega), up_ne (show i ≠ 36 by omega), up_ne (show i ≠ 37 by omega), up_ne (show i ≠ 38 by omega), up_ne (show i ≠ 39 by omega), up_ne (show i ≠ 40 by omega), up_ne (show i ≠ 41 by omega), up_ne (show i ≠ 42 by omega), up_ne (show i ≠ 43 by omega), up_ne (show i ≠ 44 by omega), up_ne (show i ≠ 45 by omega), up_ne (show i ≠ 46 by omega), up_ne (show i ≠ 47 by omega), ups_out (show i < 48 ∨ 48 + 16 ≤ i by omega), ups_out (show i < 64 ∨ 64 + 5 ≤ i by omega), ups_out (show i < 69 ∨ 69 + 6 ≤ i by omega), ups_out (show i < 75 ∨ 75 + 24 ≤ i by omega), ups_out (show i < 99 ∨ 99 + 24 ≤ i by omega), ups_out (show i < 123 ∨ 123 + 24 ≤ i by omega)]
theorem BB_out {X : Cx} {Z : Nat → Int32} {V : Nat → Int64} {P : Nat → Nat → Nat} {F : Nat → Nat → Int32} {L : Nat → Nat → Int64} {g : Mem} {i : Nat} (h : i < 19 ∨ 147 ≤ i) : BB X Z V P F L g i = g i := by
  have hb : bI i = false := by
    cases hb : bI i
    · rfl
    · simp only [bI, bR, Bool.or_eq_true, beq_iff_eq, Bool.and_eq_true, decide_eq_true_eq] at hb
      omega
  have h3 : ¬ (69 ≤ i ∧ i ≤ 74) := by omega
  unfold BB
  split <;> first | exact absurd h (by decide) | simp [hb, h3]
theorem mk8_eq {X : Cx} {g : Mem} : mk8 X g = bb0 X g := by
  funext i
  by_cases h : i < 19 ∨ 147 ≤ i
  · rw [mk8_out h, bb0, BB_out h]
  · by_cases q0 : i < 35
    · exact mk8_0 ⟨by omega, q0⟩
    by_cases q1 : i < 51
    · exact mk8_1 ⟨by omega, q1⟩
    by_cases q2 : i < 67
    · exact mk8_2 ⟨by omega, q2⟩
    by_cases q3 : i < 83
    · exact mk8_3 ⟨by omega, q3⟩
    by_cases q4 : i < 99
    · exact mk8_4 ⟨by omega, q4⟩
    by_cases q5 : i < 115
    · exact mk8_5 ⟨by omega, q5⟩
    by_cases q6 : i < 131
    · exact mk8_6 ⟨by omega, q6⟩
    by_cases q7 : i < 147
    · exact mk8_7 ⟨by omega, q7⟩
    omega
theorem BB_mm {X : Cx} {Z : Nat → Int32} {V : Nat → Int64} {P : Nat → Nat → Nat} {F : Nat → Nat → Int32} {L : Nat → Nat → Int64} {g g' : Mem} {i : Nat} (h : g i = g' i) : BB X Z V P F L g i = BB X Z V P F L g' i := by
  unfold BB
  split <;> first | rfl | (split <;> first | rfl | (split <;> first | rfl | exact h))
theorem MM_hi {X : Cx} {Z : Nat → Int32} {F : Nat → Nat → Int32} {L : Nat → Int64} {g : Mem} {i : Nat} (h : 19 ≤ i) : MM X Z F L g i = g i := by
  unfold MM
  rw [if_neg (by omega), if_neg (by omega), if_neg (by omega), if_neg (by omega)]
theorem MM_lo {X : Cx} {Z : Nat → Int32} {F : Nat → Nat → Int32} {L : Nat → Int64} {g g' : Mem} {i : Nat} (h : i < 19) : MM X Z F L g i = MM X Z F L g' i := by
  unfold MM
  rw [if_pos (show i ≤ 18 by omega), if_pos (show i ≤ 18 by omega)]
/-- the two memories lie apart -/
theorem MM_BB {X : Cx} {Z1 : Nat → Int32} {F1 : Nat → Nat → Int32} {L1 : Nat → Int64} {Z : Nat → Int32} {V : Nat → Int64} {P : Nat → Nat → Nat} {F : Nat → Nat → Int32} {L : Nat → Nat → Int64} {g : Mem} : MM X Z1 F1 L1 (BB X Z V P F L g) = BB X Z V P F L (MM X Z1 F1 L1 g) := by
  funext i
  by_cases h : i < 19
  · rw [BB_out (Or.inl h)]
    exact MM_lo h
  · rw [MM_hi (by omega)]
    exact BB_mm (MM_hi (by omega)).symm
def s0 : Sg := (0, fun _ => false, fun _ _ => 0, 0, fun _ _ => 0, 0, fun _ _ => 0, 0, fun _ => 0)
theorem MI_0 : MI (fun _ => 0) (fun _ _ => 0) s0 :=
  ⟨rfl, fun _ _ => rfl, fun _ _ h => (by cases h), ⟨rfl, by decide, fun _ h => absurd h (Nat.not_lt_zero _)⟩, ⟨rfl, by decide, fun h => absurd h (Nat.lt_irrefl 0), fun h => absurd h (Nat.lt_irrefl 0)⟩, ⟨rfl, by decide, fun _ h => absurd h (Nat.not_lt_zero _)⟩, fun _ _ _ _ _ => Or.inl rfl⟩
theorem pOk_0 : pOk p0 :=
  ⟨⟨fun k hk => ⟨Nat.le_add_right 69 k, show 69 + k ≤ 74 by omega⟩, fun i j _ _ h => Nat.add_left_cancel (show 69 + i = 69 + j from h)⟩,
   ⟨fun k hk => ⟨Nat.le_add_right 75 k, show 75 + k ≤ 98 by omega⟩, fun i j _ _ h => Nat.add_left_cancel (show 75 + i = 75 + j from h)⟩,
   Or.inl ⟨rfl, rfl⟩, ⟨Or.inl rfl, Or.inr rfl, by decide⟩,
   ⟨fun k hk => ⟨Nat.le_add_right 99 k, show 99 + k < 99 + 24 by omega⟩, fun i j _ _ h => Nat.add_left_cancel (show 99 + i = 99 + j from h)⟩,
   ⟨fun k hk => ⟨Nat.le_add_right 123 k, show 123 + k < 123 + 24 by omega⟩, fun i j _ _ h => Nat.add_left_cancel (show 123 + i = 123 + j from h)⟩⟩
theorem BI_0 : BI z0 p0 f0 s0 :=
  ⟨rfl, fun _ _ => rfl, fun _ _ h => (by cases h), ⟨rfl, by decide, fun _ h => absurd h (Nat.not_lt_zero _)⟩, ⟨by decide, rfl, fun h => absurd h (Nat.lt_irrefl 0), fun h => absurd h (Nat.lt_irrefl 0)⟩, ⟨rfl, by decide, fun _ h => absurd h (Nat.not_lt_zero _)⟩, pOk_0⟩
