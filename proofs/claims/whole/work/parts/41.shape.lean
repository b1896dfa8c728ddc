def cKl : List Nat := [0, 30, 30, 30, 30, 0, 0, 0, 0, 0, 11, 26, 6, 6, 6, 6, 6, 6, 0, 0, 25, 24, 23, 20, 9, 20, 27, 9, 20, 9, 20, 9, 20, 4, 20, 8, 20, 20, 20, 20, 3, 29, 22, 22, 22, 20, 20, 21, 0, 0, 22, 22, 22, 22, 22, 22, 22, 22, 22, 0, 10, 20, 20, 20, 21, 20, 20, 20, 20, 0, 10, 20, 20, 20, 21, 20, 20, 20, 20, 0, 7, 28, 20, 21, 28, 28, 28, 20, 20, 0, 20, 20, 20, 0, 0, 0, 0, 0, 0, 0, 20, 20, 20, 20, 20, 20, 20, 20, 20, 20, 20, 20, 20, 20, 20, 20, 20, 20, 20, 20, 20, 20, 20, 20, 20, 20, 20, 20, 20, 20, 20, 20, 20, 20, 20, 20, 20, 20, 20, 20, 20, 20, 20, 20, 20, 20, 20, 20, 0, 0, 20, 20, 20, 20, 20, 20, 20, 20, 20, 0, 20, 20, 20, 20, 20, 20, 20, 20, 20, 0, 0, 0, 0, 0, 0, 0, 0, 0, 0, 0, 0, 0, 0, 0, 0, 0, 0, 0, 0, 0, 0, 0, 0, 0, 0, 0, 0, 0, 0, 0, 12, 20, 20, 20, 20, 20, 20, 20, 21, 20, 0, 20, 20, 20, 20, 20, 21, 20, 0, 20, 20, 20, 20, 0, 20, 0, 0, 20, 20, 0, 20, 20, 21, 20, 20, 21, 20, 20, 20, 20, 0, 0, 0, 0, 20, 20, 20, 0, 20, 20, 20, 20, 20, 20, 0, 0, 0, 0, 0, 0, 0, 0, 0, 0, 0, 0, 0, 0, 0, 0, 0, 0, 0, 0, 0, 0, 0, 0, 0, 0, 0, 0, 0, 0, 0, 0, 0, 0, 0, 0, 0, 0, 0, 0, 0, 0, 0, 0, 0, 0]
def cNl : List Nat := [0, 7, 7, 7, 0, 0, 0, 0, 0, 0, 0, 6, 0, 0, 0, 0, 0, 0, 0, 0, 8, 24, 10, 7, 0, 40, 3, 0, 40, 0, 40, 0, 40, 0, 5, 0, 12, 12, 9, 9, 0, 9, 10, 22, 22, 22, 22, 22, 0, 0, 21, 21, 21, 21, 21, 21, 21, 21, 21, 0, 0, 8, 8, 8, 8, 8, 12, 12, 12, 0, 0, 8, 8, 8, 8, 8, 12, 12, 12, 0, 0, 3, 8, 8, 48, 9, 9, 8, 6, 0, 5, 5, 5, 0, 0, 0, 0, 0, 0, 0, 3, 3, 3, 3, 3, 3, 3, 3, 3, 3, 3, 3, 3, 3, 3, 3, 3, 3, 3, 3, 3, 3, 3, 3, 3, 3, 3, 3, 3, 3, 3, 3, 3, 3, 3, 3, 3, 3, 3, 3, 3, 3, 3, 3, 3, 3, 3, 3, 0, 0, 3, 3, 3, 3, 3, 3, 3, 3, 3, 0, 3, 3, 3, 3, 3, 3, 3, 3, 3, 0, 0, 0, 0, 0, 0, 0, 0, 0, 0, 0, 0, 0, 0, 0, 0, 0, 0, 0, 0, 0, 0, 0, 0, 0, 0, 0, 0, 0, 0, 0, 0, 6, 6, 8, 8, 8, 8, 8, 8, 24, 0, 24, 24, 24, 24, 24, 24, 24, 0, 7, 160, 4, 6, 0, 24, 0, 0, 12, 12, 0, 40960, 9, 9, 8, 8, 8, 8, 12, 12, 12, 0, 0, 0, 0, 8, 15, 8, 0, 8, 8, 10, 10, 10, 10, 0, 0, 0, 0, 0, 0, 0, 0, 0, 0, 0, 0, 0, 0, 0, 0, 0, 0, 0, 0, 0, 0, 0, 0, 0, 0, 0, 0, 0, 0, 0, 0, 0, 0, 0, 0, 0, 0, 0, 0, 0, 0, 0, 0, 0, 0]
def cK (a : Nat) : Nat := cKl.getD a 0
def cN (a : Nat) : Nat := cNl.getD a 0
/-- the references that stay as the constructors laid them -/
def cR (a k : Nat) : Nat := match a with
  | 10 => ([11, 20, 21, 22, 23, 24, 26, 33, 35, 60, 70, 80] : List Nat).getD k 0
  | 11 => if k < 6 then 12 + k else 0
  | 24 => ([25] : List Nat).getD k 0
  | 26 => ([27, 29, 31] : List Nat).getD k 0
  | 27 => ([28] : List Nat).getD k 0
  | 29 => ([30] : List Nat).getD k 0
  | 31 => ([32] : List Nat).getD k 0
  | 33 => ([34] : List Nat).getD k 0
  | 35 => ([36, 37, 0, 38, 0, 39, 40] : List Nat).getD k 0
  | 40 => if k < 7 then 41 + k else 0
  | 41 => if k < 9 then 50 + k else 0
  | 60 => ([61, 62, 63, 64, 65, 0, 66, 67, 68] : List Nat).getD k 0
  | 70 => ([71, 72, 73, 74, 75, 0, 76, 77, 78] : List Nat).getD k 0
  | 80 => if k < 8 then 81 + k else 0
  | 81 => ([90, 91, 92] : List Nat).getD k 0
  | 84 => if k < 48 then 100 + k else 0
  | 85 => if k < 9 then 150 + k else 0
  | 86 => if k < 9 then 160 + k else 0
  | 200 => ([201, 202, 203, 204, 205, 206, 207, 208, 209, 0, 211, 212, 213, 214, 215, 216, 217, 0, 219, 220, 221, 222, 0, 224, 0, 0, 227, 228, 0, 230, 231, 232, 233, 234, 235, 236, 237, 238, 239, 0, 0, 0, 0, 244, 245, 246, 0, 248, 249, 250, 251, 252, 253] : List Nat).getD k 0
  | _ => 0
/-- THE SHAPE of the heap: the class's object at 10 with what it holds (11 to 168), the model's at 200 with its arrays (field k at 201 + k), the pits, men and harms made so far -/
def Sh (h : ZH) (np nm nh : Nat) : Prop :=
  (∀ a, a < 300 → zK h a = cK a) ∧ (∀ a, a < 300 → a ≠ 4 → zN h a = cN a) ∧ (∀ a k, cR a k ≠ 0 → zR h a k = cR a k) ∧
  (∀ p, p < np → zR h 20 p = 300 + 3 * p ∧ zK h (300 + 3 * p) = 5 ∧ zK h (301 + 3 * p) = 6 ∧ zK h (302 + 3 * p) = 20 ∧ zN h (302 + 3 * p) = 3 ∧ zR h (300 + 3 * p) 0 = 301 + 3 * p ∧ zR h (300 + 3 * p) 4 = 302 + 3 * p) ∧
  (∀ p, np ≤ p → p < 8 → zK h (300 + 3 * p) = 0 ∧ zK h (301 + 3 * p) = 0 ∧ zK h (302 + 3 * p) = 0) ∧
  (∀ m, m < nm → zR h 21 m = 400 + m ∧ zK h (400 + m) = 2) ∧ (∀ m, nm ≤ m → m < 24 → zK h (400 + m) = 0) ∧
  (∀ k, k < nh → zR h 22 k = 500 + 2 * k ∧ zK h (500 + 2 * k) = 1 ∧ zK h (501 + 2 * k) = 6 ∧ zR h (500 + 2 * k) 0 = 501 + 2 * k) ∧ (∀ k, nh ≤ k → k < 10 → zK h (500 + 2 * k) = 0 ∧ zK h (501 + 2 * k) = 0)
theorem Sh.same {h h1 : ZH} {np nm nh : Nat} (S : Sh h np nm nh) (e1 : zK h1 = zK h) (e2 : zN h1 = zN h) (e3 : zR h1 = zR h) : Sh h1 np nm nh := by
  unfold Sh
  rw [e1, e2, e3]
  exact S
section SHF
variable {h : ZH} {np nm nh : Nat}
set_option maxRecDepth 100000 in
theorem shX (S : Sh h np nm nh) : zK h 10 = 11 ∧ zR h 10 0 = 11 ∧ zR h 10 1 = 20 ∧ zR h 10 2 = 21 ∧ zR h 10 3 = 22 ∧ zR h 10 4 = 23 ∧ zR h 10 5 = 24 ∧ zR h 10 6 = 26 ∧ zR h 10 7 = 33 ∧ zR h 10 8 = 35 ∧ zR h 10 9 = 60 ∧ zR h 10 10 = 70 ∧ zR h 10 11 = 80 ∧ zK h 20 = 25 ∧ zN h 20 = 8 ∧ zK h 21 = 24 ∧ zN h 21 = 24 ∧ zK h 22 = 23 ∧ zN h 22 = 10 ∧ zK h 23 = 20 ∧ zN h 23 = 7 ∧ zK h 24 = 9 ∧ zR h 24 0 = 25 ∧ zK h 25 = 20 ∧ zN h 25 = 40 ∧ zK h 26 = 27 ∧ zN h 26 = 3 ∧ zR h 26 0 = 27 ∧ zR h 26 1 = 29 ∧ zR h 26 2 = 31 ∧ zK h 27 = 9 ∧ zR h 27 0 = 28 ∧ zK h 28 = 20 ∧ zN h 28 = 40 ∧ zK h 29 = 9 ∧ zR h 29 0 = 30 ∧ zK h 30 = 20 ∧ zN h 30 = 40 ∧ zK h 31 = 9 ∧ zR h 31 0 = 32 ∧ zK h 32 = 20 ∧ zN h 32 = 40 :=
  ⟨S.1 10 (by decide), S.2.2.1 10 0 (by decide), S.2.2.1 10 1 (by decide), S.2.2.1 10 2 (by decide), S.2.2.1 10 3 (by decide), S.2.2.1 10 4 (by decide), S.2.2.1 10 5 (by decide), S.2.2.1 10 6 (by decide), S.2.2.1 10 7 (by decide), S.2.2.1 10 8 (by decide), S.2.2.1 10 9 (by decide), S.2.2.1 10 10 (by decide), S.2.2.1 10 11 (by decide), S.1 20 (by decide), S.2.1 20 (by decide) (by decide), S.1 21 (by decide), S.2.1 21 (by decide) (by decide), S.1 22 (by decide), S.2.1 22 (by decide) (by decide), S.1 23 (by decide), S.2.1 23 (by decide) (by decide), S.1 24 (by decide), S.2.2.1 24 0 (by decide), S.1 25 (by decide), S.2.1 25 (by decide) (by decide), S.1 26 (by decide), S.2.1 26 (by decide) (by decide), S.2.2.1 26 0 (by decide), S.2.2.1 26 1 (by decide), S.2.2.1 26 2 (by decide), S.1 27 (by decide), S.2.2.1 27 0 (by decide), S.1 28 (by decide), S.2.1 28 (by decide) (by decide), S.1 29 (by decide), S.2.2.1 29 0 (by decide), S.1 30 (by decide), S.2.1 30 (by decide) (by decide), S.1 31 (by decide), S.2.2.1 31 0 (by decide), S.1 32 (by decide), S.2.1 32 (by decide) (by decide)⟩
set_option maxRecDepth 100000 in
theorem shTw (S : Sh h np nm nh) : zK h 11 = 26 ∧ zN h 11 = 6 ∧ zR h 11 0 = 12 ∧ zR h 11 1 = 13 ∧ zR h 11 2 = 14 ∧ zR h 11 3 = 15 ∧ zR h 11 4 = 16 ∧ zR h 11 5 = 17 ∧ zK h 12 = 6 ∧ zK h 13 = 6 ∧ zK h 14 = 6 ∧ zK h 15 = 6 ∧ zK h 16 = 6 ∧ zK h 17 = 6 :=
  ⟨S.1 11 (by decide), S.2.1 11 (by decide) (by decide), S.2.2.1 11 0 (by decide), S.2.2.1 11 1 (by decide), S.2.2.1 11 2 (by decide), S.2.2.1 11 3 (by decide), S.2.2.1 11 4 (by decide), S.2.2.1 11 5 (by decide), S.1 12 (by decide), S.1 13 (by decide), S.1 14 (by decide), S.1 15 (by decide), S.1 16 (by decide), S.1 17 (by decide)⟩
set_option maxRecDepth 100000 in
theorem shPi (S : Sh h np nm nh) : zK h 33 = 4 ∧ zR h 33 0 = 34 ∧ zK h 34 = 20 ∧ zN h 34 = 5 :=
  ⟨S.1 33 (by decide), S.2.2.1 33 0 (by decide), S.1 34 (by decide), S.2.1 34 (by decide) (by decide)⟩
set_option maxRecDepth 100000 in
theorem shRe (S : Sh h np nm nh) : zK h 35 = 8 ∧ zR h 35 0 = 36 ∧ zR h 35 1 = 37 ∧ zR h 35 3 = 38 ∧ zR h 35 5 = 39 ∧ zR h 35 6 = 40 ∧ zK h 36 = 20 ∧ zN h 36 = 12 ∧ zK h 37 = 20 ∧ zN h 37 = 12 ∧ zK h 38 = 20 ∧ zN h 38 = 9 ∧ zK h 39 = 20 ∧ zN h 39 = 9 ∧ zK h 40 = 3 ∧ zR h 40 0 = 41 ∧ zR h 40 1 = 42 ∧ zR h 40 2 = 43 ∧ zR h 40 3 = 44 ∧ zR h 40 4 = 45 ∧ zR h 40 5 = 46 ∧ zR h 40 6 = 47 :=
  ⟨S.1 35 (by decide), S.2.2.1 35 0 (by decide), S.2.2.1 35 1 (by decide), S.2.2.1 35 3 (by decide), S.2.2.1 35 5 (by decide), S.2.2.1 35 6 (by decide), S.1 36 (by decide), S.2.1 36 (by decide) (by decide), S.1 37 (by decide), S.2.1 37 (by decide) (by decide), S.1 38 (by decide), S.2.1 38 (by decide) (by decide), S.1 39 (by decide), S.2.1 39 (by decide) (by decide), S.1 40 (by decide), S.2.2.1 40 0 (by decide), S.2.2.1 40 1 (by decide), S.2.2.1 40 2 (by decide), S.2.2.1 40 3 (by decide), S.2.2.1 40 4 (by decide), S.2.2.1 40 5 (by decide), S.2.2.1 40 6 (by decide)⟩
set_option maxRecDepth 100000 in
theorem shPa (S : Sh h np nm nh) : zK h 40 = 3 ∧ zR h 40 0 = 41 ∧ zR h 40 1 = 42 ∧ zR h 40 2 = 43 ∧ zR h 40 3 = 44 ∧ zR h 40 4 = 45 ∧ zR h 40 5 = 46 ∧ zR h 40 6 = 47 ∧ zK h 41 = 29 ∧ zN h 41 = 9 ∧ zR h 41 0 = 50 ∧ zR h 41 1 = 51 ∧ zR h 41 2 = 52 ∧ zR h 41 3 = 53 ∧ zR h 41 4 = 54 ∧ zR h 41 5 = 55 ∧ zR h 41 6 = 56 ∧ zR h 41 7 = 57 ∧ zR h 41 8 = 58 ∧ zK h 42 = 22 ∧ zN h 42 = 10 ∧ zK h 43 = 22 ∧ zN h 43 = 22 ∧ zK h 44 = 22 ∧ zN h 44 = 22 ∧ zK h 45 = 20 ∧ zN h 45 = 22 ∧ zK h 46 = 20 ∧ zN h 46 = 22 ∧ zK h 47 = 21 ∧ zN h 47 = 22 :=
  ⟨S.1 40 (by decide), S.2.2.1 40 0 (by decide), S.2.2.1 40 1 (by decide), S.2.2.1 40 2 (by decide), S.2.2.1 40 3 (by decide), S.2.2.1 40 4 (by decide), S.2.2.1 40 5 (by decide), S.2.2.1 40 6 (by decide), S.1 41 (by decide), S.2.1 41 (by decide) (by decide), S.2.2.1 41 0 (by decide), S.2.2.1 41 1 (by decide), S.2.2.1 41 2 (by decide), S.2.2.1 41 3 (by decide), S.2.2.1 41 4 (by decide), S.2.2.1 41 5 (by decide), S.2.2.1 41 6 (by decide), S.2.2.1 41 7 (by decide), S.2.2.1 41 8 (by decide), S.1 42 (by decide), S.2.1 42 (by decide) (by decide), S.1 43 (by decide), S.2.1 43 (by decide) (by decide), S.1 44 (by decide), S.2.1 44 (by decide) (by decide), S.1 45 (by decide), S.2.1 45 (by decide) (by decide), S.1 46 (by decide), S.2.1 46 (by decide) (by decide), S.1 47 (by decide), S.2.1 47 (by decide) (by decide)⟩
set_option maxRecDepth 100000 in
theorem shW (S : Sh h np nm nh) : zK h 60 = 10 ∧ zR h 60 0 = 61 ∧ zR h 60 1 = 62 ∧ zR h 60 2 = 63 ∧ zR h 60 3 = 64 ∧ zR h 60 4 = 65 ∧ zR h 60 6 = 66 ∧ zR h 60 7 = 67 ∧ zR h 60 8 = 68 ∧ zK h 61 = 20 ∧ zN h 61 = 8 ∧ zK h 62 = 20 ∧ zN h 62 = 8 ∧ zK h 63 = 20 ∧ zN h 63 = 8 ∧ zK h 64 = 21 ∧ zN h 64 = 8 ∧ zK h 65 = 20 ∧ zN h 65 = 8 ∧ zK h 66 = 20 ∧ zN h 66 = 12 ∧ zK h 67 = 20 ∧ zN h 67 = 12 ∧ zK h 68 = 20 ∧ zN h 68 = 12 :=
  ⟨S.1 60 (by decide), S.2.2.1 60 0 (by decide), S.2.2.1 60 1 (by decide), S.2.2.1 60 2 (by decide), S.2.2.1 60 3 (by decide), S.2.2.1 60 4 (by decide), S.2.2.1 60 6 (by decide), S.2.2.1 60 7 (by decide), S.2.2.1 60 8 (by decide), S.1 61 (by decide), S.2.1 61 (by decide) (by decide), S.1 62 (by decide), S.2.1 62 (by decide) (by decide), S.1 63 (by decide), S.2.1 63 (by decide) (by decide), S.1 64 (by decide), S.2.1 64 (by decide) (by decide), S.1 65 (by decide), S.2.1 65 (by decide) (by decide), S.1 66 (by decide), S.2.1 66 (by decide) (by decide), S.1 67 (by decide), S.2.1 67 (by decide) (by decide), S.1 68 (by decide), S.2.1 68 (by decide) (by decide)⟩
set_option maxRecDepth 100000 in
theorem shT (S : Sh h np nm nh) : zK h 70 = 10 ∧ zR h 70 0 = 71 ∧ zR h 70 1 = 72 ∧ zR h 70 2 = 73 ∧ zR h 70 3 = 74 ∧ zR h 70 4 = 75 ∧ zR h 70 6 = 76 ∧ zR h 70 7 = 77 ∧ zR h 70 8 = 78 ∧ zK h 71 = 20 ∧ zN h 71 = 8 ∧ zK h 72 = 20 ∧ zN h 72 = 8 ∧ zK h 73 = 20 ∧ zN h 73 = 8 ∧ zK h 74 = 21 ∧ zN h 74 = 8 ∧ zK h 75 = 20 ∧ zN h 75 = 8 ∧ zK h 76 = 20 ∧ zN h 76 = 12 ∧ zK h 77 = 20 ∧ zN h 77 = 12 ∧ zK h 78 = 20 ∧ zN h 78 = 12 :=
  ⟨S.1 70 (by decide), S.2.2.1 70 0 (by decide), S.2.2.1 70 1 (by decide), S.2.2.1 70 2 (by decide), S.2.2.1 70 3 (by decide), S.2.2.1 70 4 (by decide), S.2.2.1 70 6 (by decide), S.2.2.1 70 7 (by decide), S.2.2.1 70 8 (by decide), S.1 71 (by decide), S.2.1 71 (by decide) (by decide), S.1 72 (by decide), S.2.1 72 (by decide) (by decide), S.1 73 (by decide), S.2.1 73 (by decide) (by decide), S.1 74 (by decide), S.2.1 74 (by decide) (by decide), S.1 75 (by decide), S.2.1 75 (by decide) (by decide), S.1 76 (by decide), S.2.1 76 (by decide) (by decide), S.1 77 (by decide), S.2.1 77 (by decide) (by decide), S.1 78 (by decide), S.2.1 78 (by decide) (by decide)⟩
set_option maxRecDepth 100000 in
theorem shPl (S : Sh h np nm nh) : zK h 80 = 7 ∧ zR h 80 0 = 81 ∧ zR h 80 1 = 82 ∧ zR h 80 2 = 83 ∧ zR h 80 3 = 84 ∧ zR h 80 4 = 85 ∧ zR h 80 5 = 86 ∧ zR h 80 6 = 87 ∧ zR h 80 7 = 88 ∧ zK h 81 = 28 ∧ zN h 81 = 3 ∧ zR h 81 0 = 90 ∧ zR h 81 1 = 91 ∧ zR h 81 2 = 92 ∧ zK h 82 = 20 ∧ zN h 82 = 8 ∧ zK h 83 = 21 ∧ zN h 83 = 8 ∧ zK h 84 = 28 ∧ zN h 84 = 48 ∧ zK h 85 = 28 ∧ zN h 85 = 9 ∧ zR h 85 0 = 150 ∧ zR h 85 1 = 151 ∧ zR h 85 2 = 152 ∧ zR h 85 3 = 153 ∧ zR h 85 4 = 154 ∧ zR h 85 5 = 155 ∧ zR h 85 6 = 156 ∧ zR h 85 7 = 157 ∧ zR h 85 8 = 158 ∧ zK h 86 = 28 ∧ zN h 86 = 9 ∧ zR h 86 0 = 160 ∧ zR h 86 1 = 161 ∧ zR h 86 2 = 162 ∧ zR h 86 3 = 163 ∧ zR h 86 4 = 164 ∧ zR h 86 5 = 165 ∧ zR h 86 6 = 166 ∧ zR h 86 7 = 167 ∧ zR h 86 8 = 168 ∧ zK h 87 = 20 ∧ zN h 87 = 8 ∧ zK h 88 = 20 ∧ zN h 88 = 6 ∧ zK h 90 = 20 ∧ zN h 90 = 5 ∧ zK h 91 = 20 ∧ zN h 91 = 5 ∧ zK h 92 = 20 ∧ zN h 92 = 5 :=
  ⟨S.1 80 (by decide), S.2.2.1 80 0 (by decide), S.2.2.1 80 1 (by decide), S.2.2.1 80 2 (by decide), S.2.2.1 80 3 (by decide), S.2.2.1 80 4 (by decide), S.2.2.1 80 5 (by decide), S.2.2.1 80 6 (by decide), S.2.2.1 80 7 (by decide), S.1 81 (by decide), S.2.1 81 (by decide) (by decide), S.2.2.1 81 0 (by decide), S.2.2.1 81 1 (by decide), S.2.2.1 81 2 (by decide), S.1 82 (by decide), S.2.1 82 (by decide) (by decide), S.1 83 (by decide), S.2.1 83 (by decide) (by decide), S.1 84 (by decide), S.2.1 84 (by decide) (by decide), S.1 85 (by decide), S.2.1 85 (by decide) (by decide), S.2.2.1 85 0 (by decide), S.2.2.1 85 1 (by decide), S.2.2.1 85 2 (by decide), S.2.2.1 85 3 (by decide), S.2.2.1 85 4 (by decide), S.2.2.1 85 5 (by decide), S.2.2.1 85 6 (by decide), S.2.2.1 85 7 (by decide), S.2.2.1 85 8 (by decide), S.1 86 (by decide), S.2.1 86 (by decide) (by decide), S.2.2.1 86 0 (by decide), S.2.2.1 86 1 (by decide), S.2.2.1 86 2 (by decide), S.2.2.1 86 3 (by decide), S.2.2.1 86 4 (by decide), S.2.2.1 86 5 (by decide), S.2.2.1 86 6 (by decide), S.2.2.1 86 7 (by decide), S.2.2.1 86 8 (by decide), S.1 87 (by decide), S.2.1 87 (by decide) (by decide), S.1 88 (by decide), S.2.1 88 (by decide) (by decide), S.1 90 (by decide), S.2.1 90 (by decide) (by decide), S.1 91 (by decide), S.2.1 91 (by decide) (by decide), S.1 92 (by decide), S.2.1 92 (by decide) (by decide)⟩
set_option maxRecDepth 100000 in
theorem shM (S : Sh h np nm nh) : zK h 200 = 12 ∧ zR h 200 0 = 201 ∧ zR h 200 1 = 202 ∧ zR h 200 2 = 203 ∧ zR h 200 3 = 204 ∧ zR h 200 4 = 205 ∧ zR h 200 5 = 206 ∧ zR h 200 6 = 207 ∧ zR h 200 7 = 208 ∧ zR h 200 8 = 209 ∧ zR h 200 10 = 211 ∧ zR h 200 11 = 212 ∧ zR h 200 12 = 213 ∧ zR h 200 13 = 214 ∧ zR h 200 14 = 215 ∧ zR h 200 15 = 216 ∧ zR h 200 16 = 217 ∧ zR h 200 18 = 219 ∧ zR h 200 19 = 220 ∧ zR h 200 20 = 221 ∧ zR h 200 21 = 222 ∧ zR h 200 23 = 224 ∧ zR h 200 26 = 227 ∧ zR h 200 27 = 228 ∧ zR h 200 29 = 230 ∧ zR h 200 30 = 231 ∧ zR h 200 31 = 232 ∧ zR h 200 32 = 233 ∧ zR h 200 33 = 234 ∧ zR h 200 34 = 235 ∧ zR h 200 35 = 236 ∧ zR h 200 36 = 237 ∧ zR h 200 37 = 238 ∧ zR h 200 38 = 239 ∧ zR h 200 43 = 244 ∧ zR h 200 44 = 245 ∧ zR h 200 45 = 246 ∧ zR h 200 47 = 248 ∧ zR h 200 48 = 249 ∧ zR h 200 49 = 250 ∧ zR h 200 50 = 251 ∧ zR h 200 51 = 252 ∧ zR h 200 52 = 253 ∧ zK h 201 = 20 ∧ zN h 201 = 6 ∧ zK h 202 = 20 ∧ zN h 202 = 6 ∧ zK h 203 = 20 ∧ zN h 203 = 8 ∧ zK h 204 = 20 ∧ zN h 204 = 8 ∧ zK h 205 = 20 ∧ zN h 205 = 8 ∧ zK h 206 = 20 ∧ zN h 206 = 8 ∧ zK h 207 = 20 ∧ zN h 207 = 8 ∧ zK h 208 = 21 ∧ zN h 208 = 8 ∧ zK h 209 = 20 ∧ zN h 209 = 24 ∧ zK h 211 = 20 ∧ zN h 211 = 24 ∧ zK h 212 = 20 ∧ zN h 212 = 24 ∧ zK h 213 = 20 ∧ zN h 213 = 24 ∧ zK h 214 = 20 ∧ zN h 214 = 24 ∧ zK h 215 = 20 ∧ zN h 215 = 24 ∧ zK h 216 = 21 ∧ zN h 216 = 24 ∧ zK h 217 = 20 ∧ zN h 217 = 24 ∧ zK h 219 = 20 ∧ zN h 219 = 7 ∧ zK h 220 = 20 ∧ zN h 220 = 160 ∧ zK h 221 = 20 ∧ zN h 221 = 4 ∧ zK h 222 = 20 ∧ zN h 222 = 6 ∧ zK h 224 = 20 ∧ zN h 224 = 24 ∧ zK h 227 = 20 ∧ zN h 227 = 12 ∧ zK h 228 = 20 ∧ zN h 228 = 12 ∧ zK h 230 = 20 ∧ zN h 230 = 40960 ∧ zK h 231 = 20 ∧ zN h 231 = 9 ∧ zK h 232 = 21 ∧ zN h 232 = 9 ∧ zK h 233 = 20 ∧ zN h 233 = 8 ∧ zK h 234 = 20 ∧ zN h 234 = 8 ∧ zK h 235 = 21 ∧ zN h 235 = 8 ∧ zK h 236 = 20 ∧ zN h 236 = 8 ∧ zK h 237 = 20 ∧ zN h 237 = 12 ∧ zK h 238 = 20 ∧ zN h 238 = 12 ∧ zK h 239 = 20 ∧ zN h 239 = 12 ∧ zK h 244 = 20 ∧ zN h 244 = 8 ∧ zK h 245 = 20 ∧ zN h 245 = 15 ∧ zK h 246 = 20 ∧ zN h 246 = 8 ∧ zK h 248 = 20 ∧ zN h 248 = 8 ∧ zK h 249 = 20 ∧ zN h 249 = 8 ∧ zK h 250 = 20 ∧ zN h 250 = 10 ∧ zK h 251 = 20 ∧ zN h 251 = 10 ∧ zK h 252 = 20 ∧ zN h 252 = 10 ∧ zK h 253 = 20 ∧ zN h 253 = 10 :=
  ⟨S.1 200 (by decide), S.2.2.1 200 0 (by decide), S.2.2.1 200 1 (by decide), S.2.2.1 200 2 (by decide), S.2.2.1 200 3 (by decide), S.2.2.1 200 4 (by decide), S.2.2.1 200 5 (by decide), S.2.2.1 200 6 (by decide), S.2.2.1 200 7 (by decide), S.2.2.1 200 8 (by decide), S.2.2.1 200 10 (by decide), S.2.2.1 200 11 (by decide), S.2.2.1 200 12 (by decide), S.2.2.1 200 13 (by decide), S.2.2.1 200 14 (by decide), S.2.2.1 200 15 (by decide), S.2.2.1 200 16 (by decide), S.2.2.1 200 18 (by decide), S.2.2.1 200 19 (by decide), S.2.2.1 200 20 (by decide), S.2.2.1 200 21 (by decide), S.2.2.1 200 23 (by decide), S.2.2.1 200 26 (by decide), S.2.2.1 200 27 (by decide), S.2.2.1 200 29 (by decide), S.2.2.1 200 30 (by decide), S.2.2.1 200 31 (by decide), S.2.2.1 200 32 (by decide), S.2.2.1 200 33 (by decide), S.2.2.1 200 34 (by decide), S.2.2.1 200 35 (by decide), S.2.2.1 200 36 (by decide), S.2.2.1 200 37 (by decide), S.2.2.1 200 38 (by decide), S.2.2.1 200 43 (by decide), S.2.2.1 200 44 (by decide), S.2.2.1 200 45 (by decide), S.2.2.1 200 47 (by decide), S.2.2.1 200 48 (by decide), S.2.2.1 200 49 (by decide), S.2.2.1 200 50 (by decide), S.2.2.1 200 51 (by decide), S.2.2.1 200 52 (by decide), S.1 201 (by decide), S.2.1 201 (by decide) (by decide), S.1 202 (by decide), S.2.1 202 (by decide) (by decide), S.1 203 (by decide), S.2.1 203 (by decide) (by decide), S.1 204 (by decide), S.2.1 204 (by decide) (by decide), S.1 205 (by decide), S.2.1 205 (by decide) (by decide), S.1 206 (by decide), S.2.1 206 (by decide) (by decide), S.1 207 (by decide), S.2.1 207 (by decide) (by decide), S.1 208 (by decide), S.2.1 208 (by decide) (by decide), S.1 209 (by decide), S.2.1 209 (by decide) (by decide), S.1 211 (by decide), S.2.1 211 (by decide) (by decide), S.1 212 (by decide), S.2.1 212 (by decide) (by decide), S.1 213 (by decide), S.2.1 213 (by decide) (by decide), S.1 214 (by decide), S.2.1 214 (by decide) (by decide), S.1 215 (by decide), S.2.1 215 (by decide) (by decide), S.1 216 (by decide), S.2.1 216 (by decide) (by decide), S.1 217 (by decide), S.2.1 217 (by decide) (by decide), S.1 219 (by decide), S.2.1 219 (by decide) (by decide), S.1 220 (by decide), S.2.1 220 (by decide) (by decide), S.1 221 (by decide), S.2.1 221 (by decide) (by decide), S.1 222 (by decide), S.2.1 222 (by decide) (by decide), S.1 224 (by decide), S.2.1 224 (by decide) (by decide), S.1 227 (by decide), S.2.1 227 (by decide) (by decide), S.1 228 (by decide), S.2.1 228 (by decide) (by decide), S.1 230 (by decide), S.2.1 230 (by decide) (by decide), S.1 231 (by decide), S.2.1 231 (by decide) (by decide), S.1 232 (by decide), S.2.1 232 (by decide) (by decide), S.1 233 (by decide), S.2.1 233 (by decide) (by decide), S.1 234 (by decide), S.2.1 234 (by decide) (by decide), S.1 235 (by decide), S.2.1 235 (by decide) (by decide), S.1 236 (by decide), S.2.1 236 (by decide) (by decide), S.1 237 (by decide), S.2.1 237 (by decide) (by decide), S.1 238 (by decide), S.2.1 238 (by decide) (by decide), S.1 239 (by decide), S.2.1 239 (by decide) (by decide), S.1 244 (by decide), S.2.1 244 (by decide) (by decide), S.1 245 (by decide), S.2.1 245 (by decide) (by decide), S.1 246 (by decide), S.2.1 246 (by decide) (by decide), S.1 248 (by decide), S.2.1 248 (by decide) (by decide), S.1 249 (by decide), S.2.1 249 (by decide) (by decide), S.1 250 (by decide), S.2.1 250 (by decide) (by decide), S.1 251 (by decide), S.2.1 251 (by decide) (by decide), S.1 252 (by decide), S.2.1 252 (by decide) (by decide), S.1 253 (by decide), S.2.1 253 (by decide) (by decide)⟩
set_option maxRecDepth 100000 in
theorem shS (S : Sh h np nm nh) : zK h 1 = 30 ∧ zN h 1 = 7 ∧ zK h 2 = 30 ∧ zN h 2 = 7 ∧ zK h 3 = 30 ∧ zN h 3 = 7 :=
  ⟨S.1 1 (by decide), S.2.1 1 (by decide) (by decide), S.1 2 (by decide), S.2.1 2 (by decide) (by decide), S.1 3 (by decide), S.2.1 3 (by decide) (by decide)⟩
theorem shRow41 (S : Sh h np nm nh) {j : Nat} (hj : j < 9) : zR h 41 j = 50 + j ∧ zK h (50 + j) = 22 ∧ zN h (50 + j) = 21 := by
  have e1 : cR 41 j = 50 + j := by
    have : ∀ j, j < 9 → cR 41 j = 50 + j := by decide
    exact this j hj
  have e2 : cK (50 + j) = 22 := by
    have : ∀ j, j < 9 → cK (50 + j) = 22 := by decide
    exact this j hj
  have e3 : cN (50 + j) = 21 := by
    have : ∀ j, j < 9 → cN (50 + j) = 21 := by decide
    exact this j hj
  exact ⟨(S.2.2.1 41 j (by rw [e1]; omega)).trans e1, (S.1 _ (by omega)).trans e2, (S.2.1 _ (by omega) (by omega)).trans e3⟩
theorem shRow81 (S : Sh h np nm nh) {j : Nat} (hj : j < 3) : zR h 81 j = 90 + j ∧ zK h (90 + j) = 20 ∧ zN h (90 + j) = 5 := by
  have e1 : cR 81 j = 90 + j := by
    have : ∀ j, j < 3 → cR 81 j = 90 + j := by decide
    exact this j hj
  have e2 : cK (90 + j) = 20 := by
    have : ∀ j, j < 3 → cK (90 + j) = 20 := by decide
    exact this j hj
  have e3 : cN (90 + j) = 5 := by
    have : ∀ j, j < 3 → cN (90 + j) = 5 := by decide
    exact this j hj
  exact ⟨(S.2.2.1 81 j (by rw [e1]; omega)).trans e1, (S.1 _ (by omega)).trans e2, (S.2.1 _ (by omega) (by omega)).trans e3⟩
theorem shRow84 (S : Sh h np nm nh) {j : Nat} (hj : j < 48) : zR h 84 j = 100 + j ∧ zK h (100 + j) = 20 ∧ zN h (100 + j) = 3 := by
  have e1 : cR 84 j = 100 + j := by
    have : ∀ j, j < 48 → cR 84 j = 100 + j := by decide
    exact this j hj
  have e2 : cK (100 + j) = 20 := by
    have : ∀ j, j < 48 → cK (100 + j) = 20 := by decide
    exact this j hj
  have e3 : cN (100 + j) = 3 := by
    have : ∀ j, j < 48 → cN (100 + j) = 3 := by decide
    exact this j hj
  exact ⟨(S.2.2.1 84 j (by rw [e1]; omega)).trans e1, (S.1 _ (by omega)).trans e2, (S.2.1 _ (by omega) (by omega)).trans e3⟩
theorem shRow85 (S : Sh h np nm nh) {j : Nat} (hj : j < 9) : zR h 85 j = 150 + j ∧ zK h (150 + j) = 20 ∧ zN h (150 + j) = 3 := by
  have e1 : cR 85 j = 150 + j := by
    have : ∀ j, j < 9 → cR 85 j = 150 + j := by decide
    exact this j hj
  have e2 : cK (150 + j) = 20 := by
    have : ∀ j, j < 9 → cK (150 + j) = 20 := by decide
    exact this j hj
  have e3 : cN (150 + j) = 3 := by
    have : ∀ j, j < 9 → cN (150 + j) = 3 := by decide
    exact this j hj
  exact ⟨(S.2.2.1 85 j (by rw [e1]; omega)).trans e1, (S.1 _ (by omega)).trans e2, (S.2.1 _ (by omega) (by omega)).trans e3⟩
theorem shRow86 (S : Sh h np nm nh) {j : Nat} (hj : j < 9) : zR h 86 j = 160 + j ∧ zK h (160 + j) = 20 ∧ zN h (160 + j) = 3 := by
  have e1 : cR 86 j = 160 + j := by
    have : ∀ j, j < 9 → cR 86 j = 160 + j := by decide
    exact this j hj
  have e2 : cK (160 + j) = 20 := by
    have : ∀ j, j < 9 → cK (160 + j) = 20 := by decide
    exact this j hj
  have e3 : cN (160 + j) = 3 := by
    have : ∀ j, j < 9 → cN (160 + j) = 3 := by decide
    exact this j hj
  exact ⟨(S.2.2.1 86 j (by rw [e1]; omega)).trans e1, (S.1 _ (by omega)).trans e2, (S.2.1 _ (by omega) (by omega)).trans e3⟩
theorem shTown (S : Sh h np nm nh) {j : Nat} (hj : j < 6) : zR h 11 j = 12 + j ∧ zK h (12 + j) = 6 := by
  have e1 : cR 11 j = 12 + j := by
    have : ∀ j, j < 6 → cR 11 j = 12 + j := by decide
    exact this j hj
  have e2 : cK (12 + j) = 6 := by
    have : ∀ j, j < 6 → cK (12 + j) = 6 := by decide
    exact this j hj
  exact ⟨(S.2.2.1 11 j (by rw [e1]; omega)).trans e1, (S.1 _ (by omega)).trans e2⟩
theorem shRule (S : Sh h np nm nh) {j : Nat} (hj : j < 3) : zR h 26 j = 27 + 2 * j ∧ zK h (27 + 2 * j) = 9 ∧ zR h (27 + 2 * j) 0 = 28 + 2 * j ∧ zK h (28 + 2 * j) = 20 ∧ zN h (28 + 2 * j) = 40 := by
  match j, hj with
  | 0, _ => exact ⟨S.2.2.1 26 0 (by decide), S.1 27 (by decide), S.2.2.1 27 0 (by decide), S.1 28 (by decide), S.2.1 28 (by decide) (by decide)⟩
  | 1, _ => exact ⟨S.2.2.1 26 1 (by decide), S.1 29 (by decide), S.2.2.1 29 0 (by decide), S.1 30 (by decide), S.2.1 30 (by decide) (by decide)⟩
  | 2, _ => exact ⟨S.2.2.1 26 2 (by decide), S.1 31 (by decide), S.2.2.1 31 0 (by decide), S.1 32 (by decide), S.2.1 32 (by decide) (by decide)⟩
theorem shPit (S : Sh h np nm nh) {p : Nat} (hp : p < np) : zR h 20 p = 300 + 3 * p ∧ zK h (300 + 3 * p) = 5 ∧ zK h (301 + 3 * p) = 6 ∧ zK h (302 + 3 * p) = 20 ∧ zN h (302 + 3 * p) = 3 ∧ zR h (300 + 3 * p) 0 = 301 + 3 * p ∧ zR h (300 + 3 * p) 4 = 302 + 3 * p := S.2.2.2.1 p hp
theorem shMan (S : Sh h np nm nh) {m : Nat} (hm : m < nm) : zR h 21 m = 400 + m ∧ zK h (400 + m) = 2 := S.2.2.2.2.2.1 m hm
theorem shHarm (S : Sh h np nm nh) {k : Nat} (hk : k < nh) : zR h 22 k = 500 + 2 * k ∧ zK h (500 + 2 * k) = 1 ∧ zK h (501 + 2 * k) = 6 ∧ zR h (500 + 2 * k) 0 = 501 + 2 * k := S.2.2.2.2.2.2.2.1 k hk
end SHF
/-! reading behind a write -/
theorem zI_sI {h : ZH} {a i b j : Nat} {v : Int32} : zI (zsI h a i v) b j = if b = a ∧ j = i then v else zI h b j := rfl
theorem zI_sIs {h : ZH} {a i : Nat} {v : Int32} : zI (zsI h a i v) a i = v := if_pos ⟨rfl, rfl⟩
theorem zI_sIa {h : ZH} {a i b j : Nat} {v : Int32} (e : b ≠ a) : zI (zsI h a i v) b j = zI h b j := if_neg (fun q => e q.1)
theorem zI_sIj {h : ZH} {a i b j : Nat} {v : Int32} (e : j ≠ i) : zI (zsI h a i v) b j = zI h b j := if_neg (fun q => e q.2)
theorem zK_sI {h : ZH} {a i : Nat} {v : Int32} : zK (zsI h a i v) = zK h := rfl
theorem zN_sI {h : ZH} {a i : Nat} {v : Int32} : zN (zsI h a i v) = zN h := rfl
theorem zR_sI {h : ZH} {a i : Nat} {v : Int32} : zR (zsI h a i v) = zR h := rfl
theorem zL_sI {h : ZH} {a i : Nat} {v : Int32} : zL (zsI h a i v) = zL h := rfl
theorem zK_sL {h : ZH} {a i : Nat} {v : Int64} : zK (zsL h a i v) = zK h := rfl
theorem zN_sL {h : ZH} {a i : Nat} {v : Int64} : zN (zsL h a i v) = zN h := rfl
theorem zR_sL {h : ZH} {a i : Nat} {v : Int64} : zR (zsL h a i v) = zR h := rfl
theorem zI_sL {h : ZH} {a i : Nat} {v : Int64} : zI (zsL h a i v) = zI h := rfl
theorem zL_sL {h : ZH} {a i b j : Nat} {v : Int64} : zL (zsL h a i v) b j = if b = a ∧ j = i then v else zL h b j := rfl
theorem zK_sR {h : ZH} {a i v : Nat} : zK (zsR h a i v) = zK h := rfl
theorem zN_sR {h : ZH} {a i v : Nat} : zN (zsR h a i v) = zN h := rfl
theorem zI_sR {h : ZH} {a i v : Nat} : zI (zsR h a i v) = zI h := rfl
theorem zL_sR {h : ZH} {a i v : Nat} : zL (zsR h a i v) = zL h := rfl
theorem zR_sR {h : ZH} {a i b j v : Nat} : zR (zsR h a i v) b j = if b = a ∧ j = i then v else zR h b j := rfl
theorem zK_cp {h : ZH} {b s a d n : Nat} : zK (zcp h b s a d n) = zK h := rfl
theorem zN_cp {h : ZH} {b s a d n : Nat} : zN (zcp h b s a d n) = zN h := rfl
theorem zR_cp {h : ZH} {b s a d n : Nat} : zR (zcp h b s a d n) = zR h := rfl
theorem zL_cp {h : ZH} {b s a d n : Nat} : zL (zcp h b s a d n) = zL h := rfl
theorem zI_cp {h : ZH} {b s a d n q j : Nat} : zI (zcp h b s a d n) q j = if q = a ∧ d ≤ j ∧ j < d + n then zI h b (s + (j - d)) else zI h q j := rfl
theorem Sh.sI {h : ZH} {np nm nh a i : Nat} {v : Int32} (S : Sh h np nm nh) : Sh (zsI h a i v) np nm nh := S
theorem Sh.sL {h : ZH} {np nm nh a i : Nat} {v : Int64} (S : Sh h np nm nh) : Sh (zsL h a i v) np nm nh := S
theorem Sh.cp {h : ZH} {np nm nh b s a d n : Nat} (S : Sh h np nm nh) : Sh (zcp h b s a d n) np nm nh := S
