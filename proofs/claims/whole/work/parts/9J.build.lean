/-! the constructors lay the shape: what is built so far, by lists -/
def ST (M : Nat) (l : List Nat) (e : List (Nat × Nat)) (F : Nat → Nat → Int32) (h : ZH) : Prop :=
  (∀ b, b < 520 → zK h b = if l.contains b = true then cK b else 0) ∧ (∀ b, b < 300 → b ≠ 4 → zN h b = if l.contains b = true then cN b else 0) ∧
  (∀ a k, e.contains (a, k) = true → l.contains a = true ∧ zR h a k = cR a k) ∧ (∀ b, l.contains b = true → ∀ j, zI h b j = F b j) ∧ zN h 4 = M
section BUILD
variable {M : Nat} {h H : ZH} {l : List Nat} {e : List (Nat × Nat)} {F G : Nat → Nat → Int32} {a k n v b : Nat}
theorem ST.zz (S : ST M l e F h) (q : l.contains b = false) (hb : b < 520) : zK h b = 0 := by rw [S.1 b hb, q, if_neg (fun z => by cases z)]
theorem ST.kd (S : ST M l e F h) (q : l.contains b = true) (hb : b < 520) : zK h b = cK b := by rw [S.1 b hb, if_pos q]
theorem ST.rf (S : ST M l e F h) (q : e.contains (a, k) = true) : zR h a k = cR a k := (S.2.2.1 a k q).2
theorem ST.ln (S : ST M l e F h) (q : l.contains b = true) (hb : b < 300) (h4 : b ≠ 4) : zN h b = cN b := by rw [S.2.1 b hb h4, if_pos q]
theorem ST.zr {g : Nat} (S : ST M l e F h) (q : ∀ j, j < n → l.contains (g + j) = false) (hb : g + n ≤ 520) {j : Nat} (hj : j < n) : zK h (g + j) = 0 := S.zz (q j hj) (by omega)
theorem cons_c {x y : Nat} {l : List Nat} : (x :: l).contains y = true ↔ y = x ∨ l.contains y = true := by
  rw [List.contains_cons, Bool.or_eq_true, beq_iff_eq]
theorem cons_e {x y : Nat × Nat} {l : List (Nat × Nat)} : (x :: l).contains y = true ↔ y = x ∨ l.contains y = true := by
  rw [List.contains_cons, Bool.or_eq_true, beq_iff_eq]
theorem cons_if {x y : Nat} {l : List Nat} {A B : Nat} : (if (x :: l).contains y = true then A else B) = if y = x then A else if l.contains y = true then A else B := by
  by_cases c : y = x
  · rw [if_pos (cons_c.mpr (Or.inl c)), if_pos c]
  · by_cases d : l.contains y = true
    · rw [if_pos (cons_c.mpr (Or.inr d)), if_neg c, if_pos d]
    · rw [if_neg (fun z => (cons_c.mp z).elim c d), if_neg c, if_neg d]
theorem ST.mk (S : ST M l e F h) (q : l.contains a = false) (hk : cK a = k) (hn : cN a = n) (h4 : a ≠ 4) (hF : ∀ j, F a j = 0) : ST M (a :: l) e F (zmk h a k n) := by
  have nq : ¬ l.contains a = true := by rw [q]; exact fun z => by cases z
  refine ⟨fun b hb => ?_, fun b hb b4 => ?_, fun x y hx => ?_, fun b hb j => ?_, (if_neg (fun z => h4 z.symm)).trans S.2.2.2.2⟩
  · rw [cons_if]
    show (if b = a then k else zK h b) = _
    by_cases c : b = a
    · rw [if_pos c, if_pos c, c, hk]
    · rw [if_neg c, if_neg c]; exact S.1 b hb
  · rw [cons_if]
    show (if b = a then n else zN h b) = _
    by_cases c : b = a
    · rw [if_pos c, if_pos c, c, hn]
    · rw [if_neg c, if_neg c]; exact S.2.1 b hb b4
  · obtain ⟨h1, h2⟩ := S.2.2.1 x y hx
    refine ⟨cons_c.mpr (Or.inr h1), ?_⟩
    show (if x = a then 0 else zR h x y) = _
    rw [if_neg (fun z => nq (by rw [← z]; exact h1))]
    exact h2
  · show (if b = a then 0 else zI h b j) = F b j
    by_cases c : b = a
    · rw [if_pos c, c, hF]
    · rw [if_neg c]; exact S.2.2.2.1 b ((cons_c.mp hb).resolve_left c) j
theorem ST.sR (S : ST M l e F h) (q : l.contains a = true) (hr : cR a k = v) : ST M l ((a, k) :: e) F (zsR h a k v) := by
  refine ⟨S.1, S.2.1, fun x y hx => ?_, S.2.2.2.1, S.2.2.2.2⟩
  show l.contains x = true ∧ (if x = a ∧ y = k then v else zR h x y) = cR x y
  rcases cons_e.mp hx with z | z
  · have z1 : x = a := congrArg Prod.fst z
    have z2 : y = k := congrArg Prod.snd z
    rw [if_pos ⟨z1, z2⟩, z1, z2, hr]
    exact ⟨q, rfl⟩
  · obtain ⟨h1, h2⟩ := S.2.2.1 x y z
    refine ⟨h1, ?_⟩
    by_cases c : x = a ∧ y = k
    · rw [if_pos c, c.1, c.2, hr]
    · rw [if_neg c]; exact h2
theorem rng_c {g n y : Nat} {l : List Nat} : (List.range' g n ++ l).contains y = true ↔ (g ≤ y ∧ y < g + n) ∨ l.contains y = true := by
  rw [List.contains_iff_mem, List.contains_iff_mem, List.mem_append, List.mem_range'_1]
theorem map_c {a n x y : Nat} {l : List (Nat × Nat)} : ((List.range n).map (fun j => (a, j)) ++ l).contains (x, y) = true ↔ (x = a ∧ y < n) ∨ l.contains (x, y) = true := by
  rw [List.contains_iff_mem, List.contains_iff_mem, List.mem_append, List.mem_map]
  constructor
  · rintro (⟨j, h1, h2⟩ | q)
    · left
      have z1 : a = x := congrArg Prod.fst h2
      have z2 : j = y := congrArg Prod.snd h2
      exact ⟨z1.symm, by rw [← z2]; exact List.mem_range.mp h1⟩
    · exact Or.inr q
  · rintro (⟨h1, h2⟩ | q)
    · exact Or.inl ⟨y, List.mem_range.mpr h2, by rw [h1]⟩
    · exact Or.inr q
theorem ST.mM {ko g ki m : Nat} (S : ST M l e F h) (q : l.contains a = false) (hk : cK a = ko ∧ cN a = n) (hg : ∀ j, j < n → l.contains (g + j) = false ∧ cK (g + j) = ki ∧ cN (g + j) = m ∧ cR a j = g + j) (hag : (a < g ∨ g + n ≤ a) ∧ a ≠ 4 ∧ 5 ≤ g) (hF : ∀ j, F a j = 0) (hF2 : ∀ b, g ≤ b → b < g + n → ∀ j, F b j = 0) :
    ST M (a :: (List.range' g n ++ l)) ((List.range n).map (fun j => (a, j)) ++ e) F (zmM h a ko n g ki m) := by
  have nq : ¬ l.contains a = true := by rw [q]; exact fun z => by cases z
  refine ⟨fun b hb => ?_, fun b hb b4 => ?_, fun x y hx => ?_, fun b hb j => ?_, by rw [zN_mM, if_neg (by omega), if_neg (by omega)]; exact S.2.2.2.2⟩
  · rw [cons_if, zK_mM]
    by_cases c : b = a
    · rw [if_pos c, if_pos c, c, hk.1]
    · rw [if_neg c, if_neg c]
      by_cases d : g ≤ b ∧ b < g + n
      · rw [if_pos d, if_pos (rng_c.mpr (Or.inl d))]
        have := (hg (b - g) (by omega)).2.1
        rw [show g + (b - g) = b by omega] at this
        exact this.symm
      · rw [if_neg d, S.1 b hb]
        by_cases f : l.contains b = true
        · rw [if_pos f, if_pos (rng_c.mpr (Or.inr f))]
        · rw [if_neg f, if_neg (fun z => (rng_c.mp z).elim d f)]
  · rw [cons_if, zN_mM]
    by_cases c : b = a
    · rw [if_pos c, if_pos c, c, hk.2]
    · rw [if_neg c, if_neg c]
      by_cases d : g ≤ b ∧ b < g + n
      · rw [if_pos d, if_pos (rng_c.mpr (Or.inl d))]
        have := (hg (b - g) (by omega)).2.2.1
        rw [show g + (b - g) = b by omega] at this
        exact this.symm
      · rw [if_neg d, S.2.1 b hb b4]
        by_cases f : l.contains b = true
        · rw [if_pos f, if_pos (rng_c.mpr (Or.inr f))]
        · rw [if_neg f, if_neg (fun z => (rng_c.mp z).elim d f)]
  · rw [zR_mM]
    rcases map_c.mp hx with ⟨z1, z2⟩ | z
    · refine ⟨cons_c.mpr (Or.inl z1), ?_⟩
      rw [if_pos z1, if_pos z2, z1, (hg y z2).2.2.2]
    · obtain ⟨h1, h2⟩ := S.2.2.1 x y z
      refine ⟨cons_c.mpr (Or.inr (rng_c.mpr (Or.inr h1))), ?_⟩
      have na : x ≠ a := fun w => nq (by rw [← w]; exact h1)
      have ng : ¬ (g ≤ x ∧ x < g + n) := fun w => by
        have := (hg (x - g) (by omega)).1
        rw [show g + (x - g) = x by omega, h1] at this
        cases this
      rw [if_neg na, if_neg ng]
      exact h2
  · rw [zI_mM]
    by_cases c : b = a
    · rw [if_pos (Or.inl c), c, hF]
    · by_cases d : g ≤ b ∧ b < g + n
      · rw [if_pos (Or.inr d), hF2 b d.1 d.2]
      · rw [if_neg (fun z => z.elim c d)]
        exact S.2.2.2.1 b ((rng_c.mp ((cons_c.mp hb).resolve_left c)).resolve_left d) j
theorem ST.re (S : ST M l e F h) (kk : zK H = zK h) (kn : zN H = zN h) (kr : zR H = zR h) (E : ∀ b, l.contains b = true → ∀ j, zI H b j = G b j) : ST M l e G H := ⟨fun b hb => by rw [kk]; exact S.1 b hb, fun b hb b4 => by rw [kn]; exact S.2.1 b hb b4, fun x y hx => by rw [kr]; exact S.2.2.1 x y hx, E, by rw [kn]; exact S.2.2.2.2⟩
end BUILD
/-- what the cells hold before any call -/
def Fz0 (f : Nat → Nat → Int32) : Nat → Nat → Int32 := fun b j => if b < 5 then f b j else 0
theorem Fz0_0 {f : Nat → Nat → Int32} {b : Nat} (h : 5 ≤ b) (j : Nat) : Fz0 f b j = 0 := if_neg (by omega)
def Fz1 (f : Nat → Nat → Int32) : Nat → Nat → Int32 := fun b j => if 90 ≤ b ∧ b ≤ 92 ∧ j < 5 then 100 else Fz0 f b j
theorem Fz1_0 {f : Nat → Nat → Int32} {b : Nat} (h : 5 ≤ b) (h2 : b < 90 ∨ 92 < b) (j : Nat) : Fz1 f b j = 0 := by
  unfold Fz1
  rw [if_neg (by omega), Fz0_0 h]
