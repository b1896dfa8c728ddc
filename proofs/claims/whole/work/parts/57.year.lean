/-! a man's year: his age, his years, whether he is pensioned by it -/
def yAge (a s : Int32) : Int32 := if s = 4 then a else if 70 < a + 1 then 70 else a + 1
def yYrs (y s : Int32) : Int32 := if s = 0 then (if 50 < y + 1 then 50 else y + 1) else y
abbrev yPen (a s p : Int32) : Prop := ¬ s = 4 ∧ ¬ s = 2 ∧ p ≤ yAge a s
theorem i_of_rg {v : Int32} {n : Nat} (hv : rg v 0 n) : ∃ a : Nat, a ≤ n ∧ v = nI a := by
  obtain ⟨j, h1, e⟩ := nI_of (x := v) (Int32.not_lt.mpr (by rw [Int32.le_iff_toInt_le]; exact hv.1))
  refine ⟨j, ?_, e⟩
  have := hv.2
  rw [e, nI_toInt h1] at this
  omega
theorem rg_mono {v : Int32} {a b a' b' : Int} (hv : rg v a b) (h1 : a' ≤ a) (h2 : b ≤ b') : rg v a' b' := ⟨by have := hv.1; omega, by have := hv.2; omega⟩
theorem yAge_eq {a : Int32} (ha : rg a 14 70) : (if 70 < a + 1 then (70 : Int32) else a + 1) = (if 70 ≤ a then 70 else a + 1) ∧ rg (if 70 < a + 1 then (70 : Int32) else a + 1) 14 70 := by
  obtain ⟨n, hn, rfl⟩ := i_of_rg (n := 70) (rg_mono ha (by omega) (by omega))
  have h14 : 14 ≤ n := by
    have := ha.1
    rw [nI_toInt (by omega)] at this
    omega
  have : ∀ n, n ≤ 70 → 14 ≤ n → (if 70 < nI n + 1 then (70 : Int32) else nI n + 1) = (if 70 ≤ nI n then 70 else nI n + 1) ∧ 14 ≤ (if 70 < nI n + 1 then (70 : Int32) else nI n + 1).toInt ∧ (if 70 < nI n + 1 then (70 : Int32) else nI n + 1).toInt ≤ 70 := by decide +kernel
  exact this n hn h14
theorem yYrs_eq {y : Int32} (hy : rg y 0 50) : (if 50 < y + 1 then (50 : Int32) else y + 1) = y + (if 50 ≤ y then 0 else 1) ∧ rg (if 50 < y + 1 then (50 : Int32) else y + 1) 0 50 := by
  obtain ⟨n, hn, rfl⟩ := i_of_rg hy
  have : ∀ n, n ≤ 50 → (if 50 < nI n + 1 then (50 : Int32) else nI n + 1) = nI n + (if 50 ≤ nI n then 0 else 1) ∧ 0 ≤ (if 50 < nI n + 1 then (50 : Int32) else nI n + 1).toInt ∧ (if 50 < nI n + 1 then (50 : Int32) else nI n + 1).toInt ≤ 50 := by decide +kernel
  exact this n hn
/-- what a year does to one man's cells: A his object (class), or the model's arrays -/
def yObj (H H' : ZH) (A : Nat) (p v : Int32) : Prop :=
  zK H' = zK H ∧ zN H' = zN H ∧ zR H' = zR H ∧ (∀ a j, a ≠ A → zI H' a j = zI H a j) ∧ zI H' A 0 = yAge (zI H A 0) (zI H A 6) ∧ zI H' A 1 = zI H A 1 ∧ zI H' A 2 = yYrs (zI H A 2) (zI H A 6) ∧ zI H' A 3 = zI H A 3 ∧ zI H' A 5 = zI H A 5 ∧
  zI H' A 4 = (if yPen (zI H A 0) (zI H A 6) p then -6 else zI H A 4) ∧ zI H' A 6 = (if yPen (zI H A 0) (zI H A 6) p then 2 else zI H A 6) ∧ v = zb (yPen (zI H A 0) (zI H A 6) p)
theorem s_grow {H : ZH} {ψ : Int32 → ZH → Prop} {A : Nat} {p : Int32} (hK : zK H A = 2) (k : ∀ v H', yObj H H' A p v → ψ v H') : ZcI mX1_growOlder [.ref A, .int p] H ψ := by
  refine wX1_growOlder ⟨hK, fun c4 => ?_, fun c4 => ?_⟩
  rotate_left
  · refine k 0 H ⟨rfl, rfl, rfl, fun _ _ _ => rfl, ?_, rfl, ?_, rfl, rfl, ?_, ?_, ?_⟩
    · unfold yAge; rw [if_pos c4]
    · unfold yYrs; rw [if_neg (by rw [c4]; decide)]
    · rw [if_neg (fun q => q.1 c4)]
    · rw [if_neg (fun q => q.1 c4)]
    · exact (zb_f (fun q => q.1 c4)).symm
  intro h2 e2
  have eA : yAge (zI H A 0) (zI H A 6) = if 70 < zI H A 0 + 1 then 70 else zI H A 0 + 1 := by unfold yAge; rw [if_neg c4]
  have f6 : zI h2 A 6 = zI H A 6 := by rw [e2, zI_sIj (by decide)]
  have f0 : zI h2 A 0 = yAge (zI H A 0) (zI H A 6) := by rw [e2, zI_sIs, eA]
  have f2 : zI h2 A 2 = zI H A 2 := by rw [e2, zI_sIj (by decide)]
  have kK : zK h2 = zK H := by rw [e2, zK_sI]
  refine ⟨by rw [kK]; exact hK, ?_⟩
  -- behind the years: the same end for both roads
  have fin : ∀ h6 : ZH, zK h6 = zK H → zN h6 = zN H → zR h6 = zR H → (∀ a j, a ≠ A → zI h6 a j = zI H a j) → zI h6 A 0 = yAge (zI H A 0) (zI H A 6) → zI h6 A 1 = zI H A 1 → zI h6 A 2 = yYrs (zI H A 2) (zI H A 6) → zI h6 A 3 = zI H A 3 → zI h6 A 4 = zI H A 4 → zI h6 A 5 = zI H A 5 → zI h6 A 6 = zI H A 6 →
      (((zI h6 A 6) = 2 → ψ 0 h6) ∧ (¬ (zI h6 A 6) = 2 → ((p ≤ (zI h6 A 0) → ZcV mX1_quit [.ref A, .int 2] h6 (fun h5 => ψ 1 h5)) ∧ (¬ p ≤ (zI h6 A 0) → ψ 0 h6)))) := by
    intro h6 a1 a2 a3 a4 a5 a6 a7 a8 a9 a10 a11
    rw [a11, a5]
    refine ⟨fun z => k 0 h6 ⟨a1, a2, a3, a4, a5, a6, a7, a8, a10, ?_, ?_, ?_⟩, fun z => ⟨fun y => wX1_quit ⟨by rw [a1]; exact hK, ?_⟩, fun y => k 0 h6 ⟨a1, a2, a3, a4, a5, a6, a7, a8, a10, ?_, ?_, ?_⟩⟩⟩
    · rw [if_neg (fun q => q.2.1 z), a9]
    · rw [if_neg (fun q => q.2.1 z), a11]
    · exact (zb_f (fun q => q.2.1 z)).symm
    · refine k 1 _ ⟨?_, ?_, ?_, fun a j q => ?_, ?_, ?_, ?_, ?_, ?_, ?_, ?_, ?_⟩
      · rw [zK_sI, zK_sI, a1]
      · rw [zN_sI, zN_sI, a2]
      · rw [zR_sI, zR_sI, a3]
      · rw [zI_sIa q, zI_sIa q, a4 a j q]
      · rw [zI_sIj (by decide), zI_sIj (by decide), a5]
      · rw [zI_sIj (by decide), zI_sIj (by decide), a6]
      · rw [zI_sIj (by decide), zI_sIj (by decide), a7]
      · rw [zI_sIj (by decide), zI_sIj (by decide), a8]
      · rw [zI_sIj (by decide), zI_sIj (by decide), a10]
      · rw [zI_sIs, if_pos ⟨c4, z, y⟩]
      · rw [zI_sIj (by decide), zI_sIs, if_pos ⟨c4, z, y⟩]
      · exact (zb_t ⟨c4, z, y⟩).symm
    · rw [if_neg (fun q => y q.2.2), a9]
    · rw [if_neg (fun q => y q.2.2), a11]
    · exact (zb_f (fun q => y q.2.2)).symm
  refine ⟨fun z => ?_, fun z => ?_⟩
  · refine fin h2 kK (by rw [e2, zN_sI]) (by rw [e2, zR_sI]) (fun a j q => by rw [e2, zI_sIa q]) f0 (by rw [e2, zI_sIj (by decide)]) ?_ (by rw [e2, zI_sIj (by decide)]) (by rw [e2, zI_sIj (by decide)]) (by rw [e2, zI_sIj (by decide)]) f6
    have hz0 : ¬ zI H A 6 = 0 := by rw [← f6]; exact z
    rw [f2]; unfold yYrs; rw [if_neg hz0]
  · intro h6 e6
    rw [f2] at e6
    refine ⟨by rw [e6, zK_sI, kK]; exact hK, ?_⟩
    refine fin h6 (by rw [e6, zK_sI, kK]) (by rw [e6, zN_sI, e2, zN_sI]) (by rw [e6, zR_sI, e2, zR_sI]) (fun a j q => by rw [e6, zI_sIa q, e2, zI_sIa q]) (by rw [e6, zI_sIj (by decide)]; exact f0) (by rw [e6, zI_sIj (by decide), e2, zI_sIj (by decide)]) ?_ (by rw [e6, zI_sIj (by decide), e2, zI_sIj (by decide)]) (by rw [e6, zI_sIj (by decide), e2, zI_sIj (by decide)]) (by rw [e6, zI_sIj (by decide), e2, zI_sIj (by decide)]) (by rw [e6, zI_sIj (by decide)]; exact f6)
    have hz0 : zI H A 6 = 0 := by rw [← f6]; exact z
    rw [e6, zI_sIs]; unfold yYrs; rw [if_pos hz0]
section YEAR
variable {h : ZH} {i L : Nat} {xs : Nat → Int32}
def fYr (h : ZH) : Nat → Int32 → Int32 := fun m a => if yPen (zI h 211 m) (zI h 217 m) (zI h 219 0) then a + 1 else a
/-- the class's men, k of them a year older -/
def yX (h H : ZH) (k : Nat) : Prop := zK H = zK h ∧ zN H = zN h ∧ zR H = zR h ∧ (∀ a j, ¬ (400 ≤ a ∧ a < 400 + k) → zI H a j = zI h a j) ∧ ∀ m, m < k →
  zI H (400 + m) 0 = yAge (zI h 211 m) (zI h 217 m) ∧ zI H (400 + m) 1 = zI h 212 m ∧ zI H (400 + m) 2 = yYrs (zI h 213 m) (zI h 217 m) ∧ zI H (400 + m) 3 = zI h 214 m ∧ zI H (400 + m) 4 = (if yPen (zI h 211 m) (zI h 217 m) (zI h 219 0) then -6 else zI h 215 m) ∧ zI H (400 + m) 5 = zI h 216 m ∧ zI H (400 + m) 6 = (if yPen (zI h 211 m) (zI h 217 m) (zI h 219 0) then 2 else zI h 217 m)
theorem s_X10_year {ψ : Int32 → ZH → Prop} {np nm nh : Nat} (S : Sh h np nm nh) (c : zI h 10 13 = nI nm) (hn : nm ≤ 24) (M : JM h np nm) (St : JS h) (q : ∀ H, yX h H nm → ψ (fold (fYr h) nm) H) : ZcI mX10_year [.ref 10] h ψ := by
  refine wX10_year ?_
  refine down (I := fun k => ∀ H, yX h H k → Zt mX10_year (zPI ψ) 0 0 4 [some (.ref 10), some (.int (fold (fYr h) k)), some (.int (nI k))] [] H) (n := nm) (fun H Y => ?_) (fun m hm ih H Y => ?_) h ⟨rfl, rfl, rfl, fun _ _ _ => rfl, fun m hm => absurd hm (by omega)⟩
  · refine wX10_year_4 ⟨by rw [Y.1]; exact (shX S).1, fun _ => q H Y, fun z => absurd ?_ z⟩
    rw [Y.2.2.2.1 10 13 (by omega), c]
    exact Int32.le_refl _
  · obtain ⟨y1, y2, y3, y4, y5⟩ := id Y
    have S' : Sh H np nm nh := S.same y1 y2 y3
    have e1 := nI_clamp (n := m) (by omega)
    have v1 : vp_in (nI m) 24 := vp_in_nI (by omega) (by omega)
    have hm1 := shMan S' hm
    have Mm := M m hm
    have c' : zI H 10 13 = nI nm := by rw [y4 10 13 (by omega)]; exact c
    have p' : zI H 23 0 = zI h 219 0 := by rw [y4 23 0 (by omega)]; exact (St 0 (by omega)).1
    have o : ∀ j, zI H (400 + m) j = zI h (400 + m) j := fun j => y4 _ j (by omega)
    refine wX10_year_4 ?_
    simp only [shX S', c', hm1, e1, v1, p', ne_eq, nI_1]
    refine ⟨trivial, Bf (cnt_le (by omega) hm) ⟨by decide, trivial, trivial, by omega, by decide, trivial, by decide, trivial, s_grow hm1.2 ?_⟩⟩
    intro v H' ⟨g1, g2, g3, g4, g5, g6, g7, g8, g9, g10, g11, g12⟩
    rw [o 0, o 6, Mm.1, Mm.2.2.2.2.2.2.1] at g5 g10 g11 g12
    rw [o 2, o 6, Mm.2.2.1, Mm.2.2.2.2.2.2.1] at g7
    rw [o 1, Mm.2.1] at g6
    rw [o 3, Mm.2.2.2.1] at g8
    rw [o 5, Mm.2.2.2.2.2.1] at g9
    rw [o 4, Mm.2.2.2.2.1] at g10
    have Y' : yX h H' (m + 1) := by
      refine ⟨g1.trans y1, g2.trans y2, g3.trans y3, fun a j z => by rw [g4 a j (by omega)]; exact y4 a j (by omega), fun m' hm' => ?_⟩
      by_cases e : m' = m
      · subst e
        exact ⟨g5, g6, g7, g8, g10, g9, g11⟩
      · rw [g4 _ 0 (by omega), g4 _ 1 (by omega), g4 _ 2 (by omega), g4 _ 3 (by omega), g4 _ 4 (by omega), g4 _ 5 (by omega), g4 _ 6 (by omega)]
        exact y5 m' (by omega)
    have ef : fold (fYr h) (m + 1) = if yPen (zI h 211 m) (zI h 217 m) (zI h 219 0) then fold (fYr h) m + 1 else fold (fYr h) m := rfl
    have ih' := ih H' Y'
    rw [ef] at ih'
    rw [g12]
    refine ⟨fun z => ?_, fun z => ?_⟩
    · rw [if_neg (zb_eq0.mp z)] at ih'; exact ih'
    · rw [if_pos (Classical.not_not.mp (fun x => z (zb_eq0.mpr x)))] at ih'; exact ih'
end YEAR
