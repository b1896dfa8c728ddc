/-! the pile on which rules are worked -/
def clm (v : Int64) : Int32 := Int64.toInt32 (if (if v < 1000000 then v else 1000000) < (-1000000) then (-1000000) else (if v < 1000000 then v else 1000000))
def act (c : Int32) (a b : Int64) : Int64 :=
  if c = 38 then (if a ≠ 0 ∧ b ≠ 0 then 1 else 0) else if c = 42 then a * b else if c = 43 then a + b else if c = 45 then a - b else
  if c = 60 then (if a < b then 1 else 0) else if c = 61 then (if a = b then 1 else 0) else if c = 62 then (if b < a then 1 else 0) else (if a ≠ 0 ∨ b ≠ 0 then 1 else 0)
def pset (p : Nat → Int32) (m : Nat) (v : Int32) : Nat → Int32 := fun j => if j = m then v else p j
theorem lgc_eq (a b : Int64) : lg_cmp a b = 0 ↔ a = b := by
  unfold lg_cmp
  by_cases h1 : a > b
  · rw [if_pos h1]
    have : ¬ a = b := fun e => by subst e; exact Int64.lt_irrefl h1
    simp [this]
  · rw [if_neg h1]
    by_cases h2 : a = b
    · rw [if_pos h2]; simp [h2]
    · rw [if_neg h2]; simp [h2]
theorem lgc_ge (a b : Int64) : 0 ≤ lg_cmp a b ↔ ¬ a < b := by rw [← Int32.not_lt, lgc_lt]
theorem lgc_le (a b : Int64) : lg_cmp a b ≤ 0 ↔ ¬ b < a := by rw [← Int32.not_lt, lgc_gt]
theorem clm_1 {v : Int64} (h1 : ¬ (1000000 : Int64) < v) (h2 : ¬ v < -1000000) : clm v = v.toInt32 := by
  unfold clm
  by_cases e : v < 1000000
  · rw [if_pos e, if_neg h2]
  · have : v = 1000000 := by
      rw [Int64.lt_iff_toInt_lt] at h1 e
      exact Int64.toInt_inj.mp (by omega)
    subst this
    decide
theorem clm_2 {v : Int64} (h2 : v < -1000000) : clm v = -1000000 := by
  unfold clm
  have e : v < 1000000 := Int64.lt_of_lt_of_le h2 (by decide)
  rw [if_pos e, if_pos h2]
  decide
theorem clm_3 {v : Int64} (h1 : (1000000 : Int64) < v) : clm v = 1000000 := by
  unfold clm
  have e : ¬ v < 1000000 := fun q => Int64.lt_irrefl (Int64.lt_trans q h1)
  rw [if_neg e]
  decide
section PILE
variable {h H : ZH} {p : Nat → Int32} {m : Nat}
/-- only the class's pile has changed -/
def SC (h H : ZH) : Prop := zK H = zK h ∧ zN H = zN h ∧ zR H = zR h ∧ zL H = zL h ∧ ∀ a j, ¬ (33 ≤ a ∧ a ≤ 34) → zI H a j = zI h a j
/-- only the model's pile has changed -/
def SM (h H : ZH) : Prop := zK H = zK h ∧ zN H = zN h ∧ zR H = zR h ∧ zL H = zL h ∧ ∀ a j, ¬ (a = 222 ∨ (a = 200 ∧ j = 22)) → zI H a j = zI h a j
def kPi (h : ZH) : Prop := zK h 33 = 4 ∧ zR h 33 0 = 34 ∧ zK h 34 = 20 ∧ zN h 34 = 5
def kPm (h : ZH) : Prop := zK h 200 = 12 ∧ zR h 200 21 = 222 ∧ zK h 222 = 20 ∧ zN h 222 = 6
def PC (h H : ZH) (p : Nat → Int32) (m : Nat) : Prop := SC h H ∧ kPi H ∧ zI H 33 1 = nI m ∧ ∀ j, j < m → zI H 34 j = p j
def PM (h H : ZH) (p : Nat → Int32) (m : Nat) : Prop := SM h H ∧ kPm H ∧ zI H 200 22 = nI m ∧ ∀ j, j < m → zI H 222 j = p j
theorem s_X3_lay {ψ : ZH → Prop} {v : Int64} (P : PC h H p m) (hm : m < 5) (k : ∀ H', PC h H' (pset p m (clm v)) (m + 1) → ψ H') : ZcV mX3_lay [.ref 33, .long v] H ψ := by
  obtain ⟨⟨s1, s2, s3, s4, s5⟩, ⟨k1, k2, k3, k4⟩, c, g⟩ := P
  refine wX3_lay ⟨k1, fun q => absurd q ?_, fun _ => ?_⟩
  · rw [c]; exact cnt_le (n := 5) (by omega) hm
  · rw [k2, k3, k4, c]
    refine ⟨by decide, rfl, vp_in_nI hm (by omega), fun h5 e => ⟨by rw [e, zK_sI]; exact k1, k _ ?_⟩⟩
    rw [nI_clamp (by omega)] at e
    subst e
    refine ⟨⟨s1, s2, s3, s4, fun a j q => ?_⟩, ⟨k1, k2, k3, k4⟩, ?_, fun j hj => ?_⟩
    · rw [zI_sIa (by omega), zI_sIa (by omega)]; exact s5 a j q
    · rw [zI_sIs, zI_sIa (by decide), c, nI_1]
    · rw [zI_sIa (by decide)]
      unfold pset
      by_cases e : j = m
      · subst e; rw [zI_sIs, if_pos rfl]; rfl
      · rw [zI_sIj e, if_neg e]; exact g j (by omega)
theorem s_X3_take {ψ : Int32 → ZH → Prop} (P : PC h H p (m + 1)) (hm : m < 5) (k : ∀ H', PC h H' p m → ψ (p m) H') : ZcI mX3_take [.ref 33] H ψ := by
  obtain ⟨⟨s1, s2, s3, s4, s5⟩, ⟨k1, k2, k3, k4⟩, c, g⟩ := P
  refine wX3_take ⟨k1, fun _ => ?_, fun q => absurd ?_ q⟩
  · rw [k2, c]
    refine ⟨by decide, fun h3 e => ?_⟩
    rw [nI_pred] at e
    have c3 : zI h3 33 1 = nI m := by rw [e, zI_sIs]
    have g3 : ∀ j, j < m + 1 → zI h3 34 j = p j := fun j hj => by rw [e, zI_sIa (by decide)]; exact g j hj
    have K3 : zK h3 = zK H := by rw [e, zK_sI]
    have N3 : zN h3 = zN H := by rw [e, zN_sI]
    have R3 : zR h3 = zR H := by rw [e, zR_sI]
    have L3 : zL h3 = zL H := by rw [e]; rfl
    have E3 : ∀ a j, a ≠ 33 → zI h3 a j = zI H a j := fun a j q => by rw [e, zI_sIa q]
    rw [K3, N3, c3, k4, nI_clamp (by omega), g3 m (by omega)]
    refine ⟨k1, k3, vp_in_nI hm (by omega), k _ ⟨⟨K3.trans s1, N3.trans s2, R3.trans s3, L3.trans s4, fun a j q => ?_⟩, ⟨by rw [K3]; exact k1, by rw [R3]; exact k2, by rw [K3]; exact k3, by rw [N3]; exact k4⟩, c3, fun j hj => g3 j (by omega)⟩⟩
    rw [E3 a j (by omega)]; exact s5 a j q
  · rw [c]; exact nI_lt (a := 0) (by omega) (by omega)
set_option maxHeartbeats 1000000 in
theorem s_X3_joined {ψ : Int64 → ZH → Prop} {c : Int32} (P : PC h H p (m + 2)) (hm : m + 2 ≤ 5) (k : ∀ H', PC h H' p m → ψ (act c (p m).toInt64 (p (m + 1)).toInt64) H') : ZcL mX3_joined [.ref 33, .int c] H ψ := by
  refine wX3_joined ⟨P.2.1.1, s_X3_take P (by omega) (fun H1 P1 => ⟨P1.2.1.1, s_X3_take P1 (by omega) (fun H2 P2 => ?_)⟩)⟩
  have k2 := k H2 P2
  revert k2
  generalize (p m).toInt64 = a
  generalize (p (m + 1)).toInt64 = b
  intro k2
  have o0 : act c a b = 0 → ZcI mX10_asOne [.int 0] H2 (fun x15 h14 => ψ (Int32.toInt64 x15) h14) := fun e => s_X10_asOne (Or.inl rfl) (by rw [e] at k2; exact k2)
  have o1 : act c a b = 1 → ZcI mX10_asOne [.int 1] H2 (fun x15 h14 => ψ (Int32.toInt64 x15) h14) := fun e => s_X10_asOne (Or.inr rfl) (by rw [e] at k2; exact k2)
  simp only [lgc_eq, lgc_ge, lgc_le]
  refine ⟨fun e => ?_, fun e => ?_, fun e => ?_, fun e => ?_, fun e => ?_, fun e => ?_, fun e => ?_, fun n1 n2 n3 n4 n5 n6 n7 => ?_⟩
  · subst e
    refine ⟨fun z => o0 ?_, fun z => ⟨fun y => o0 ?_, fun y => o1 ?_⟩⟩
    · unfold act; rw [if_pos rfl, if_neg (fun q => q.1 z)]
    · unfold act; rw [if_pos rfl, if_neg (fun q => q.2 y)]
    · unfold act; rw [if_pos rfl, if_pos ⟨z, y⟩]
  · subst e; exact k2
  · subst e; exact k2
  · subst e; exact k2
  · subst e
    refine ⟨fun z => o0 ?_, fun z => o1 ?_⟩
    · show (if a < b then (1 : Int64) else 0) = 0
      rw [if_neg z]
    · show (if a < b then (1 : Int64) else 0) = 1
      rw [if_pos (Classical.not_not.mp z)]
  · subst e
    refine ⟨fun z => o0 ?_, fun z => o1 ?_⟩
    · show (if a = b then (1 : Int64) else 0) = 0
      rw [if_neg z]
    · show (if a = b then (1 : Int64) else 0) = 1
      rw [if_pos z]
  · subst e
    refine ⟨fun z => o0 ?_, fun z => o1 ?_⟩
    · show (if b < a then (1 : Int64) else 0) = 0
      rw [if_neg z]
    · show (if b < a then (1 : Int64) else 0) = 1
      rw [if_pos (Classical.not_not.mp z)]
  · have e : act c a b = if a ≠ 0 ∨ b ≠ 0 then 1 else 0 := by unfold act; rw [if_neg n1, if_neg n2, if_neg n3, if_neg n4, if_neg n5, if_neg n6, if_neg n7]
    refine ⟨fun z => o1 ?_, fun z => ⟨fun y => o0 ?_, fun y => o1 ?_⟩⟩
    · rw [e, if_pos (Or.inl z)]
    · rw [e, if_neg (fun q => q.elim (fun x => x z) (fun x => x y))]
    · rw [e, if_pos (Or.inr y)]
theorem s_X11_lay {ψ : ZH → Prop} {v : Int64} (P : PM h H p m) (hm : m < 5) (k : ∀ H', PM h H' (pset p m (clm v)) (m + 1) → ψ H') : ZcV mX11_lay [.ref 200, .long v] H ψ := by
  obtain ⟨⟨s1, s2, s3, s4, s5⟩, ⟨k1, k2, k3, k4⟩, c, g⟩ := P
  have go : ∀ w, w = clm v → ((zK H (zR H 200 21) = 20) ∧ (vp_in (zI H 200 22) (zN H (zR H 200 21))) ∧ ∀ h5 : ZH, h5 = (zsI H (zR H 200 21) (Int32.toNatClampNeg (zI H 200 22)) w) → (zK h5 200 = 12) ∧ ψ (zsI h5 200 22 ((zI h5 200 22) + 1))) := fun w ew => by
    rw [k2, c, k4, nI_clamp (by omega)]
    refine ⟨k3, vp_in_nI (by omega) (by omega), fun h5 e => ⟨by rw [e, zK_sI]; exact k1, k _ ?_⟩⟩
    subst e
    refine ⟨⟨s1, s2, s3, s4, fun a j q => ?_⟩, ⟨k1, k2, k3, k4⟩, ?_, fun j hj => ?_⟩
    · rw [zI_sIn (by omega), zI_sIa (by omega)]; exact s5 a j q
    · rw [zI_sIs, zI_sIa (by decide), c, nI_1]
    · rw [zI_sIa (by decide)]
      unfold pset
      by_cases e : j = m
      · subst e; rw [zI_sIs, if_pos rfl, ew]
      · rw [zI_sIj e, if_neg e]; exact g j (by omega)
  refine wX11_lay ?_
  simp only [lgc_ge, lgc_le]
  refine ⟨k1, by rw [k2]; decide, fun q => ⟨fun z => go _ (clm_1 q z).symm, fun z => go _ (clm_2 (Classical.not_not.mp z)).symm⟩, fun q => go _ (clm_3 (Classical.not_not.mp q)).symm⟩
theorem s_X11_actOn {ψ : Int64 → ZH → Prop} {c : Int32} {a b : Int64} (k : ψ (act c a b) h) : ZcL mX11_actOn [.int c, .long a, .long b] h ψ := by
  have o0 : act c a b = 0 → ψ 0 h := fun e => by rw [e] at k; exact k
  have o1 : act c a b = 1 → ψ 1 h := fun e => by rw [e] at k; exact k
  refine wX11_actOn ?_
  simp only [lgc_eq, lgc_ge, lgc_le]
  refine ⟨fun e => ?_, fun e => ?_, fun e => ?_, fun e => ?_, fun e => ?_, fun e => ?_, fun e => ?_, fun n1 n2 n3 n4 n5 n6 n7 => ?_⟩
  · subst e
    refine ⟨fun z => o0 ?_, fun z => ⟨fun y => o0 ?_, fun y => o1 ?_⟩⟩
    · unfold act; rw [if_pos rfl, if_neg (fun q => q.1 z)]
    · unfold act; rw [if_pos rfl, if_neg (fun q => q.2 y)]
    · unfold act; rw [if_pos rfl, if_pos ⟨z, y⟩]
  · subst e; exact k
  · subst e; exact k
  · subst e; exact k
  · subst e
    refine ⟨fun z => o0 ?_, fun z => o1 ?_⟩
    · show (if a < b then (1 : Int64) else 0) = 0
      rw [if_neg z]
    · show (if a < b then (1 : Int64) else 0) = 1
      rw [if_pos (Classical.not_not.mp z)]
  · subst e
    refine ⟨fun z => o0 ?_, fun z => o1 ?_⟩
    · show (if a = b then (1 : Int64) else 0) = 0
      rw [if_neg z]
    · show (if a = b then (1 : Int64) else 0) = 1
      rw [if_pos z]
  · subst e
    refine ⟨fun z => o0 ?_, fun z => o1 ?_⟩
    · show (if b < a then (1 : Int64) else 0) = 0
      rw [if_neg z]
    · show (if b < a then (1 : Int64) else 0) = 1
      rw [if_pos (Classical.not_not.mp z)]
  · have e : act c a b = if a ≠ 0 ∨ b ≠ 0 then 1 else 0 := by unfold act; rw [if_neg n1, if_neg n2, if_neg n3, if_neg n4, if_neg n5, if_neg n6, if_neg n7]
    refine ⟨fun z => o1 ?_, fun z => ⟨fun y => o0 ?_, fun y => o1 ?_⟩⟩
    · rw [e, if_pos (Or.inl z)]
    · rw [e, if_neg (fun q => q.elim (fun x => x z) (fun x => x y))]
    · rw [e, if_pos (Or.inr y)]
end PILE
