/-! from the machine's start into the picture -/
def R_law : String := "PitPactLaw"
def lw_Q (_ : Array Value) (s : State) (o : Outcome) (t : State) : Prop := o = .returned (some (.int 1)) ∧ Framed s o t [] 600000 7302250
def lw_Z (below : List Frame) (a : Array Value) (s : State) : State → Prop := fun t => ∃ o, t.status = .running ∧ Ended t below o ∧ lw_Q a s o t
section START
variable {s : State} {args : Array Value}
theorem ao_23 : Cond.arrayOver (.object RX0) ∈ tables_1 := List.mem_of_getElem? (i := 31) (by decide +kernel)
theorem ao_24 : Cond.arrayOver (.object RX1) ∈ tables_1 := List.mem_of_getElem? (i := 29) (by decide +kernel)
theorem ao_25 : Cond.arrayOver (.object RX4) ∈ tables_1 := List.mem_of_getElem? (i := 27) (by decide +kernel)
theorem ao_26 : Cond.arrayOver (.object RX5) ∈ tables_1 := List.mem_of_getElem? (i := 25) (by decide +kernel)
theorem ao_27 : Cond.arrayOver (.object RX8) ∈ tables_1 := List.mem_of_getElem? (i := 51) (by decide +kernel)
theorem ao_28 : Cond.arrayOver (.array .int) ∈ tables_1 := List.mem_of_getElem? (i := 212) (by decide +kernel)
theorem ao_29 : Cond.arrayOver (.array .long) ∈ tables_1 := List.mem_of_getElem? (i := 78) (by decide +kernel)
theorem ls_1 : Cond.laysStatic RX10 "AT_FIRST" "[I" ∈ tables_1 := List.mem_of_getElem? (i := 33) (by decide +kernel)
theorem ls_2 : Cond.laysStatic RX10 "LEAST" "[I" ∈ tables_1 := List.mem_of_getElem? (i := 471) (by decide +kernel)
theorem ls_3 : Cond.laysStatic RX10 "MOST" "[I" ∈ tables_1 := List.mem_of_getElem? (i := 473) (by decide +kernel)
/-- an array's class, by the tables -/
def arT (U : State) (ty : FieldType) (cA : ClassId) : Prop := ArrOfT U cA ty ∧ va_RA U cA ty
theorem arT_of {cA comp : ClassId} {kA : Class} {ty : FieldType} (h2 : s.vm.classes[cA]? = some kA) (h3 : kA.kind = .array comp ty) : ArrOfT s cA ty := fun n z => ⟨fun k h => (by cases h), kA, h2, comp, h3⟩
theorem arT_p {ty : FieldType} (hp : ty = .int ∨ ty = .boolean ∨ ty = .long) (h : (Cond.arrayClass ty).before args s = true) : ∃ cA, arT s ty cA := by
  obtain ⟨c, k, comp, h1, h2, h3⟩ := Cond.arrayClass_spec h
  refine ⟨c, arT_of h2 h3, ?_⟩
  rcases hp with rfl | rfl | rfl <;> exact h1
theorem arT_o {C : String} (h : (Cond.arrayOver (.object C)).before args s = true) : ∃ cA, arT s (.object C) cA := by
  obtain ⟨comp, c, k, h1, -, h3, h4, h5⟩ := Cond.arrayOver_spec h
  exact ⟨c, arT_of h3 h4, k, comp, h3, h4, h1, h5⟩
theorem arT_a {t : FieldType} (h : (Cond.arrayOver (.array t)).before args s = true) : ∃ cA, arT s (.array t) cA := by
  obtain ⟨comp, c, k, h1, -, h3, h4, h5⟩ := arrayOverA_spec h
  exact ⟨c, arT_of h3 h4, h5⟩
theorem st_K (hg : ∀ w ∈ zgood, w.before args s = true) (ht : ∀ w ∈ tables_1, w.before args s = true) : ∃ (D : va_G) (dA : Nat → ClassId), va_K D vwCl (ztys dA) s := by
  obtain ⟨c0, i0, k0⟩ := u_known hg zinX0 (hg _ ni_X0)
  obtain ⟨c1, i1, k1⟩ := u_known hg zinX1 (hg _ ni_X1)
  obtain ⟨c2, i2, k2⟩ := u_known hg zinX2 (hg _ ni_X2)
  obtain ⟨c3, i3, k3⟩ := u_known hg zinX3 (hg _ ni_X3)
  obtain ⟨c4, i4, k4⟩ := u_known hg zinX4 (hg _ ni_X4)
  obtain ⟨c5, i5, k5⟩ := u_known hg zinX5 (hg _ ni_X5)
  obtain ⟨c6, i6, k6⟩ := u_known hg zinX6 (hg _ ni_X6)
  obtain ⟨c7, i7, k7⟩ := u_known hg zinX7 (hg _ ni_X7)
  obtain ⟨c8, i8, k8⟩ := u_known hg zinX8 (hg _ ni_X8)
  obtain ⟨c9, i9, k9⟩ := u_known hg zinX9 (hg _ ni_X9)
  obtain ⟨c10, i10, k10⟩ := u_known hg zinX10 (hg _ ni_X10)
  obtain ⟨c11, i11, k11⟩ := u_known hg zinX11 (hg _ ni_X11)
  obtain ⟨a0, g0⟩ := arT_p (ty := zat 20) (Or.inl rfl) (hg _ ac_20)
  obtain ⟨a1, g1⟩ := arT_p (ty := zat 21) (Or.inr (Or.inl rfl)) (hg _ ac_21)
  obtain ⟨a2, g2⟩ := arT_p (ty := zat 22) (Or.inr (Or.inr rfl)) (hg _ ac_22)
  obtain ⟨a3, g3⟩ := arT_o (ht _ ao_23)
  obtain ⟨a4, g4⟩ := arT_o (ht _ ao_24)
  obtain ⟨a5, g5⟩ := arT_o (ht _ ao_25)
  obtain ⟨a6, g6⟩ := arT_o (ht _ ao_26)
  obtain ⟨a7, g7⟩ := arT_o (ht _ ao_27)
  obtain ⟨a8, g8⟩ := arT_a (ht _ ao_28)
  obtain ⟨a9, g9⟩ := arT_a (ht _ ao_29)
  refine ⟨(fun k => ([c0, c1, c2, c3, c4, c5, c6, c7, c8, c9, c10, c11] : List ClassId).getD k 0, fun k => ([i0, i1, i2, i3, i4, i5, i6, i7, i8, i9, i10, i11] : List (Nat → Nat)).getD k i0), fun k => ([a0, a1, a2, a3, a4, a5, a6, a7, a8, a9] : List ClassId).getD (k - 20) 0, fun c q hq => ?_, fun k q hk => ?_⟩
  · match c, hq with
    | 0, hq => cases hq; exact k0
    | 1, hq => cases hq; exact k1
    | 2, hq => cases hq; exact k2
    | 3, hq => cases hq; exact k3
    | 4, hq => cases hq; exact k4
    | 5, hq => cases hq; exact k5
    | 6, hq => cases hq; exact k6
    | 7, hq => cases hq; exact k7
    | 8, hq => cases hq; exact k8
    | 9, hq => cases hq; exact k9
    | 10, hq => cases hq; exact k10
    | 11, hq => cases hq; exact k11
    | c + 12, hq => simp [vwCl] at hq
  · match k, hk with
    | 0, hk => cases hk; exact g0
    | 1, hk => cases hk; exact g1
    | 2, hk => cases hk; exact g2
    | 3, hk => cases hk; exact g3
    | 4, hk => cases hk; exact g4
    | 5, hk => cases hk; exact g5
    | 6, hk => cases hk; exact g6
    | 7, hk => cases hk; exact g7
    | 8, hk => cases hk; exact g8
    | 9, hk => cases hk; exact g9
    | k + 10, hk => simp [ztys] at hk
theorem st_NW (hn : ∀ w ∈ znest, w.before args s = true) (ht : ∀ w ∈ tables_1, w.before args s = true) : zNW s := by
  refine ⟨fun w hw => ?_, fun C hC => ?_, fun t htt => ?_⟩
  · have h2 := (List.mem_filter.mp hw).2
    have h1 := hn w hw
    cases w <;> first | exact va_Nw.of rfl h1 | exact absurd h2 (by simp [zisN])
  · simp only [List.mem_cons, List.not_mem_nil, or_false] at hC
    rcases hC with rfl | rfl | rfl | rfl | rfl
    · exact va_AO.of (ht _ ao_23)
    · exact va_AO.of (ht _ ao_24)
    · exact va_AO.of (ht _ ao_25)
    · exact va_AO.of (ht _ ao_26)
    · exact va_AO.of (ht _ ao_27)
  · simp only [List.mem_cons, List.not_mem_nil, or_false] at htt
    rcases htt with rfl | rfl
    · exact ht _ ao_28
    · exact ht _ ao_29
theorem st_len {t : Term} {v : Value} {b : Nat} {cell : Cell} (hv : (Term.length t).eval args s none [] s = some v) (ht : t.eval args s none [] s = some (.ref b)) (harr : s.arrayAt? b = some cell) : cell.slots.size < 2147483648 := by
  simp only [Term.eval, ht, harr, Option.bind_eq_bind, Option.bind_some] at hv
  by_cases hlt : cell.slots.size < 2147483648
  · exact hlt
  · simp [hlt] at hv
/-- an array of a static, read off the start -/
theorem st_T {n : String} {f : Nat → Int32} (hl : (Cond.laysStatic RX10 n "[I").before args s = true) (hi : (Cond.initialized RX10).before args s = true)
    (ha : (Cond.arrayOf (.static "PitPact" n "[I") .int).before args s = true) (hn : (Cond.eq (.length (.static "PitPact" n "[I")) (.int 7)).before args s = true)
    (he : ∀ j : Nat, j < 7 → (Cond.eq (.elem (.static "PitPact" n "[I") (.int (Int32.ofNat j))) (.int (f j))).before args s = true) :
    ∃ t : Nat, va_Z RX10 n "[I" (.ref t) (fun x => s.heap.size ≤ x) s s.heap ∧ t < s.heap.size ∧ ∃ cell : Cell, s.heap[t]? = some cell ∧ s.isArrayOf cell .int ∧ cell.vm ≠ .unknown ∧ cell.slots.size = 7 ∧ ∀ j : Nat, j < 7 → cell.slots[j]? = some (.int (f j)) := by
  have hv := va_eqt hn
  obtain ⟨t, ht, cell, q1, q2, q3, q4, q5, q6, q7⟩ := va_Tof (N := 7) (f := fun j => .int (f j)) (A := fun x => s.heap.size ≤ x) (by decide) ha hv (fun j hj => va_eqt (he j hj)) (fun a h => Nat.not_le.mpr h)
  refine ⟨t, va_Zref hl hi ht (fun a h => Nat.not_le.mpr h), Nat.not_le.mp q7, cell, q1, q2, q3, ?_, q6⟩
  obtain ⟨b, c2, hb, harr, -⟩ := Term.length_spec hv
  obtain ⟨hcell, -, -, -⟩ := State.arrayAt?_spec harr
  cases ht.symm.trans hb
  cases q1.symm.trans hcell
  have hsz : cell.slots.size < 2147483648 := st_len hv ht harr
  have e5 : Int32.ofNat cell.slots.size = Int32.ofNat 7 := q5
  have h6 := congrArg Int32.toNatClampNeg e5
  rw [Int32.toNatClampNeg_ofNat_of_lt hsz, Int32.toNatClampNeg_ofNat_of_lt (by decide)] at h6
  exact h6
end START
