def lw_P (b : Addr) (xs : List Int32) (args : Array Value) (s : State) : Prop := args = #[.ref b] ∧ s.IntsAt b xs ∧ xs.length ≤ 3584 ∧ (Jvm.Cond.and given_1 narrow_1).before args s = true
def lw_At (p : Program) (s : State) (m : MethodId) (meth : Method) (c : Code) (b L : Nat) (xs : Nat → Int32) : Prop :=
  p.tables.exec = Jvm.exec ∧ c.code = code ∧ meth.sig.returnType = ret ∧ c.maxLocals = 4 ∧ s.vm.findClass R_law = some m.cls ∧ (∀ w ∈ lw_tbl, w.before #[Value.ref b] s = true) ∧ va_X b L xs s s.heap ∧ b < s.heap.size ∧ meth.locks = false ∧ (Jvm.Cond.and given_1 narrow_1).before #[Value.ref b] s = true ∧ meth.name = "law"
section WHOLE
variable {s : State} {b L t1 t2 t3 : Nat} {xs : Nat → Int32}
/-- the machine's addresses of the start's picture -/
def tS (t1 t2 t3 b : Nat) : Nat → Nat := fun a => if a = 1 then t1 else if a = 2 then t2 else if a = 3 then t3 else b
def cI (U : State) (H : Heap) (t n : Nat) (f : Nat → Int32) : Prop := t < H.size ∧ ∃ cell : Cell, H[t]? = some cell ∧ U.isArrayOf cell .int ∧ cell.vm ≠ .unknown ∧ cell.slots.size = n ∧ ∀ j : Nat, j < n → cell.slots[j]? = some (.int (f j))
theorem st_cell {D : va_G} {dA : Nat → ClassId} {a t n : Nat} {f : Nat → Int32} (hk : zK (hS L xs) a = 30) (ht : tS t1 t2 t3 b a = t) (hn : zN (hS L xs) a = n) (hf : ∀ j, zI (hS L xs) a j = f j) (c : cI s s.heap t n f) : zcell D dA (tS t1 t2 t3 b) (hS L xs) a s s.heap ∧ tS t1 t2 t3 b a < s.heap.size ∧ (zK (hS L xs) a ≠ 30 → s.heap.size ≤ tS t1 t2 t3 b a) ∧ (zK (hS L xs) a = 30 → tS t1 t2 t3 b a < s.heap.size) := by
  obtain ⟨lt, cell, q1, q2, q3, q4, q5⟩ := c
  rw [← ht] at lt q1
  refine ⟨⟨fun _ h => ?_, fun _ => ⟨cell, q1, q2, q3, by rw [q4, hn], fun j hj => by rw [hf]; exact q5 j (by rw [← hn]; exact hj)⟩, fun c r h1 h2 => ?_⟩, lt, fun h => absurd hk h, fun _ => lt⟩
  · omega
  · have := zcl_lt h2
    omega
theorem st_K30 {a : Nat} (h : zK (hS L xs) a ≠ 0) : zK (hS L xs) a = 30 ∧ (a = 1 ∨ a = 2 ∨ a = 3 ∨ a = 4) := by
  have e : zK (hS L xs) a = if 1 ≤ a ∧ a ≤ 4 then 30 else 0 := rfl
  by_cases c : 1 ≤ a ∧ a ≤ 4
  · exact ⟨by rw [e, if_pos c], by omega⟩
  · rw [e, if_neg c] at h
    exact absurd rfl h
theorem st_HR {D : va_G} {dA : Nat → ClassId} (c1 : cI s s.heap t1 7 atF) (c2 : cI s s.heap t2 7 sLo) (c3 : cI s s.heap t3 7 sHi) (c4 : cI s s.heap b L xs)
    (z1 : va_Z RX10 "AT_FIRST" "[I" (.ref t1) (fun x => s.heap.size ≤ x) s s.heap) (z2 : va_Z RX10 "LEAST" "[I" (.ref t2) (fun x => s.heap.size ≤ x) s s.heap) (z3 : va_Z RX10 "MOST" "[I" (.ref t3) (fun x => s.heap.size ≤ x) s s.heap) :
    zHR D dA s.heap.size (tS t1 t2 t3 b) (hS L xs) s s.heap := by
  refine ⟨fun a ha => ?_, fun a c ha _ h30 => absurd (st_K30 ha).1 h30, fun a k _ h => absurd rfl h, rfl, fun q hq => ?_⟩
  · obtain ⟨hk, r⟩ := st_K30 ha
    rcases r with rfl | rfl | rfl | rfl
    · exact st_cell hk rfl rfl (fun _ => rfl) c1
    · exact st_cell hk rfl rfl (fun _ => rfl) c2
    · exact st_cell hk rfl rfl (fun _ => rfl) c3
    · exact st_cell hk rfl rfl (fun _ => rfl) c4
  · unfold zst at hq
    simp only [List.mem_cons, List.not_mem_nil, or_false] at hq
    rcases hq with rfl | rfl | rfl
    · exact ⟨z1, rfl⟩
    · exact ⟨z2, rfl⟩
    · exact ⟨z3, rfl⟩
theorem st_room {pl : Platform} (h : s.hasRoom pl room_1 = true) : s.hasRoom pl (zrm mL_law) = true := by
  have h1 := State.hasRoom_stack h
  have h2 := State.hasRoom_heap h
  have h3 := State.hasRoom_real h
  have h0 : s.slotsTrue = true := by
    have h' := h
    simp only [State.hasRoom, Bool.and_eq_true] at h'
    exact h'.2
  have e1 : (zrm mL_law).frames ≤ room_1.frames := by decide
  have e2 : (zrm mL_law).cells ≤ room_1.cells := by decide
  have e3 : (zrm mL_law).slots ≤ room_1.slots := by decide
  have e4 : (zrm mL_law).locals ≤ room_1.locals := by decide
  exact State.hasRoom_of (State.hasRoom_plain h) (by omega) (by omega) (by omega) (by omega) h0 (by omega)
end WHOLE
set_option maxRecDepth 100000 in
theorem whole_start {p : Program} {e : Env} {s : State} {m : MethodId} {below : List Frame} {meth : Method} {c : Code} (l : Launch) {b L : Nat} {xs : Nat → Int32} (hL : L ≤ 3584) (C0 : lw_At p s m meth c b L xs) : W p l e room_1 s m #[Value.ref b] below meth c s.heap [] 0 0 (lw_Z below #[Value.ref b] s) (entryFrame m ([Value.ref b] : List Value).toArray 4) := by
  obtain ⟨hx, hb, hr, hml, hown, hts, hX, hbl, hlocks, hgv, hnm⟩ := id C0
  have ht : ∀ w ∈ tables_1, w.before #[Value.ref b] s = true := fun w hw => hts w (List.mem_append_right _ hw)
  have hg : ∀ w ∈ zgood, w.before #[Value.ref b] s = true := fun w hw => hts w (List.mem_filter.mp hw).1
  have hn : ∀ w ∈ znest, w.before #[Value.ref b] s = true := fun w hw => hts w (List.mem_filter.mp hw).1
  obtain ⟨D, dA, hK⟩ := st_K hg ht
  have hN := st_NW hn ht
  have hf := flat_of_before _ hgv
  obtain ⟨t1, z1, c1⟩ := st_T (n := "AT_FIRST") (f := atF) (ht _ ls_1) (hg _ ii_X10) (hf _ (by decide +kernel)) (hf _ (by decide +kernel)) (fun j hj => by
    rcases (show j = 0 ∨ j = 1 ∨ j = 2 ∨ j = 3 ∨ j = 4 ∨ j = 5 ∨ j = 6 by omega) with rfl | rfl | rfl | rfl | rfl | rfl | rfl <;> exact hf _ (by decide +kernel))
  obtain ⟨t2, z2, c2⟩ := st_T (n := "LEAST") (f := sLo) (ht _ ls_2) (hg _ ii_X10) (hf _ (by decide +kernel)) (hf _ (by decide +kernel)) (fun j hj => by
    rcases (show j = 0 ∨ j = 1 ∨ j = 2 ∨ j = 3 ∨ j = 4 ∨ j = 5 ∨ j = 6 by omega) with rfl | rfl | rfl | rfl | rfl | rfl | rfl <;> exact hf _ (by decide +kernel))
  obtain ⟨t3, z3, c3⟩ := st_T (n := "MOST") (f := sHi) (ht _ ls_3) (hg _ ii_X10) (hf _ (by decide +kernel)) (hf _ (by decide +kernel)) (fun j hj => by
    rcases (show j = 0 ∨ j = 1 ∨ j = 2 ∨ j = 3 ∨ j = 4 ∨ j = 5 ∨ j = 6 by omega) with rfl | rfl | rfl | rfl | rfl | rfl | rfl <;> exact hf _ (by decide +kernel))
  have hH : zHR D dA s.heap.size (tS t1 t2 t3 b) (hS L xs) s s.heap := st_HR c1 c2 c3 ⟨hbl, hX⟩ z1 z2 z3
  have hCx : zCx mL_law D dA s.heap.size p s m #[Value.ref b] meth c := ⟨hx, hb, hr, hml, hown, hg, hlocks, hnm, hK, hN, Nat.le_refl _⟩
  have hl := lv_entry ([Value.ref b] : List Value) (n := 4) (Nat.le_of_ble_eq_true rfl)
  rw [lg_entry_eq]
  generalize (lg_sl ([Value.ref b] : List Value) ++ List.replicate (4 - (lg_sl ([Value.ref b] : List Value)).length) Slot.unset).toArray = ls at hl ⊢
  have hLH : zLH (tS t1 t2 t3 b) (zm_n mL_law) ls [some (.ref 4), none, none, none] := by
    refine ⟨hl.1, hl.2.1, fun i v e1 => ?_⟩
    match i, e1 with
    | 0, e1 => cases e1; exact hl.2.2 (0, .ref b) List.mem_cons_self
    | 1, e1 => cases e1
    | 2, e1 => cases e1
    | 3, e1 => cases e1
    | i + 4, e1 => simp at e1
  intro T hT X
  have X' : Stand p l e (zrm mL_law) s m #[Value.ref b] below meth c T [] 0 0 := { X with room := st_room X.room }
  obtain ⟨t, a1, o, r1, r2, ⟨v, h1, tr1, q1, q2, q3, q4, ⟨x, e5, e6⟩, q6⟩, Lx, fe, hfree⟩ := law_first (xs := xs) hL l D dA s.heap.size (tS t1 t2 t3 b) (hS L xs) p e s m #[Value.ref b] below meth c hCx (tS t1 t2 t3 b) s.heap [] 0 0 ls hH (fun a ha => ⟨rfl, rfl⟩) trivial ⟨(show (30 : Nat) ≠ 0 from by decide), trivial⟩ ⟨Nat.le_refl _, fun _ _ => rfl, fun _ q => by cases q⟩ hLH (Nat.le_of_eq rfl) (Nat.le_of_eq rfl) T hT X'
  refine ⟨t, a1, o, r1, r2, ?_, fe.1, fe.2.1, fe.2.2.weaken (fun y hy hlt => absurd hlt (Nat.not_lt.mpr (hfree y hy))) (Nat.le_refl _) (Nat.le_refl _)⟩
  rw [q1, e5, e6]
  rfl
