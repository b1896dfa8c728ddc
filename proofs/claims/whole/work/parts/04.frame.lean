/-! the heap as a picture of numbers: kind (0: none; 1 + number of the class; 20 int[], 21 boolean[], 22 long[], 23 to 29 arrays of references; 30 an int[] that nobody writes), length, ints, longs, references (0: null) -/
abbrev ZH : Type := (Nat → Nat) × (Nat → Nat) × (Nat → Nat → Int32) × (Nat → Nat → Int64) × (Nat → Nat → Nat)
def zK (h : ZH) : Nat → Nat := h.1
def zN (h : ZH) : Nat → Nat := h.2.1
def zI (h : ZH) : Nat → Nat → Int32 := h.2.2.1
def zL (h : ZH) : Nat → Nat → Int64 := h.2.2.2.1
def zR (h : ZH) : Nat → Nat → Nat := h.2.2.2.2
def zsI (h : ZH) (a i : Nat) (v : Int32) : ZH := (zK h, zN h, fun b j => if b = a ∧ j = i then v else zI h b j, zL h, zR h)
def zsL (h : ZH) (a i : Nat) (v : Int64) : ZH := (zK h, zN h, zI h, fun b j => if b = a ∧ j = i then v else zL h b j, zR h)
def zsR (h : ZH) (a i : Nat) (v : Nat) : ZH := (zK h, zN h, zI h, zL h, fun b j => if b = a ∧ j = i then v else zR h b j)
/-- a new cell at the free address a -/
def zmk (h : ZH) (a k n : Nat) : ZH := (fun b => if b = a then k else zK h b, fun b => if b = a then n else zN h b, fun b j => if b = a then 0 else zI h b j, fun b j => if b = a then 0 else zL h b j, fun b j => if b = a then 0 else zR h b j)
/-- n ints of the array b from place sp on, laid into the array a from place dp on -/
def zcp (h : ZH) (b sp a dp n : Nat) : ZH := (zK h, zN h, fun q j => if q = a ∧ dp ≤ j ∧ j < dp + n then zI h b (sp + (j - dp)) else zI h q j, zL h, zR h)
/-- the field types by class and number -/
def zty : Nat → Nat → FieldType := fun c => match c with
  | 0 => tyX0 | 1 => tyX1 | 2 => tyX2 | 3 => tyX3 | 4 => tyX4 | 5 => tyX5 | 6 => tyX6 | 7 => tyX7 | 8 => tyX8 | 9 => tyX9 | 10 => tyX10 | _ => tyX11
/-- the component types of the arrays by kind -/
def zat : Nat → FieldType := fun k => match k with
  | 20 => .int | 21 => .boolean | 22 => .long | 23 => .object RX0 | 24 => .object RX1 | 25 => .object RX4 | 26 => .object RX5 | 27 => .object RX8 | 28 => .array .int | _ => .array .long
def ztys (dA : Nat → ClassId) : List (ClassId × FieldType) := [(dA 20, zat 20), (dA 21, zat 21), (dA 22, zat 22), (dA 23, zat 23), (dA 24, zat 24), (dA 25, zat 25), (dA 26, zat 26), (dA 27, zat 27), (dA 28, zat 28), (dA 29, zat 29)]
def zrv (tr : Nat → Nat) (r : Nat) : Value := if r = 0 then .null else .ref (tr r)
/-- an abstract value as the machine has it -/
def ztr (tr : Nat → Nat) : Value → Value
  | .ref a => .ref (tr a)
  | v => v
def zfv (tr : Nat → Nat) (h : ZH) (c a k : Nat) : Value := if (zty c k).isReference = true then zrv tr (zR h a k) else .int (zI h a k)
def zav (tr : Nat → Nat) (h : ZH) (a j : Nat) : Value := if zK h a = 20 ∨ zK h a = 21 then .int (zI h a j) else if zK h a = 22 then .long (zL h a j) else zrv tr (zR h a j)
/-- the statics that hold an array, by their abstract addresses -/
def zst : List (String × Nat) := [("AT_FIRST", 1), ("LEAST", 2), ("MOST", 3)]
/-- what the machine's heap holds of the address a -/
def zcell (D : va_G) (dA : Nat → ClassId) (tr : Nat → Nat) (h : ZH) (a : Nat) (U : State) (H : Heap) : Prop :=
  (20 ≤ zK h a → zK h a < 30 → H[tr a]? = some (arrV (dA (zK h a)) (zN h a) (zav tr h a))) ∧
  (zK h a = 30 → ∃ cell : Cell, H[tr a]? = some cell ∧ U.isArrayOf cell .int ∧ cell.vm ≠ .unknown ∧ cell.slots.size = zN h a ∧ ∀ j : Nat, j < zN h a → cell.slots[j]? = some (.int (zI h a j))) ∧
  (∀ (c : Nat) (r : vw_C), zK h a = c + 1 → vwCl[c]? = some r → t_OB (tr a) (D.1 c) r.2.2 (D.2 c) H (zfv tr h c a))
def zHR (D : va_G) (dA : Nat → ClassId) (b0 : Nat) (tr : Nat → Nat) (h : ZH) (U : State) (H : Heap) : Prop :=
  (∀ a, zK h a ≠ 0 → zcell D dA tr h a U H ∧ tr a < H.size ∧ (zK h a ≠ 30 → b0 ≤ tr a) ∧ (zK h a = 30 → tr a < b0)) ∧
  (∀ a b, zK h a ≠ 0 → zK h b ≠ 0 → zK h a ≠ 30 → tr a = tr b → a = b) ∧
  (∀ a k, zK h a ≠ 0 → zR h a k ≠ 0 → zK h (zR h a k) ≠ 0) ∧ zK h 0 = 0 ∧
  (∀ q ∈ zst, va_Z RX10 q.1 "[I" (.ref (tr q.2)) (fun x => b0 ≤ x) U H ∧ zK h q.2 = 30)
/-- the values that may be held -/
def zal (h : ZH) : Value → Prop
  | .ref a => zK h a ≠ 0
  | _ => True
def zalS (h : ZH) : List Value → Prop
  | [] => True
  | v :: S => zal h v ∧ zalS h S
def zalL (h : ZH) : List (Option Value) → Prop
  | [] => True
  | none :: L => zalL h L
  | some v :: L => zal h v ∧ zalL h L
def zext (tr0 : Nat → Nat) (h0 : ZH) (tr : Nat → Nat) (h : ZH) : Prop := ∀ a, zK h0 a ≠ 0 → tr a = tr0 a ∧ zK h a = zK h0 a
def zFr (b0 : Nat) (H0 H : Heap) (locs : List Loc) : Prop := H0.size ≤ H.size ∧ (∀ q : Nat, q < b0 → H[q]? = H0[q]?) ∧ ∀ l ∈ locs, b0 ≤ l.base
/-- the locals -/
def zLH (tr : Nat → Nat) (n : Nat) (ls : Array Slot) (L : List (Option Value)) : Prop := ls.size = n ∧ lv_wf ls ∧ ∀ (i : Nat) (v : Value), L[i]? = some (some v) → ls[i]? = some (.val (ztr tr v))
/-- the words -/
def zisN : Cond → Bool
  | .fieldLinkNest _ _ _ _ _ _ => true
  | .methodLinkNest _ _ _ _ => true
  | _ => false
def zgood : List Cond := lw_tbl.filter goodWord
def znest : List Cond := lw_tbl.filter zisN
theorem zgood_t {w : Cond} (i : Nat) (h : tables_1[i]? = some w) (hg : goodWord w = true) : w ∈ zgood := List.mem_filter.mpr ⟨List.mem_append_right _ (List.mem_of_getElem? h), hg⟩
theorem znest_t {w : Cond} (i : Nat) (h : tables_1[i]? = some w) (hg : zisN w = true) : w ∈ znest := List.mem_filter.mpr ⟨List.mem_append_right _ (List.mem_of_getElem? h), hg⟩
theorem zgood_p {w : Cond} (i : Nat) (h : (k2_sels lw_privs)[i]? = some w) (hg : goodWord w = true) : w ∈ zgood := List.mem_filter.mpr ⟨List.mem_append_left _ (List.mem_of_getElem? h), hg⟩
/-- a method: name, code, locals, answer, depth, cells, slots -/
abbrev ZM : Type := MethodName × ByteArray × Nat × Option FieldType × Nat × Nat × Nat
abbrev zm_x (y : ZM) : MethodName := y.1
abbrev zm_c (y : ZM) : ByteArray := y.2.1
abbrev zm_n (y : ZM) : Nat := y.2.2.1
abbrev zm_r (y : ZM) : Option FieldType := y.2.2.2.1
abbrev zm_d (y : ZM) : Nat := y.2.2.2.2.1
abbrev zm_k (y : ZM) : Nat := y.2.2.2.2.2.1
abbrev zm_s (y : ZM) : Nat := y.2.2.2.2.2.2
def zws (y : ZM) : List Cond := Cond.code (zm_x y) (zm_c y) (zm_n y) (zm_r y) :: zgood
def zrm (y : ZM) : Room := { frames := zm_d y, cells := zm_k y, slots := zm_s y, locals := 64 * zm_d y }
def zAOA (t : FieldType) (U : State) : Prop := (Cond.arrayOver (.array t)).before #[] U = true
theorem zAOA.moved {t : FieldType} {u U : State} (hvm : u.vm.Alike U.vm) (h : zAOA t u) : zAOA t U := by
  obtain ⟨comp, c, k, h1, h2, h3, h4, h5⟩ := arrayOverA_spec h
  obtain ⟨k', hk', he⟩ := hvm.2.2 _ _ h3
  have hi : (U.vm.classes.findIdx? fun (x : Class) => match x.kind with | .array component _ => component == comp | _ => false) = some c := by
    rw [hvm.findIdx?_eq _ (fun _ => rfl)]
    exact h2
  have hkind : k'.kind = .array comp (.array t) := by rw [he]; exact h4
  have f1 : U.vm.findClass (FieldType.array t).toString = some comp := by rw [hvm.findClass]; exact h1
  have f2 : U.vm.findClass ("[" ++ (FieldType.array t).toString) = some c := by rw [hvm.findClass]; exact h5
  unfold zAOA Cond.before Cond.holds
  simp only [Cond.value]
  rw [f1, Option.bind_some]
  refine (congrArg (fun o : Option Nat => (o.bind (fun c => (U.vm.classes[c]?).map fun (k : Class) => match k.kind with | .array _ ty => decide (ty = FieldType.array t) && decide (U.vm.findClass ("[" ++ (FieldType.array t).toString) = some c) | _ => false) == some true)) hi).trans ?_
  simp [hk', hkind, f2]
def zNW (U : State) : Prop := (∀ w ∈ znest, va_Nw w U) ∧ (∀ C ∈ ([RX0, RX1, RX4, RX5, RX8] : List String), va_AO C U) ∧ ∀ t ∈ ([.int, .long] : List FieldType), zAOA t U
def zPc (D : va_G) (dA : Nat → ClassId) (b0 : Nat) (tr : Nat → Nat) (h : ZH) (av : List Value) : Array Value → State → Prop := fun v U =>
  v = (av.map (ztr tr)).toArray ∧ zalS h av ∧ va_K D vwCl (ztys dA) U ∧ zNW U ∧ b0 ≤ U.heap.size ∧ zHR D dA b0 tr h U U.heap
def zQc (D : va_G) (dA : Nat → ClassId) (b0 : Nat) (tr : Nat → Nat) (h : ZH) (Φ : Option Value → ZH → Prop) : Array Value → State → Outcome → State → Prop := fun _ st o t =>
  ∃ (v : Option Value) (h1 : ZH) (tr1 : Nat → Nat), o = .returned (v.map (ztr tr1)) ∧ zalS h1 v.toList ∧ zHR D dA b0 tr1 h1 t t.heap ∧ zext tr h tr1 h1 ∧ Φ v h1 ∧ st.heap.size ≤ t.heap.size ∧ ∀ q : Nat, q < b0 → t.heap[q]? = st.heap[q]?
/-- A METHOD'S CONTRACT over the picture: called with av it returns, and Φ holds of its answer and the picture behind it -/
def Zc (y : ZM) (av : List Value) (h : ZH) (Φ : Option Value → ZH → Prop) : Prop :=
  ∀ (l : Launch) (D : va_G) (dA : Nat → ClassId) (b0 : Nat) (tr : Nat → Nat), Met l (zm_x y) (zws y) (zrm y) (zPc D dA b0 tr h av) (zQc D dA b0 tr h Φ) (zm_k y) (zm_s y) (fun q => b0 ≤ q)
/-- what stays the same in a method's run -/
def zCx (y : ZM) (D : va_G) (dA : Nat → ClassId) (b0 : Nat) (p : Program) (s : State) (m : MethodId) (args : Array Value) (meth : Method) (c : Code) : Prop :=
  p.tables.exec = Jvm.exec ∧ c.code = zm_c y ∧ meth.sig.returnType = zm_r y ∧ c.maxLocals = zm_n y ∧ s.vm.findClass (zm_x y).cls = some m.cls ∧ (∀ w ∈ zgood, w.before args s = true) ∧ meth.locks = false ∧ meth.name = (zm_x y).name ∧
  va_K D vwCl (ztys dA) s ∧ zNW s ∧ b0 ≤ s.heap.size
/-- A POINT IN A METHOD over the picture: from here it returns, and Φ holds of its answer and the picture behind it; rc, rs: the cells and slots that it may still make -/
def Zt (y : ZM) (Φ : Option Value → ZH → Prop) (rc rs pc : Nat) (L : List (Option Value)) (S : List Value) (h : ZH) : Prop :=
  ∀ (l : Launch) (D : va_G) (dA : Nat → ClassId) (b0 : Nat) (tr0 : Nat → Nat) (h0 : ZH) (p : Program) (e : Env) (s : State) (m : MethodId) (args : Array Value) (below : List Frame) (meth : Method) (c : Code),
  zCx y D dA b0 p s m args meth c → ∀ (tr : Nat → Nat) (H : Heap) (locs : List Loc) (cells slots : Nat) (ls : Array Slot),
  zHR D dA b0 tr h s H → zext tr0 h0 tr h → zalS h S → zalL h L → zFr b0 s.heap H locs → zLH tr (zm_n y) ls L → cells + rc ≤ zm_k y → slots + rs ≤ zm_s y →
  W p l e (zrm y) s m args below meth c H locs cells slots (MQ below (zQc D dA b0 tr0 h0 Φ) args s (zm_k y) (zm_s y) (fun q => b0 ≤ q)) (F0 m pc ls (S.map (ztr tr)))
theorem zcat (tr : Nat → Nat) (v : Value) : (ztr tr v).category = v.category := by cases v <;> rfl
theorem zalL_at {h : ZH} : ∀ {L : List (Option Value)} {i : Nat} {v : Value}, zalL h L → L[i]? = some (some v) → zal h v
  | [], i, v, _, e => by simp at e
  | none :: L, 0, v, _, e => by simp at e
  | none :: L, i + 1, v, hl, e => zalL_at (L := L) (i := i) hl (by simpa using e)
  | some w :: L, 0, v, hl, e => by
    have : w = v := by simpa using e
    subst this
    exact hl.1
  | some w :: L, i + 1, v, hl, e => zalL_at (L := L) (i := i) hl.2 (by simpa using e)
theorem zalL_set {h : ZH} : ∀ {L : List (Option Value)} {i : Nat} {v : Value}, zalL h L → zal h v → zalL h (L.set i (some v))
  | [], i, v, _, _ => trivial
  | none :: L, 0, v, hl, hv => ⟨hv, hl⟩
  | none :: L, i + 1, v, hl, hv => zalL_set (L := L) (i := i) hl hv
  | some w :: L, 0, v, hl, hv => ⟨hv, hl.2⟩
  | some w :: L, i + 1, v, hl, hv => ⟨hl.1, zalL_set (L := L) (i := i) hl.2 hv⟩
/-- fewer locals -/
theorem zalL_sub {h : ZH} : ∀ {L : List (Option Value)}, (∀ (i : Nat) (v : Value), L[i]? = some (some v) → zal h v) → zalL h L
  | [], _ => trivial
  | none :: L, q => zalL_sub (L := L) (fun i v e => q (i + 1) v (by simpa using e))
  | some w :: L, q => ⟨q 0 w (by simp), zalL_sub (L := L) (fun i v e => q (i + 1) v (by simpa using e))⟩
theorem zal_mono {h h1 : ZH} (q : ∀ a, zK h a ≠ 0 → zK h1 a ≠ 0) {v : Value} (hv : zal h v) : zal h1 v := by
  cases v <;> first | trivial | exact q _ hv
theorem zalS_mono {h h1 : ZH} (q : ∀ a, zK h a ≠ 0 → zK h1 a ≠ 0) : ∀ {S : List Value}, zalS h S → zalS h1 S
  | [], _ => trivial
  | _ :: S, hs => ⟨zal_mono q hs.1, zalS_mono q (S := S) hs.2⟩
theorem zalL_mono {h h1 : ZH} (q : ∀ a, zK h a ≠ 0 → zK h1 a ≠ 0) {L : List (Option Value)} (hl : zalL h L) : zalL h1 L := zalL_sub fun _ _ e => zal_mono q (zalL_at hl e)
theorem zalS_app {h : ZH} : ∀ {S T : List Value}, zalS h (S ++ T) ↔ zalS h S ∧ zalS h T
  | [], T => ⟨fun x => ⟨trivial, x⟩, fun x => x.2⟩
  | v :: S, T => by
    show zal h v ∧ zalS h (S ++ T) ↔ (zal h v ∧ zalS h S) ∧ zalS h T
    rw [zalS_app (S := S)]
    exact ⟨fun x => ⟨⟨x.1, x.2.1⟩, x.2.2⟩, fun x => ⟨x.1.1, x.1.2, x.2⟩⟩
theorem zalS_mem {h : ZH} : ∀ {S : List Value}, zalS h S ↔ ∀ v ∈ S, zal h v
  | [] => ⟨fun _ _ q => absurd q List.not_mem_nil, fun _ => trivial⟩
  | w :: S => by
    show zal h w ∧ zalS h S ↔ _
    rw [zalS_mem (S := S)]
    exact ⟨fun x v hv => (List.mem_cons.mp hv).elim (fun e => by rw [e]; exact x.1) (x.2 v), fun x => ⟨x w List.mem_cons_self, fun v hv => x v (List.mem_cons_of_mem _ hv)⟩⟩
theorem ztr_eq {tr tr1 : Nat → Nat} {h : ZH} (q : ∀ a, zK h a ≠ 0 → tr1 a = tr a) {v : Value} (hv : zal h v) : ztr tr1 v = ztr tr v := by
  cases v <;> first | rfl | (show Value.ref _ = Value.ref _; rw [q _ hv])
theorem ztr_map {tr tr1 : Nat → Nat} {h : ZH} (q : ∀ a, zK h a ≠ 0 → tr1 a = tr a) {S : List Value} (hs : zalS h S) : S.map (ztr tr1) = S.map (ztr tr) := List.map_congr_left fun v hv => ztr_eq q (zalS_mem.mp hs v hv)
theorem zLH_eq {tr tr1 : Nat → Nat} {h : ZH} (q : ∀ a, zK h a ≠ 0 → tr1 a = tr a) {n : Nat} {ls : Array Slot} {L : List (Option Value)} (hl : zalL h L) (k : zLH tr n ls L) : zLH tr1 n ls L := ⟨k.1, k.2.1, fun i v e => by rw [ztr_eq q (zalL_at hl e)]; exact k.2.2 i v e⟩
/-- the list that the kit's rows want of the locals -/
def zlv (tr : Nat → Nat) : Nat → List (Option Value) → List (Nat × Value)
  | _, [] => []
  | i, none :: L => zlv tr (i + 1) L
  | i, some v :: L => (i, ztr tr v) :: zlv tr (i + 1) L
theorem zlv_mem {tr : Nat → Nat} : ∀ {L : List (Option Value)} {i : Nat} {q : Nat × Value}, q ∈ zlv tr i L ↔ ∃ (j : Nat) (v : Value), L[j]? = some (some v) ∧ q = (i + j, ztr tr v)
  | [], i, q => by simp [zlv]
  | none :: L, i, q => by
    rw [zlv, zlv_mem (L := L)]
    constructor
    · rintro ⟨j, v, e, rfl⟩
      exact ⟨j + 1, v, by simpa using e, by rw [Nat.add_assoc, Nat.add_comm 1 j]⟩
    · rintro ⟨j, v, e, rfl⟩
      cases j with
      | zero => simp at e
      | succ j => exact ⟨j, v, by simpa using e, by rw [Nat.add_assoc, Nat.add_comm 1 j]⟩
  | some w :: L, i, q => by
    rw [zlv, List.mem_cons, zlv_mem (L := L)]
    constructor
    · rintro (rfl | ⟨j, v, e, rfl⟩)
      · exact ⟨0, w, by simp, rfl⟩
      · exact ⟨j + 1, v, by simpa using e, by rw [Nat.add_assoc, Nat.add_comm 1 j]⟩
    · rintro ⟨j, v, e, rfl⟩
      cases j with
      | zero =>
        have : w = v := by simpa using e
        subst this
        exact Or.inl rfl
      | succ j => exact Or.inr ⟨j, v, by simpa using e, by rw [Nat.add_assoc, Nat.add_comm 1 j]⟩
theorem zLH_has {tr : Nat → Nat} {n : Nat} {ls : Array Slot} {L : List (Option Value)} (k : zLH tr n ls L) : lv_has ls n (zlv tr 0 L) := ⟨k.1, k.2.1, fun q hq => by
  obtain ⟨j, v, e, rfl⟩ := zlv_mem.mp hq
  rw [Nat.zero_add]
  exact k.2.2 j v e⟩
/-- which locals stay when the place i is written: those that aren't i and no long just ahead of it -/
def zclr (L : List (Option Value)) (i : Nat) : Bool := match i with
  | 0 => true
  | i + 1 => match L[i]? with
    | some (some v) => v.category == 1
    | _ => true
theorem zst1 {tr : Nat → Nat} {n i : Nat} {ls1 : Array Slot} {L : List (Option Value)} {v : Value} (hc : zclr L i = true) (k : lv_has ls1 n ((i, ztr tr v) :: (zlv tr 0 L).filter (fun q => !(q.1 == i) && !(q.1 + 1 == i && q.2.category == 2)))) : zLH tr n ls1 (L.set i (some v)) := by
  refine ⟨k.1, k.2.1, fun j w e => ?_⟩
  by_cases hj : j = i
  · subst hj
    rw [List.getElem?_set] at e
    by_cases hl : j < L.length
    · rw [if_pos rfl, if_pos hl] at e
      cases e
      exact k.2.2 _ List.mem_cons_self
    · rw [if_pos rfl, if_neg hl] at e
      cases e
  · rw [List.getElem?_set_ne (fun q => hj q.symm)] at e
    refine k.2.2 (j, ztr tr w) (List.mem_cons_of_mem _ (List.mem_filter.mpr ⟨zlv_mem.mpr ⟨j, w, e, by rw [Nat.zero_add]⟩, ?_⟩))
    have h1 : (j == i) = false := by simpa using hj
    simp only [h1, Bool.not_false, Bool.true_and, Bool.not_eq_true', Bool.and_eq_false_iff]
    by_cases h2 : j + 1 = i
    · subst h2
      right
      simp only [zclr, e] at hc
      have : w.category = 1 := by simpa using hc
      simp [zcat, this]
    · left
      simpa using h2
theorem zst2 {tr : Nat → Nat} {n i : Nat} {ls1 : Array Slot} {L : List (Option Value)} {v : Value} (hc : zclr L i = true) (hn : L[i + 1]? = some none) (k : lv_has ls1 n ((i, ztr tr v) :: (zlv tr 0 L).filter (fun q => !(q.1 == i) && (!(q.1 == i + 1) && !(q.1 + 1 == i && q.2.category == 2))))) : zLH tr n ls1 (L.set i (some v)) := by
  refine ⟨k.1, k.2.1, fun j w e => ?_⟩
  by_cases hj : j = i
  · subst hj
    rw [List.getElem?_set] at e
    by_cases hl : j < L.length
    · rw [if_pos rfl, if_pos hl] at e
      cases e
      exact k.2.2 _ List.mem_cons_self
    · rw [if_pos rfl, if_neg hl] at e
      cases e
  · rw [List.getElem?_set_ne (fun q => hj q.symm)] at e
    have hj1 : ¬ j = i + 1 := fun q => by
      subst q
      rw [hn] at e
      cases e
    refine k.2.2 (j, ztr tr w) (List.mem_cons_of_mem _ (List.mem_filter.mpr ⟨zlv_mem.mpr ⟨j, w, e, by rw [Nat.zero_add]⟩, ?_⟩))
    have h1 : (j == i) = false := by simpa using hj
    have h3 : (j == i + 1) = false := by simpa using hj1
    simp only [h1, h3, Bool.not_false, Bool.true_and, Bool.not_eq_true', Bool.and_eq_false_iff]
    by_cases h2 : j + 1 = i
    · subst h2
      right
      simp only [zclr, e] at hc
      have : w.category = 1 := by simpa using hc
      simp [zcat, this]
    · left
      simpa using h2
