theorem Zt.go {y : ZM} {Φ : Option Value → ZH → Prop} {rc rs pc q : Nat} {L : List (Option Value)} {S : List Value} {h : ZH} {S' : List Value} (k : Zt y Φ rc rs q L S' h) (hal : zalL h L → zalS h S → zalS h S') (st : ∀ (p : Program) (l : Launch) (e : Env) (R : Room) (s : State) (m : MethodId) (args : Array Value) (below : List Frame) (meth : Method) (c : Code) (H : Heap) (locs : List Loc) (cells slots : Nat) (Q : State → Prop) (ls : Array Slot) (tr : Nat → Nat), p.tables.exec = Jvm.exec → c.code = zm_c y → zLH tr (zm_n y) ls L → W p l e R s m args below meth c H locs cells slots Q (F0 m q ls (S'.map (ztr tr))) → W p l e R s m args below meth c H locs cells slots Q (F0 m pc ls (S.map (ztr tr)))) : Zt y Φ rc rs pc L S h :=
  fun l D dA b0 tr0 h0 p e s m args below meth c X tr H locs cells slots ls hH hE hS hL hF hl hc hs => st p l e (zrm y) s m args below meth c H locs cells slots _ ls tr X.1 X.2.1 hl (k l D dA b0 tr0 h0 p e s m args below meth c X tr H locs cells slots ls hH hE (hal hL hS) hL hF hl hc hs)
theorem Zt.br {y : ZM} {Φ : Option Value → ZH → Prop} {rc rs pc q : Nat} {L : List (Option Value)} {S : List Value} {h : ZH} {t : Nat} {A B : Prop} {S' : List Value} (kt : A → Zt y Φ rc rs t L S' h) (kf : B → Zt y Φ rc rs q L S' h) (hal : zalS h S → zalS h S') (st : ∀ (p : Program) (l : Launch) (e : Env) (R : Room) (s : State) (m : MethodId) (args : Array Value) (below : List Frame) (meth : Method) (c : Code) (H : Heap) (locs : List Loc) (cells slots : Nat) (Q : State → Prop) (ls : Array Slot) (tr : Nat → Nat), p.tables.exec = Jvm.exec → c.code = zm_c y → (A → W p l e R s m args below meth c H locs cells slots Q (F0 m t ls (S'.map (ztr tr)))) → (B → W p l e R s m args below meth c H locs cells slots Q (F0 m q ls (S'.map (ztr tr)))) → W p l e R s m args below meth c H locs cells slots Q (F0 m pc ls (S.map (ztr tr)))) : Zt y Φ rc rs pc L S h :=
  fun l D dA b0 tr0 h0 p e s m args below meth c X tr H locs cells slots ls hH hE hS hL hF hl hc hs => st p l e (zrm y) s m args below meth c H locs cells slots _ ls tr X.1 X.2.1 (fun a => kt a l D dA b0 tr0 h0 p e s m args below meth c X tr H locs cells slots ls hH hE (hal hS) hL hF hl hc hs) (fun a => kf a l D dA b0 tr0 h0 p e s m args below meth c X tr H locs cells slots ls hH hE (hal hS) hL hF hl hc hs)
/-- the locals written -/
theorem Zt.st {y : ZM} {Φ : Option Value → ZH → Prop} {rc rs pc q : Nat} {L : List (Option Value)} {S : List Value} {h : ZH} {L' : List (Option Value)} {S' : List Value} (k : Zt y Φ rc rs q L' S' h) (hal : zalL h L → zalS h S → zalL h L' ∧ zalS h S') (st : ∀ (p : Program) (l : Launch) (e : Env) (R : Room) (s : State) (m : MethodId) (args : Array Value) (below : List Frame) (meth : Method) (c : Code) (H : Heap) (locs : List Loc) (cells slots : Nat) (Q : State → Prop) (ls : Array Slot) (tr : Nat → Nat), p.tables.exec = Jvm.exec → c.code = zm_c y → zLH tr (zm_n y) ls L → (∀ ls1, zLH tr (zm_n y) ls1 L' → W p l e R s m args below meth c H locs cells slots Q (F0 m q ls1 (S'.map (ztr tr)))) → W p l e R s m args below meth c H locs cells slots Q (F0 m pc ls (S.map (ztr tr)))) : Zt y Φ rc rs pc L S h :=
  fun l D dA b0 tr0 h0 p e s m args below meth c X tr H locs cells slots ls hH hE hS hL hF hl hc hs => st p l e (zrm y) s m args below meth c H locs cells slots _ ls tr X.1 X.2.1 hl (fun ls1 hl1 => k l D dA b0 tr0 h0 p e s m args below meth c X tr H locs cells slots ls1 hH hE (hal hL hS).2 (hal hL hS).1 hF hl1 hc hs)
/-- fewer locals -/
theorem Zt.sub {y : ZM} {Φ : Option Value → ZH → Prop} {rc rs pc : Nat} {L : List (Option Value)} {S : List Value} {h : ZH} {L' : List (Option Value)} (hs : ∀ (i : Nat) (v : Value), L'[i]? = some (some v) → L[i]? = some (some v)) (k : Zt y Φ rc rs pc L' S h) : Zt y Φ rc rs pc L S h :=
  fun l D dA b0 tr0 h0 p e s m args below meth c X tr H locs cells slots ls hH hE hS hL hF hl hc hs' => k l D dA b0 tr0 h0 p e s m args below meth c X tr H locs cells slots ls hH hE hS (zalL_sub fun i v e => zalL_at hL (hs i v e)) hF ⟨hl.1, hl.2.1, fun i v e => hl.2.2 i v (hs i v e)⟩ hc hs'
/-- the place i is forgotten -/
theorem Zt.drop {y : ZM} {Φ : Option Value → ZH → Prop} {rc rs pc : Nat} {L : List (Option Value)} {S : List Value} {h : ZH} {i : Nat} {L' : List (Option Value)} (hL : L.set i none = L') (k : Zt y Φ rc rs pc L' S h) : Zt y Φ rc rs pc L S h := by
  subst hL
  refine Zt.sub (fun j v e => ?_) k
  rw [List.getElem?_set] at e
  split at e
  · split at e <;> cases e
  · exact e
theorem Zt.room {y : ZM} {Φ : Option Value → ZH → Prop} {rc rs pc : Nat} {L : List (Option Value)} {S : List Value} {h : ZH} {rc' rs' : Nat} (h1 : rc' ≤ rc) (h2 : rs' ≤ rs) (k : Zt y Φ rc' rs' pc L S h) : Zt y Φ rc rs pc L S h :=
  fun l D dA b0 tr0 h0 p e s m args below meth c X tr H locs cells slots ls hH hE hS hL hF hl hc hs => k l D dA b0 tr0 h0 p e s m args below meth c X tr H locs cells slots ls hH hE hS hL hF hl (by omega) (by omega)
theorem z_iconst {y : ZM} {Φ : Option Value → ZH → Prop} {rc rs pc q : Nat} {L : List (Option Value)} {S : List Value} {h : ZH} {n : Int} {v : Int32} (hd : decode (zm_c y) pc = .ok (.iconst n, 1)) (hv : Int32.ofInt n = v) (hq : pc + 1 = q) (k : Zt y Φ rc rs q L (.int v :: S) h) : Zt y Φ rc rs pc L (S) h := by
  subst hq
  exact Zt.go k (fun hl hs => ⟨trivial, hs⟩) (fun _ _ _ _ _ _ _ _ _ _ _ _ _ _ _ _ _ hx hb hl w => lv_iconst hx hb hd hv w)
theorem z_bipush {y : ZM} {Φ : Option Value → ZH → Prop} {rc rs pc q : Nat} {L : List (Option Value)} {S : List Value} {h : ZH} {n : Int} {v : Int32} (hd : decode (zm_c y) pc = .ok (.bipush n, 2)) (hv : (Int8.ofInt n).toInt32 = v) (hq : pc + 2 = q) (k : Zt y Φ rc rs q L (.int v :: S) h) : Zt y Φ rc rs pc L (S) h := by
  subst hq
  exact Zt.go k (fun hl hs => ⟨trivial, hs⟩) (fun _ _ _ _ _ _ _ _ _ _ _ _ _ _ _ _ _ hx hb hl w => lv_bipush hx hb hd hv w)
theorem z_sipush {y : ZM} {Φ : Option Value → ZH → Prop} {rc rs pc q : Nat} {L : List (Option Value)} {S : List Value} {h : ZH} {n : Int} {v : Int32} (hd : decode (zm_c y) pc = .ok (.sipush n, 3)) (hv : (Int16.ofInt n).toInt32 = v) (hq : pc + 3 = q) (k : Zt y Φ rc rs q L (.int v :: S) h) : Zt y Φ rc rs pc L (S) h := by
  subst hq
  exact Zt.go k (fun hl hs => ⟨trivial, hs⟩) (fun _ _ _ _ _ _ _ _ _ _ _ _ _ _ _ _ _ hx hb hl w => lv_sipush hx hb hd hv w)
theorem z_lconst {y : ZM} {Φ : Option Value → ZH → Prop} {rc rs pc q : Nat} {L : List (Option Value)} {S : List Value} {h : ZH} {n : Fin 2} {v : Int64} (hd : decode (zm_c y) pc = .ok (.lconst n, 1)) (hv : Int64.ofNat (n : Nat) = v) (hq : pc + 1 = q) (k : Zt y Φ rc rs q L (.long v :: S) h) : Zt y Φ rc rs pc L (S) h := by
  subst hq
  exact Zt.go k (fun hl hs => ⟨trivial, hs⟩) (fun _ _ _ _ _ _ _ _ _ _ _ _ _ _ _ _ _ hx hb hl w => lv_lconst hx hb hd hv w)
theorem z_iload_n {y : ZM} {Φ : Option Value → ZH → Prop} {rc rs pc q : Nat} {L : List (Option Value)} {S : List Value} {h : ZH} {k : Fin 4} {i : Nat} {x : Int32} (hd : decode (zm_c y) pc = .ok (.iload_n k, 1)) (hi : (k : Nat) = i) (he : L[i]? = some (some (.int x))) (hq : pc + 1 = q) (k : Zt y Φ rc rs q L (.int x :: S) h) : Zt y Φ rc rs pc L (S) h := by
  subst hq
  exact Zt.go k (fun hl hs => ⟨trivial, hs⟩) (fun _ _ _ _ _ _ _ _ _ _ _ _ _ _ _ _ _ hx hb hl w => lv_iload_n hx hb hd hi (hl.2.2 _ _ he) w)
theorem z_iload {y : ZM} {Φ : Option Value → ZH → Prop} {rc rs pc q : Nat} {L : List (Option Value)} {S : List Value} {h : ZH} {i : Nat} {x : Int32} (hd : decode (zm_c y) pc = .ok (.iload i, 2)) (he : L[i]? = some (some (.int x))) (hq : pc + 2 = q) (k : Zt y Φ rc rs q L (.int x :: S) h) : Zt y Φ rc rs pc L (S) h := by
  subst hq
  exact Zt.go k (fun hl hs => ⟨trivial, hs⟩) (fun _ _ _ _ _ _ _ _ _ _ _ _ _ _ _ _ _ hx hb hl w => lv_iload hx hb hd (hl.2.2 _ _ he) w)
theorem z_lload_n {y : ZM} {Φ : Option Value → ZH → Prop} {rc rs pc q : Nat} {L : List (Option Value)} {S : List Value} {h : ZH} {k : Fin 4} {i : Nat} {x : Int64} (hd : decode (zm_c y) pc = .ok (.lload_n k, 1)) (hi : (k : Nat) = i) (he : L[i]? = some (some (.long x))) (hq : pc + 1 = q) (k : Zt y Φ rc rs q L (.long x :: S) h) : Zt y Φ rc rs pc L (S) h := by
  subst hq
  exact Zt.go k (fun hl hs => ⟨trivial, hs⟩) (fun _ _ _ _ _ _ _ _ _ _ _ _ _ _ _ _ _ hx hb hl w => lv_lload_n hx hb hd hi (hl.2.2 _ _ he) w)
theorem z_lload {y : ZM} {Φ : Option Value → ZH → Prop} {rc rs pc q : Nat} {L : List (Option Value)} {S : List Value} {h : ZH} {i : Nat} {x : Int64} (hd : decode (zm_c y) pc = .ok (.lload i, 2)) (he : L[i]? = some (some (.long x))) (hq : pc + 2 = q) (k : Zt y Φ rc rs q L (.long x :: S) h) : Zt y Φ rc rs pc L (S) h := by
  subst hq
  exact Zt.go k (fun hl hs => ⟨trivial, hs⟩) (fun _ _ _ _ _ _ _ _ _ _ _ _ _ _ _ _ _ hx hb hl w => lv_lload hx hb hd (hl.2.2 _ _ he) w)
theorem z_aload_n {y : ZM} {Φ : Option Value → ZH → Prop} {rc rs pc q : Nat} {L : List (Option Value)} {S : List Value} {h : ZH} {k : Fin 4} {i : Nat} {x : Nat} (hd : decode (zm_c y) pc = .ok (.aload_n k, 1)) (hi : (k : Nat) = i) (he : L[i]? = some (some (.ref x))) (hq : pc + 1 = q) (k : Zt y Φ rc rs q L (.ref x :: S) h) : Zt y Φ rc rs pc L (S) h := by
  subst hq
  exact Zt.go k (fun hl hs => ⟨zalL_at hl he, hs⟩) (fun _ _ _ _ _ _ _ _ _ _ _ _ _ _ _ _ _ hx hb hl w => lv_aload_n hx hb hd hi (hl.2.2 _ _ he) w)
theorem z_aload {y : ZM} {Φ : Option Value → ZH → Prop} {rc rs pc q : Nat} {L : List (Option Value)} {S : List Value} {h : ZH} {i : Nat} {x : Nat} (hd : decode (zm_c y) pc = .ok (.aload i, 2)) (he : L[i]? = some (some (.ref x))) (hq : pc + 2 = q) (k : Zt y Φ rc rs q L (.ref x :: S) h) : Zt y Φ rc rs pc L (S) h := by
  subst hq
  exact Zt.go k (fun hl hs => ⟨zalL_at hl he, hs⟩) (fun _ _ _ _ _ _ _ _ _ _ _ _ _ _ _ _ _ hx hb hl w => lv_aload hx hb hd (hl.2.2 _ _ he) w)
theorem z_iadd {y : ZM} {Φ : Option Value → ZH → Prop} {rc rs pc q : Nat} {L : List (Option Value)} {S : List Value} {h : ZH} {a b : Int32} (hd : decode (zm_c y) pc = .ok (.iadd, 1)) (hq : pc + 1 = q) (k : Zt y Φ rc rs q L (.int (a + b) :: S) h) : Zt y Φ rc rs pc L (.int b :: .int a :: S) h := by
  subst hq
  exact Zt.go k (fun hl hs => ⟨trivial, hs.2.2⟩) (fun _ _ _ _ _ _ _ _ _ _ _ _ _ _ _ _ _ hx hb hl w => lv_iadd hx hb hd w)
theorem z_isub {y : ZM} {Φ : Option Value → ZH → Prop} {rc rs pc q : Nat} {L : List (Option Value)} {S : List Value} {h : ZH} {a b : Int32} (hd : decode (zm_c y) pc = .ok (.isub, 1)) (hq : pc + 1 = q) (k : Zt y Φ rc rs q L (.int (a - b) :: S) h) : Zt y Φ rc rs pc L (.int b :: .int a :: S) h := by
  subst hq
  exact Zt.go k (fun hl hs => ⟨trivial, hs.2.2⟩) (fun _ _ _ _ _ _ _ _ _ _ _ _ _ _ _ _ _ hx hb hl w => lv_isub hx hb hd w)
theorem z_imul {y : ZM} {Φ : Option Value → ZH → Prop} {rc rs pc q : Nat} {L : List (Option Value)} {S : List Value} {h : ZH} {a b : Int32} (hd : decode (zm_c y) pc = .ok (.imul, 1)) (hq : pc + 1 = q) (k : Zt y Φ rc rs q L (.int (a * b) :: S) h) : Zt y Φ rc rs pc L (.int b :: .int a :: S) h := by
  subst hq
  exact Zt.go k (fun hl hs => ⟨trivial, hs.2.2⟩) (fun _ _ _ _ _ _ _ _ _ _ _ _ _ _ _ _ _ hx hb hl w => lv_imul hx hb hd w)
theorem z_iand {y : ZM} {Φ : Option Value → ZH → Prop} {rc rs pc q : Nat} {L : List (Option Value)} {S : List Value} {h : ZH} {a b : Int32} (hd : decode (zm_c y) pc = .ok (.iand, 1)) (hq : pc + 1 = q) (k : Zt y Φ rc rs q L (.int (a &&& b) :: S) h) : Zt y Φ rc rs pc L (.int b :: .int a :: S) h := by
  subst hq
  exact Zt.go k (fun hl hs => ⟨trivial, hs.2.2⟩) (fun _ _ _ _ _ _ _ _ _ _ _ _ _ _ _ _ _ hx hb hl w => lv_iand hx hb hd w)
theorem z_ior {y : ZM} {Φ : Option Value → ZH → Prop} {rc rs pc q : Nat} {L : List (Option Value)} {S : List Value} {h : ZH} {a b : Int32} (hd : decode (zm_c y) pc = .ok (.ior, 1)) (hq : pc + 1 = q) (k : Zt y Φ rc rs q L (.int (a ||| b) :: S) h) : Zt y Φ rc rs pc L (.int b :: .int a :: S) h := by
  subst hq
  exact Zt.go k (fun hl hs => ⟨trivial, hs.2.2⟩) (fun _ _ _ _ _ _ _ _ _ _ _ _ _ _ _ _ _ hx hb hl w => lv_ior hx hb hd w)
theorem z_idiv {y : ZM} {Φ : Option Value → ZH → Prop} {rc rs pc q : Nat} {L : List (Option Value)} {S : List Value} {h : ZH} {a b : Int32} (hd : decode (zm_c y) pc = .ok (.idiv, 1)) (hn : ¬ b = 0) (hq : pc + 1 = q) (k : Zt y Φ rc rs q L (.int (a / b) :: S) h) : Zt y Φ rc rs pc L (.int b :: .int a :: S) h := by
  subst hq
  exact Zt.go k (fun hl hs => ⟨trivial, hs.2.2⟩) (fun _ _ _ _ _ _ _ _ _ _ _ _ _ _ _ _ _ hx hb hl w => lv_idiv hx hb hd hn w)
theorem z_irem {y : ZM} {Φ : Option Value → ZH → Prop} {rc rs pc q : Nat} {L : List (Option Value)} {S : List Value} {h : ZH} {a b : Int32} (hd : decode (zm_c y) pc = .ok (.irem, 1)) (hn : ¬ b = 0) (hq : pc + 1 = q) (k : Zt y Φ rc rs q L (.int (a - a / b * b) :: S) h) : Zt y Φ rc rs pc L (.int b :: .int a :: S) h := by
  subst hq
  exact Zt.go k (fun hl hs => ⟨trivial, hs.2.2⟩) (fun _ _ _ _ _ _ _ _ _ _ _ _ _ _ _ _ _ hx hb hl w => lv_irem hx hb hd hn w)
theorem z_ishl {y : ZM} {Φ : Option Value → ZH → Prop} {rc rs pc q : Nat} {L : List (Option Value)} {S : List Value} {h : ZH} {a b : Int32} (hd : decode (zm_c y) pc = .ok (.ishl, 1)) (hq : pc + 1 = q) (k : Zt y Φ rc rs q L (.int (a <<< (b &&& 31)) :: S) h) : Zt y Φ rc rs pc L (.int b :: .int a :: S) h := by
  subst hq
  exact Zt.go k (fun hl hs => ⟨trivial, hs.2.2⟩) (fun _ _ _ _ _ _ _ _ _ _ _ _ _ _ _ _ _ hx hb hl w => lv_ishl hx hb hd w)
theorem z_ishr {y : ZM} {Φ : Option Value → ZH → Prop} {rc rs pc q : Nat} {L : List (Option Value)} {S : List Value} {h : ZH} {a b : Int32} (hd : decode (zm_c y) pc = .ok (.ishr, 1)) (hq : pc + 1 = q) (k : Zt y Φ rc rs q L (.int (a >>> (b &&& 31)) :: S) h) : Zt y Φ rc rs pc L (.int b :: .int a :: S) h := by
  subst hq
  exact Zt.go k (fun hl hs => ⟨trivial, hs.2.2⟩) (fun _ _ _ _ _ _ _ _ _ _ _ _ _ _ _ _ _ hx hb hl w => lv_ishr hx hb hd w)
theorem z_iushr {y : ZM} {Φ : Option Value → ZH → Prop} {rc rs pc q : Nat} {L : List (Option Value)} {S : List Value} {h : ZH} {a b : Int32} (hd : decode (zm_c y) pc = .ok (.iushr, 1)) (hq : pc + 1 = q) (k : Zt y Φ rc rs q L (.int (a.toUInt32 >>> (b.toUInt32 &&& Int32.toUInt32 31)).toInt32 :: S) h) : Zt y Φ rc rs pc L (.int b :: .int a :: S) h := by
  subst hq
  exact Zt.go k (fun hl hs => ⟨trivial, hs.2.2⟩) (fun _ _ _ _ _ _ _ _ _ _ _ _ _ _ _ _ _ hx hb hl w => lv_iushr hx hb hd rfl w)
theorem z_ineg {y : ZM} {Φ : Option Value → ZH → Prop} {rc rs pc q : Nat} {L : List (Option Value)} {S : List Value} {h : ZH} {a : Int32} (hd : decode (zm_c y) pc = .ok (.ineg, 1)) (hq : pc + 1 = q) (k : Zt y Φ rc rs q L (.int (-a) :: S) h) : Zt y Φ rc rs pc L (.int a :: S) h := by
  subst hq
  exact Zt.go k (fun hl hs => ⟨trivial, hs.2⟩) (fun _ _ _ _ _ _ _ _ _ _ _ _ _ _ _ _ _ hx hb hl w => lv_ineg hx hb hd w)
theorem z_ladd {y : ZM} {Φ : Option Value → ZH → Prop} {rc rs pc q : Nat} {L : List (Option Value)} {S : List Value} {h : ZH} {a b : Int64} (hd : decode (zm_c y) pc = .ok (.ladd, 1)) (hq : pc + 1 = q) (k : Zt y Φ rc rs q L (.long (a + b) :: S) h) : Zt y Φ rc rs pc L (.long b :: .long a :: S) h := by
  subst hq
  exact Zt.go k (fun hl hs => ⟨trivial, hs.2.2⟩) (fun _ _ _ _ _ _ _ _ _ _ _ _ _ _ _ _ _ hx hb hl w => lv_ladd hx hb hd w)
theorem z_lsub {y : ZM} {Φ : Option Value → ZH → Prop} {rc rs pc q : Nat} {L : List (Option Value)} {S : List Value} {h : ZH} {a b : Int64} (hd : decode (zm_c y) pc = .ok (.lsub, 1)) (hq : pc + 1 = q) (k : Zt y Φ rc rs q L (.long (a - b) :: S) h) : Zt y Φ rc rs pc L (.long b :: .long a :: S) h := by
  subst hq
  exact Zt.go k (fun hl hs => ⟨trivial, hs.2.2⟩) (fun _ _ _ _ _ _ _ _ _ _ _ _ _ _ _ _ _ hx hb hl w => lv_lsub hx hb hd w)
theorem z_lmul {y : ZM} {Φ : Option Value → ZH → Prop} {rc rs pc q : Nat} {L : List (Option Value)} {S : List Value} {h : ZH} {a b : Int64} (hd : decode (zm_c y) pc = .ok (.lmul, 1)) (hq : pc + 1 = q) (k : Zt y Φ rc rs q L (.long (a * b) :: S) h) : Zt y Φ rc rs pc L (.long b :: .long a :: S) h := by
  subst hq
  exact Zt.go k (fun hl hs => ⟨trivial, hs.2.2⟩) (fun _ _ _ _ _ _ _ _ _ _ _ _ _ _ _ _ _ hx hb hl w => lv_lmul hx hb hd w)
theorem z_ldiv {y : ZM} {Φ : Option Value → ZH → Prop} {rc rs pc q : Nat} {L : List (Option Value)} {S : List Value} {h : ZH} {a b : Int64} (hd : decode (zm_c y) pc = .ok (.ldiv, 1)) (hn : ¬ b = 0) (hq : pc + 1 = q) (k : Zt y Φ rc rs q L (.long (a / b) :: S) h) : Zt y Φ rc rs pc L (.long b :: .long a :: S) h := by
  subst hq
  exact Zt.go k (fun hl hs => ⟨trivial, hs.2.2⟩) (fun _ _ _ _ _ _ _ _ _ _ _ _ _ _ _ _ _ hx hb hl w => lv_ldiv hx hb hd hn w)
theorem z_lcmp {y : ZM} {Φ : Option Value → ZH → Prop} {rc rs pc q : Nat} {L : List (Option Value)} {S : List Value} {h : ZH} {a b : Int64} (hd : decode (zm_c y) pc = .ok (.lcmp, 1)) (hq : pc + 1 = q) (k : Zt y Φ rc rs q L (.int (lg_cmp a b) :: S) h) : Zt y Φ rc rs pc L (.long b :: .long a :: S) h := by
  subst hq
  exact Zt.go k (fun hl hs => ⟨trivial, hs.2.2⟩) (fun _ _ _ _ _ _ _ _ _ _ _ _ _ _ _ _ _ hx hb hl w => W.lcmp hx hb hd w)
theorem z_i2l {y : ZM} {Φ : Option Value → ZH → Prop} {rc rs pc q : Nat} {L : List (Option Value)} {S : List Value} {h : ZH} {a : Int32} (hd : decode (zm_c y) pc = .ok (.i2l, 1)) (hq : pc + 1 = q) (k : Zt y Φ rc rs q L (.long a.toInt64 :: S) h) : Zt y Φ rc rs pc L (.int a :: S) h := by
  subst hq
  exact Zt.go k (fun hl hs => ⟨trivial, hs.2⟩) (fun _ _ _ _ _ _ _ _ _ _ _ _ _ _ _ _ _ hx hb hl w => lv_i2l hx hb hd rfl w)
theorem z_l2i {y : ZM} {Φ : Option Value → ZH → Prop} {rc rs pc q : Nat} {L : List (Option Value)} {S : List Value} {h : ZH} {a : Int64} (hd : decode (zm_c y) pc = .ok (.l2i, 1)) (hq : pc + 1 = q) (k : Zt y Φ rc rs q L (.int a.toInt32 :: S) h) : Zt y Φ rc rs pc L (.long a :: S) h := by
  subst hq
  exact Zt.go k (fun hl hs => ⟨trivial, hs.2⟩) (fun _ _ _ _ _ _ _ _ _ _ _ _ _ _ _ _ _ hx hb hl w => lv_l2i hx hb hd rfl w)
theorem z_dup {y : ZM} {Φ : Option Value → ZH → Prop} {rc rs pc q : Nat} {L : List (Option Value)} {S : List Value} {h : ZH} {v : Value} (hd : decode (zm_c y) pc = .ok (.dup, 1)) (hv : v.category = 1) (hq : pc + 1 = q) (k : Zt y Φ rc rs q L (v :: v :: S) h) : Zt y Φ rc rs pc L (v :: S) h := by
  subst hq
  exact Zt.go k (fun hl hs => ⟨hs.1, hs⟩) (fun _ _ _ _ _ _ _ _ _ _ _ _ _ _ _ _ _ hx hb hl w => lv_dup hx hb hd ((zcat _ v).trans hv) w)
theorem z_pop {y : ZM} {Φ : Option Value → ZH → Prop} {rc rs pc q : Nat} {L : List (Option Value)} {S : List Value} {h : ZH} {v : Value} (hd : decode (zm_c y) pc = .ok (.pop, 1)) (hv : v.category = 1) (hq : pc + 1 = q) (k : Zt y Φ rc rs q L (S) h) : Zt y Φ rc rs pc L (v :: S) h := by
  subst hq
  exact Zt.go k (fun hl hs => hs.2) (fun _ _ _ _ _ _ _ _ _ _ _ _ _ _ _ _ _ hx hb hl w => lv_pop hx hb hd ((zcat _ v).trans hv) w)
theorem z_dup_x1 {y : ZM} {Φ : Option Value → ZH → Prop} {rc rs pc q : Nat} {L : List (Option Value)} {S : List Value} {h : ZH} {v u : Value} (hd : decode (zm_c y) pc = .ok (.dup_x1, 1)) (hv : v.category = 1) (hu : u.category = 1) (hq : pc + 1 = q) (k : Zt y Φ rc rs q L (v :: u :: v :: S) h) : Zt y Φ rc rs pc L (v :: u :: S) h := by
  subst hq
  exact Zt.go k (fun hl hs => ⟨hs.1, hs.2.1, hs.1, hs.2.2⟩) (fun _ _ _ _ _ _ _ _ _ _ _ _ _ _ _ _ _ hx hb hl w => lv_dup_x1 hx hb hd ((zcat _ v).trans hv) ((zcat _ u).trans hu) w)
theorem z_dup2 {y : ZM} {Φ : Option Value → ZH → Prop} {rc rs pc q : Nat} {L : List (Option Value)} {S : List Value} {h : ZH} {v u : Value} (hd : decode (zm_c y) pc = .ok (.dup2, 1)) (hv : v.category = 1) (hu : u.category = 1) (hq : pc + 1 = q) (k : Zt y Φ rc rs q L (v :: u :: v :: u :: S) h) : Zt y Φ rc rs pc L (v :: u :: S) h := by
  subst hq
  exact Zt.go k (fun hl hs => ⟨hs.1, hs.2.1, hs⟩) (fun _ _ _ _ _ _ _ _ _ _ _ _ _ _ _ _ _ hx hb hl w => lv_dup2_11 hx hb hd ((zcat _ v).trans hv) ((zcat _ u).trans hu) w)
theorem z_goto {y : ZM} {Φ : Option Value → ZH → Prop} {rc rs pc q : Nat} {L : List (Option Value)} {S : List Value} {h : ZH} {off : Int} (hd : decode (zm_c y) pc = .ok (.goto off, 3)) (ht : (pc : Int) + off = (q : Int)) (k : Zt y Φ rc rs q L S h) : Zt y Φ rc rs pc L S h := Zt.go k (fun _ hs => hs) (fun _ _ _ _ _ _ _ _ _ _ _ _ _ _ _ _ _ hx hb hl w => lv_goto hx hb hd ht w)
theorem z_if_eq {y : ZM} {Φ : Option Value → ZH → Prop} {rc rs pc q : Nat} {L : List (Option Value)} {S : List Value} {h : ZH} {a : Int32} {off : Int} {t : Nat} (hd : decode (zm_c y) pc = .ok (.ifCond .eq off, 3)) (ht : (pc : Int) + off = (t : Int)) (hq : pc + 3 = q) (kt : a = 0 → Zt y Φ rc rs t L S h) (kf : ¬ a = 0 → Zt y Φ rc rs q L S h) : Zt y Φ rc rs pc L (.int a :: S) h := by
  subst hq
  exact Zt.br kt kf (fun hs => hs.2) (fun _ _ _ _ _ _ _ _ _ _ _ _ _ _ _ _ _ hx hb w1 w2 => lv_if_eq hx hb hd ht w1 w2)
theorem z_if_ne {y : ZM} {Φ : Option Value → ZH → Prop} {rc rs pc q : Nat} {L : List (Option Value)} {S : List Value} {h : ZH} {a : Int32} {off : Int} {t : Nat} (hd : decode (zm_c y) pc = .ok (.ifCond .ne off, 3)) (ht : (pc : Int) + off = (t : Int)) (hq : pc + 3 = q) (kt : ¬ a = 0 → Zt y Φ rc rs t L S h) (kf : a = 0 → Zt y Φ rc rs q L S h) : Zt y Φ rc rs pc L (.int a :: S) h := by
  subst hq
  exact Zt.br kt kf (fun hs => hs.2) (fun _ _ _ _ _ _ _ _ _ _ _ _ _ _ _ _ _ hx hb w1 w2 => lv_if_ne hx hb hd ht w1 w2)
theorem z_if_lt {y : ZM} {Φ : Option Value → ZH → Prop} {rc rs pc q : Nat} {L : List (Option Value)} {S : List Value} {h : ZH} {a : Int32} {off : Int} {t : Nat} (hd : decode (zm_c y) pc = .ok (.ifCond .lt off, 3)) (ht : (pc : Int) + off = (t : Int)) (hq : pc + 3 = q) (kt : a < 0 → Zt y Φ rc rs t L S h) (kf : ¬ a < 0 → Zt y Φ rc rs q L S h) : Zt y Φ rc rs pc L (.int a :: S) h := by
  subst hq
  exact Zt.br kt kf (fun hs => hs.2) (fun _ _ _ _ _ _ _ _ _ _ _ _ _ _ _ _ _ hx hb w1 w2 => lv_if_lt hx hb hd ht w1 w2)
theorem z_if_ge {y : ZM} {Φ : Option Value → ZH → Prop} {rc rs pc q : Nat} {L : List (Option Value)} {S : List Value} {h : ZH} {a : Int32} {off : Int} {t : Nat} (hd : decode (zm_c y) pc = .ok (.ifCond .ge off, 3)) (ht : (pc : Int) + off = (t : Int)) (hq : pc + 3 = q) (kt : 0 ≤ a → Zt y Φ rc rs t L S h) (kf : ¬ 0 ≤ a → Zt y Φ rc rs q L S h) : Zt y Φ rc rs pc L (.int a :: S) h := by
  subst hq
  exact Zt.br kt kf (fun hs => hs.2) (fun _ _ _ _ _ _ _ _ _ _ _ _ _ _ _ _ _ hx hb w1 w2 => lv_if_ge hx hb hd ht w1 w2)
theorem z_if_gt {y : ZM} {Φ : Option Value → ZH → Prop} {rc rs pc q : Nat} {L : List (Option Value)} {S : List Value} {h : ZH} {a : Int32} {off : Int} {t : Nat} (hd : decode (zm_c y) pc = .ok (.ifCond .gt off, 3)) (ht : (pc : Int) + off = (t : Int)) (hq : pc + 3 = q) (kt : 0 < a → Zt y Φ rc rs t L S h) (kf : ¬ 0 < a → Zt y Φ rc rs q L S h) : Zt y Φ rc rs pc L (.int a :: S) h := by
  subst hq
  exact Zt.br kt kf (fun hs => hs.2) (fun _ _ _ _ _ _ _ _ _ _ _ _ _ _ _ _ _ hx hb w1 w2 => lv_if_gt hx hb hd ht w1 w2)
theorem z_if_le {y : ZM} {Φ : Option Value → ZH → Prop} {rc rs pc q : Nat} {L : List (Option Value)} {S : List Value} {h : ZH} {a : Int32} {off : Int} {t : Nat} (hd : decode (zm_c y) pc = .ok (.ifCond .le off, 3)) (ht : (pc : Int) + off = (t : Int)) (hq : pc + 3 = q) (kt : a ≤ 0 → Zt y Φ rc rs t L S h) (kf : ¬ a ≤ 0 → Zt y Φ rc rs q L S h) : Zt y Φ rc rs pc L (.int a :: S) h := by
  subst hq
  exact Zt.br kt kf (fun hs => hs.2) (fun _ _ _ _ _ _ _ _ _ _ _ _ _ _ _ _ _ hx hb w1 w2 => lv_if_le hx hb hd ht w1 w2)
theorem z_icmp_eq {y : ZM} {Φ : Option Value → ZH → Prop} {rc rs pc q : Nat} {L : List (Option Value)} {S : List Value} {h : ZH} {a b : Int32} {off : Int} {t : Nat} (hd : decode (zm_c y) pc = .ok (.if_icmp .eq off, 3)) (ht : (pc : Int) + off = (t : Int)) (hq : pc + 3 = q) (kt : a = b → Zt y Φ rc rs t L S h) (kf : ¬ a = b → Zt y Φ rc rs q L S h) : Zt y Φ rc rs pc L (.int b :: .int a :: S) h := by
  subst hq
  exact Zt.br kt kf (fun hs => hs.2.2) (fun _ _ _ _ _ _ _ _ _ _ _ _ _ _ _ _ _ hx hb w1 w2 => lv_icmp_eq hx hb hd ht w1 w2)
theorem z_icmp_ne {y : ZM} {Φ : Option Value → ZH → Prop} {rc rs pc q : Nat} {L : List (Option Value)} {S : List Value} {h : ZH} {a b : Int32} {off : Int} {t : Nat} (hd : decode (zm_c y) pc = .ok (.if_icmp .ne off, 3)) (ht : (pc : Int) + off = (t : Int)) (hq : pc + 3 = q) (kt : ¬ a = b → Zt y Φ rc rs t L S h) (kf : a = b → Zt y Φ rc rs q L S h) : Zt y Φ rc rs pc L (.int b :: .int a :: S) h := by
  subst hq
  exact Zt.br kt kf (fun hs => hs.2.2) (fun _ _ _ _ _ _ _ _ _ _ _ _ _ _ _ _ _ hx hb w1 w2 => lv_icmp_ne hx hb hd ht w1 w2)
theorem z_icmp_lt {y : ZM} {Φ : Option Value → ZH → Prop} {rc rs pc q : Nat} {L : List (Option Value)} {S : List Value} {h : ZH} {a b : Int32} {off : Int} {t : Nat} (hd : decode (zm_c y) pc = .ok (.if_icmp .lt off, 3)) (ht : (pc : Int) + off = (t : Int)) (hq : pc + 3 = q) (kt : a < b → Zt y Φ rc rs t L S h) (kf : ¬ a < b → Zt y Φ rc rs q L S h) : Zt y Φ rc rs pc L (.int b :: .int a :: S) h := by
  subst hq
  exact Zt.br kt kf (fun hs => hs.2.2) (fun _ _ _ _ _ _ _ _ _ _ _ _ _ _ _ _ _ hx hb w1 w2 => lv_icmp_lt hx hb hd ht w1 w2)
theorem z_icmp_ge {y : ZM} {Φ : Option Value → ZH → Prop} {rc rs pc q : Nat} {L : List (Option Value)} {S : List Value} {h : ZH} {a b : Int32} {off : Int} {t : Nat} (hd : decode (zm_c y) pc = .ok (.if_icmp .ge off, 3)) (ht : (pc : Int) + off = (t : Int)) (hq : pc + 3 = q) (kt : b ≤ a → Zt y Φ rc rs t L S h) (kf : ¬ b ≤ a → Zt y Φ rc rs q L S h) : Zt y Φ rc rs pc L (.int b :: .int a :: S) h := by
  subst hq
  exact Zt.br kt kf (fun hs => hs.2.2) (fun _ _ _ _ _ _ _ _ _ _ _ _ _ _ _ _ _ hx hb w1 w2 => lv_icmp_ge hx hb hd ht w1 w2)
theorem z_icmp_gt {y : ZM} {Φ : Option Value → ZH → Prop} {rc rs pc q : Nat} {L : List (Option Value)} {S : List Value} {h : ZH} {a b : Int32} {off : Int} {t : Nat} (hd : decode (zm_c y) pc = .ok (.if_icmp .gt off, 3)) (ht : (pc : Int) + off = (t : Int)) (hq : pc + 3 = q) (kt : b < a → Zt y Φ rc rs t L S h) (kf : ¬ b < a → Zt y Φ rc rs q L S h) : Zt y Φ rc rs pc L (.int b :: .int a :: S) h := by
  subst hq
  exact Zt.br kt kf (fun hs => hs.2.2) (fun _ _ _ _ _ _ _ _ _ _ _ _ _ _ _ _ _ hx hb w1 w2 => lv_icmp_gt hx hb hd ht w1 w2)
theorem z_icmp_le {y : ZM} {Φ : Option Value → ZH → Prop} {rc rs pc q : Nat} {L : List (Option Value)} {S : List Value} {h : ZH} {a b : Int32} {off : Int} {t : Nat} (hd : decode (zm_c y) pc = .ok (.if_icmp .le off, 3)) (ht : (pc : Int) + off = (t : Int)) (hq : pc + 3 = q) (kt : a ≤ b → Zt y Φ rc rs t L S h) (kf : ¬ a ≤ b → Zt y Φ rc rs q L S h) : Zt y Φ rc rs pc L (.int b :: .int a :: S) h := by
  subst hq
  exact Zt.br kt kf (fun hs => hs.2.2) (fun _ _ _ _ _ _ _ _ _ _ _ _ _ _ _ _ _ hx hb w1 w2 => lv_icmp_le hx hb hd ht w1 w2)
theorem z_istore_n {y : ZM} {Φ : Option Value → ZH → Prop} {rc rs pc q : Nat} {L : List (Option Value)} {S : List Value} {h : ZH} {L' : List (Option Value)} {k : Fin 4} {i : Nat} {x : Int32} (hd : decode (zm_c y) pc = .ok (.istore_n k, 1)) (hi : (k : Nat) = i) (hn : i < zm_n y) (hc : zclr L i = true) (hL : L.set i (some (.int x)) = L') (hq : pc + 1 = q) (k : Zt y Φ rc rs q L' S h) : Zt y Φ rc rs pc L (.int x :: S) h := by
  subst hq
  subst hL
  exact Zt.st k (fun hl hs => ⟨zalL_set hl hs.1, hs.2⟩) (fun _ _ _ _ _ _ _ _ _ _ _ _ _ _ _ _ _ hx hb hl w => lv_istore_n hx hb hd hi (zLH_has hl) hn rfl (fun ls1 h1 => w ls1 (zst1 hc h1)))
theorem z_istore {y : ZM} {Φ : Option Value → ZH → Prop} {rc rs pc q : Nat} {L : List (Option Value)} {S : List Value} {h : ZH} {L' : List (Option Value)} {i : Nat} {x : Int32} (hd : decode (zm_c y) pc = .ok (.istore i, 2)) (hn : i < zm_n y) (hc : zclr L i = true) (hL : L.set i (some (.int x)) = L') (hq : pc + 2 = q) (k : Zt y Φ rc rs q L' S h) : Zt y Φ rc rs pc L (.int x :: S) h := by
  subst hq
  subst hL
  exact Zt.st k (fun hl hs => ⟨zalL_set hl hs.1, hs.2⟩) (fun _ _ _ _ _ _ _ _ _ _ _ _ _ _ _ _ _ hx hb hl w => lv_istore hx hb hd (zLH_has hl) hn rfl (fun ls1 h1 => w ls1 (zst1 hc h1)))
theorem z_lstore_n {y : ZM} {Φ : Option Value → ZH → Prop} {rc rs pc q : Nat} {L : List (Option Value)} {S : List Value} {h : ZH} {L' : List (Option Value)} {k : Fin 4} {i : Nat} {x : Int64} (hd : decode (zm_c y) pc = .ok (.lstore_n k, 1)) (hi : (k : Nat) = i) (hn : i + 1 < zm_n y) (hc : zclr L i = true) (hz : L[i + 1]? = some none) (hL : L.set i (some (.long x)) = L') (hq : pc + 1 = q) (k : Zt y Φ rc rs q L' S h) : Zt y Φ rc rs pc L (.long x :: S) h := by
  subst hq
  subst hL
  exact Zt.st k (fun hl hs => ⟨zalL_set hl hs.1, hs.2⟩) (fun _ _ _ _ _ _ _ _ _ _ _ _ _ _ _ _ _ hx hb hl w => lv_lstore_n hx hb hd hi (zLH_has hl) hn rfl (fun ls1 h1 => w ls1 (zst2 hc hz h1)))
theorem z_lstore {y : ZM} {Φ : Option Value → ZH → Prop} {rc rs pc q : Nat} {L : List (Option Value)} {S : List Value} {h : ZH} {L' : List (Option Value)} {i : Nat} {x : Int64} (hd : decode (zm_c y) pc = .ok (.lstore i, 2)) (hn : i + 1 < zm_n y) (hc : zclr L i = true) (hz : L[i + 1]? = some none) (hL : L.set i (some (.long x)) = L') (hq : pc + 2 = q) (k : Zt y Φ rc rs q L' S h) : Zt y Φ rc rs pc L (.long x :: S) h := by
  subst hq
  subst hL
  exact Zt.st k (fun hl hs => ⟨zalL_set hl hs.1, hs.2⟩) (fun _ _ _ _ _ _ _ _ _ _ _ _ _ _ _ _ _ hx hb hl w => lv_lstore hx hb hd (zLH_has hl) hn rfl (fun ls1 h1 => w ls1 (zst2 hc hz h1)))
theorem z_astore_n {y : ZM} {Φ : Option Value → ZH → Prop} {rc rs pc q : Nat} {L : List (Option Value)} {S : List Value} {h : ZH} {L' : List (Option Value)} {k : Fin 4} {i : Nat} {x : Nat} (hd : decode (zm_c y) pc = .ok (.astore_n k, 1)) (hi : (k : Nat) = i) (hn : i < zm_n y) (hc : zclr L i = true) (hL : L.set i (some (.ref x)) = L') (hq : pc + 1 = q) (k : Zt y Φ rc rs q L' S h) : Zt y Φ rc rs pc L (.ref x :: S) h := by
  subst hq
  subst hL
  exact Zt.st k (fun hl hs => ⟨zalL_set hl hs.1, hs.2⟩) (fun _ _ _ _ _ _ _ _ _ _ _ _ _ _ _ _ _ hx hb hl w => lv_astore_n hx hb hd hi (zLH_has hl) hn rfl (fun ls1 h1 => w ls1 (zst1 hc h1)))
theorem z_astore {y : ZM} {Φ : Option Value → ZH → Prop} {rc rs pc q : Nat} {L : List (Option Value)} {S : List Value} {h : ZH} {L' : List (Option Value)} {i : Nat} {x : Nat} (hd : decode (zm_c y) pc = .ok (.astore i, 2)) (hn : i < zm_n y) (hc : zclr L i = true) (hL : L.set i (some (.ref x)) = L') (hq : pc + 2 = q) (k : Zt y Φ rc rs q L' S h) : Zt y Φ rc rs pc L (.ref x :: S) h := by
  subst hq
  subst hL
  exact Zt.st k (fun hl hs => ⟨zalL_set hl hs.1, hs.2⟩) (fun _ _ _ _ _ _ _ _ _ _ _ _ _ _ _ _ _ hx hb hl w => lv_astore hx hb hd (zLH_has hl) hn rfl (fun ls1 h1 => w ls1 (zst1 hc h1)))
theorem z_iinc {y : ZM} {Φ : Option Value → ZH → Prop} {rc rs pc q : Nat} {L : List (Option Value)} {S : List Value} {h : ZH} {L' : List (Option Value)} {i : Nat} {n : Int} {x v : Int32} (hd : decode (zm_c y) pc = .ok (.iinc i n, 3)) (he : L[i]? = some (some (.int x))) (hv : x + Int32.ofInt n = v) (hn : i < zm_n y) (hc : zclr L i = true) (hL : L.set i (some (.int v)) = L') (hq : pc + 3 = q) (k : Zt y Φ rc rs q L' S h) : Zt y Φ rc rs pc L S h := by
  subst hq
  subst hL
  refine Zt.st k (fun hl hs => ⟨zalL_set hl trivial, hs⟩) (fun p l e R s m args below meth c H locs cells slots Q ls tr hx hb hl w => ?_)
  obtain ⟨k0, hk0⟩ := List.getElem?_of_mem ((zlv_mem (tr := tr) (L := L) (i := 0)).mpr ⟨i, _, he, rfl⟩)
  rw [Nat.zero_add] at hk0
  exact lv_iinc hx hb hd (zLH_has hl) hk0 hv hn rfl (fun ls1 h1 => w ls1 (zst1 hc h1))
theorem z_tableOut {y : ZM} {Φ : Option Value → ZH → Prop} {rc rs pc q : Nat} {L : List (Option Value)} {S : List Value} {h : ZH} {dflt lo hi : Int} {offs : Array Int} {len : Nat} {x : Int32} (hd : decode (zm_c y) pc = .ok (.tableswitch dflt lo hi offs, len)) (hh : x.toInt < lo ∨ hi < x.toInt) (ht : (pc : Int) + dflt = (q : Int)) (k : Zt y Φ rc rs q L S h) : Zt y Φ rc rs pc L (.int x :: S) h := Zt.go k (fun _ hs => hs.2) (fun _ _ _ _ _ _ _ _ _ _ _ _ _ _ _ _ _ hx hb hl w => lv_tableOut hx hb hd hh ht w)
theorem z_tableIn {y : ZM} {Φ : Option Value → ZH → Prop} {rc rs pc q : Nat} {L : List (Option Value)} {S : List Value} {h : ZH} {dflt lo hi : Int} {offs : Array Int} {len : Nat} {x : Int32} {off : Int} (hd : decode (zm_c y) pc = .ok (.tableswitch dflt lo hi offs, len)) (h1 : ¬ x.toInt < lo) (h2 : ¬ hi < x.toInt) (ho : offs[(x.toInt - lo).toNat]? = some off) (ht : (pc : Int) + off = (q : Int)) (k : Zt y Φ rc rs q L S h) : Zt y Φ rc rs pc L (.int x :: S) h := Zt.go k (fun _ hs => hs.2) (fun _ _ _ _ _ _ _ _ _ _ _ _ _ _ _ _ _ hx hb hl w => lv_tableIn hx hb hd h1 h2 ho ht w)
theorem z_lookup {y : ZM} {Φ : Option Value → ZH → Prop} {rc rs pc q : Nat} {L : List (Option Value)} {S : List Value} {h : ZH} {dflt : Int} {ps : Array (Int × Int)} {len : Nat} {x : Int32} {off : Int} (hd : decode (zm_c y) pc = .ok (.lookupswitch dflt ps, len)) (hp : (ps.toList.zip (ps.toList.drop 1)).all (fun (a, next) => a.1 < next.1) = true) (ho : Op.lookupswitch.offset ps.toList dflt x.toInt = off) (ht : (pc : Int) + off = (q : Int)) (k : Zt y Φ rc rs q L S h) : Zt y Φ rc rs pc L (.int x :: S) h := Zt.go k (fun _ hs => hs.2) (fun _ _ _ _ _ _ _ _ _ _ _ _ _ _ _ _ _ hx hb hl w => lv_lookup hx hb hd hp ho ht w)
