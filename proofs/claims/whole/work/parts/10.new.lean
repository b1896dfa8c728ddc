set_option maxRecDepth 100000 in
theorem zdef {c : Nat} {r : vw_C} (hr : vwCl[c]? = some r) : ∀ k, k < r.2.2 → defaultValue (zty c k) = if (zty c k).isReference = true then .null else .int 0 := by
  have hl := zcl_lt hr
  match c, hl, hr with
  | 0, _, hr => cases hr; decide +kernel
  | 1, _, hr => cases hr; decide +kernel
  | 2, _, hr => cases hr; decide +kernel
  | 3, _, hr => cases hr; decide +kernel
  | 4, _, hr => cases hr; decide +kernel
  | 5, _, hr => cases hr; decide +kernel
  | 6, _, hr => cases hr; decide +kernel
  | 7, _, hr => cases hr; decide +kernel
  | 8, _, hr => cases hr; decide +kernel
  | 9, _, hr => cases hr; decide +kernel
  | 10, _, hr => cases hr; decide +kernel
  | 11, _, hr => cases hr; decide +kernel
section ZNEW
variable {y : ZM} {Φ : Option Value → ZH → Prop} {rc rs pc q : Nat} {L : List (Option Value)} {S : List Value} {h : ZH}
theorem zK_mk {a k n b : Nat} : zK (zmk h a k n) b = if b = a then k else zK h b := rfl
theorem zN_mk {a k n b : Nat} : zN (zmk h a k n) b = if b = a then n else zN h b := rfl
theorem zI_mk {a k n b j : Nat} : zI (zmk h a k n) b j = if b = a then 0 else zI h b j := rfl
theorem zL_mk {a k n b j : Nat} : zL (zmk h a k n) b j = if b = a then 0 else zL h b j := rfl
theorem zR_mk {a k n b j : Nat} : zR (zmk h a k n) b j = if b = a then 0 else zR h b j := rfl
/-- a new cell: what the caller's side needs -/
theorem zpush {a kd n : Nat} {D : va_G} {dA : Nat → ClassId} {b0 : Nat} {tr0 tr : Nat → Nat} {h0 : ZH} {s : State} {H H1 : Heap} {locs : List Loc} {ls : Array Slot} {nl : Nat} (hH : zHR D dA b0 tr h s H) (hE : zext tr0 h0 tr h) (hS : zalS h S) (hL : zalL h L) (hF : zFr b0 s.heap H locs) (hb : b0 ≤ s.heap.size) (hl : zLH tr nl ls L) (ha0 : a ≠ 0) (ha : zK h a = 0) (hk0 : kd ≠ 0) (hk30 : kd ≠ 30)
    (hc : ∀ tr1 : Nat → Nat, tr1 a = H.size → zcell D dA tr1 (zmk h a kd n) a s H1) (z : H1.size = H.size + 1) (oq : ∀ q : Nat, q < H.size → H1[q]? = H[q]?) :
    ∃ tr1 : Nat → Nat, tr1 a = H.size ∧ zHR D dA b0 tr1 (zmk h a kd n) s H1 ∧ zext tr0 h0 tr1 (zmk h a kd n) ∧ zalS (zmk h a kd n) (.ref a :: S) ∧ zalL (zmk h a kd n) L ∧ zFr b0 s.heap H1 locs ∧ zLH tr1 nl ls L ∧ S.map (ztr tr1) = S.map (ztr tr) := by
  have hKa : zK (zmk h a kd n) a = kd := if_pos rfl
  obtain ⟨tr1, t1, t2, t3⟩ := hH.push (h1 := zmk h a kd n) (a := a) (H1 := H1) (Nat.le_trans hb hF.1) ha0 ha (by rw [hKa]; exact hk0) (by rw [hKa]; exact hk30) (fun b e => ⟨if_neg e, if_neg e, fun _ => if_neg e, fun _ => if_neg e, fun _ => if_neg e⟩) (fun _ => if_pos rfl) hc z oq
  have mono : ∀ b, zK h b ≠ 0 → zK (zmk h a kd n) b ≠ 0 := fun b hb' => by
    rw [zK_mk]
    by_cases e : b = a
    · rw [if_pos e]; exact hk0
    · rw [if_neg e]; exact hb'
  exact ⟨tr1, t1, t3, fun b hb' => ⟨(t2 b (by rw [(hE b hb').2]; exact hb')).trans (hE b hb').1, by rw [zK_mk, if_neg (fun z => by have := (hE b hb').2; rw [z, ha] at this; exact hb' (by rw [z]; exact this.symm)), (hE b hb').2]⟩, ⟨by show zK (zmk h a kd n) a ≠ 0; rw [hKa]; exact hk0, zalS_mono mono hS⟩, zalL_mono mono hL, ⟨by rw [z]; exact Nat.le_succ_of_le hF.1, fun x hx => by rw [oq x (Nat.lt_of_lt_of_le hx (Nat.le_trans hb hF.1))]; exact hF.2.1 x hx, hF.2.2⟩, zLH_eq t2 hL hl, ztr_map t2 hS⟩
theorem z_new {c a i : Nat} {r : vw_C} (hd : decode (zm_c y) pc = .ok (.new i, 3)) (hr : vwCl[c]? = some r) (hw1 : Cond.classLink (zm_x y).cls i r.1 ∈ zgood) (hw2 : Cond.instantiable r.1 r.2.2 ∈ zgood) (hw3 : Cond.initialized r.1 ∈ zgood) (ha0 : a ≠ 0) (ha : zK h a = 0) (hq : pc + 3 = q) (k : Zt y Φ rc rs q L (.ref a :: S) (zmk h a (c + 1) 0)) : Zt y Φ (rc + 1) (rs + r.2.2) pc L S h := by
  subst hq
  intro l D dA b0 tr0 h0 p e s m args below meth c' X tr H locs cells slots ls hH hE hS hL hF hl hc hs
  obtain ⟨hx, hb, hr0, hml, hown, hts, hlk, hnm, hK, hN, hb0⟩ := id X
  have hcl := zcl_lt hr
  obtain ⟨hSl, hfc, kC0, hkC0, hkind⟩ := id (hK.1 c r hr)
  refine W.newcK hx hb hown (hts _ hw1) (hts _ hw2) (hts _ hw3) rfl hd (by show cells + 1 ≤ zm_k y; omega) (by show slots + r.2.2 ≤ zm_s y; omega) hfc rfl (fun H1 kC hkC hcell z oq => ?_)
  have hborn := u_born (H := H1) (zty c) hts (zcls hr).2.2 (hK.1 c r hr) hkC hcell (zcls hr).1
  obtain ⟨tr1, t1, t2, t3, t4, t5, t6, t7, t8⟩ := zpush (n := 0) hH hE hS hL hF hb0 hl ha0 ha (Nat.succ_ne_zero c) (by omega) (fun tr1 et => by
    refine ⟨fun g1 g2 => ?_, fun g1 => ?_, fun c2 r2 g1 g2 => ?_⟩
    · rw [zK_mk, if_pos rfl] at g1; omega
    · rw [zK_mk, if_pos rfl] at g1; omega
    · rw [zK_mk, if_pos rfl] at g1
      have e2 : c2 = c := by omega
      subst e2
      cases hr.symm.trans g2
      rw [et]
      refine hborn.to (fun j hj => ?_)
      rw [zdef hr j hj]
      unfold zfv
      rw [zR_mk, zI_mk, if_pos rfl, if_pos rfl]
      rfl) z oq
  have w := k l D dA b0 tr0 h0 p e s m args below meth c' X tr1 H1 locs (cells + 1) (slots + r.2.2) ls t2 t3 t4 t5 t6 t7 (by omega) (by omega)
  have e9 : (Value.ref a :: S).map (ztr tr1) = Value.ref H.size :: S.map (ztr tr) := by
    show Value.ref (tr1 a) :: S.map (ztr tr1) = _
    rw [t1, t8]
  rw [e9] at w
  exact w
theorem z_newa {a kd N : Nat} {n : Int32} {atype : ArrayType} (hd : decode (zm_c y) pc = .ok (.newarray atype, 2)) (ht : newarray.typeOf atype = zat kd) (hk : kd = 20 ∨ kd = 21 ∨ kd = 22) (hw : Cond.arrayClass (zat kd) ∈ zgood) (hn : n.toNatClampNeg = N) (hn0 : ¬ n < 0) (hN : N ≤ 65536) (ha0 : a ≠ 0) (ha : zK h a = 0) (hq : pc + 2 = q) (k : Zt y Φ rc rs q L (.ref a :: S) (zmk h a kd N)) : Zt y Φ (rc + 1) (rs + N) pc L (.int n :: S) h := by
  subst hq
  subst hn
  intro l D dA b0 tr0 h0 p e s m args below meth c' X tr H locs cells slots ls hH hE hS hL hF hl hc hs
  obtain ⟨hx, hb, hr0, hml, hown, hts, hlk, hnm, hK, hN0, hb0⟩ := id X
  have hcb : n.toNatClampNeg * componentBytes (newarray.typeOf atype) ≤ 536870912 := by
    rw [ht]
    rcases hk with rfl | rfl | rfl
    · show n.toNatClampNeg * 4 ≤ _; omega
    · show n.toNatClampNeg * 1 ≤ _; omega
    · show n.toNatClampNeg * 8 ≤ _; omega
  refine W.newa hx hb (by rw [ht]; exact hts _ hw) rfl hd rfl hn0 hcb (by show cells + 1 ≤ zm_k y; omega) (by show slots + n.toNatClampNeg ≤ zm_s y; omega) (fun cA kA comp h1 h2 h3 => ?_)
  have hRA := (zarrT hK (kd := kd) (by omega) (by omega)).2
  have ecA : cA = dA kd := by
    rw [ht] at h1
    rcases hk with rfl | rfl | rfl <;> exact Option.some.inj (h1.symm.trans hRA)
  subst ecA
  generalize hH1 : H.push ({ cls := dA kd, slots := Array.replicate n.toNatClampNeg (defaultValue (newarray.typeOf atype)), vm := .none } : Cell) = H1
  have z1 : H1.size = H.size + 1 := by rw [← hH1, Array.size_push]
  have e1 : H1[H.size]? = some (arrV (dA kd) n.toNatClampNeg (fun _ => defaultValue (newarray.typeOf atype))) := by rw [← hH1, Array.getElem?_push_size, ← arrV_new]
  have o1 : ∀ q : Nat, q < H.size → H1[q]? = H[q]? := fun q hq => by rw [← hH1, Array.getElem?_push, if_neg (Nat.ne_of_lt hq)]
  obtain ⟨tr1, t1, t2, t3, t4, t5, t6, t7, t8⟩ := zpush (n := n.toNatClampNeg) (kd := kd) hH hE hS.2 hL hF hb0 hl ha0 ha (by omega) (by omega) (fun tr1 et => by
    refine ⟨fun g1 g2 => ?_, fun g1 => ?_, fun c2 r2 g1 g2 => ?_⟩
    · rw [et, e1]
      have ek : zK (zmk h a kd n.toNatClampNeg) a = kd := if_pos rfl
      have en : zN (zmk h a kd n.toNatClampNeg) a = n.toNatClampNeg := if_pos rfl
      rw [ek, en, ht]
      congr 2
      funext j
      unfold zav
      rw [ek, zI_mk, zL_mk, zR_mk, if_pos rfl, if_pos rfl, if_pos rfl]
      rcases hk with rfl | rfl | rfl <;> rfl
    · rw [zK_mk, if_pos rfl] at g1; omega
    · rw [zK_mk, if_pos rfl] at g1
      have := zcl_lt g2
      omega) z1 o1
  have w := k l D dA b0 tr0 h0 p e s m args below meth c' X tr1 H1 locs (cells + 1) (slots + n.toNatClampNeg) ls t2 t3 t4 t5 t6 t7 (by omega) (by omega)
  have e9 : (Value.ref a :: S).map (ztr tr1) = Value.ref H.size :: S.map (ztr tr) := by
    show Value.ref (tr1 a) :: S.map (ztr tr1) = _
    rw [t1, t8]
  rw [e9] at w
  exact w
theorem z_anew {a kd N i : Nat} {n : Int32} {C : String} (hd : decode (zm_c y) pc = .ok (.anewarray i, 3)) (ht : zat kd = .object C) (h1 : 23 ≤ kd) (h2 : kd < 30) (hC : C ∈ ([RX0, RX1, RX4, RX5, RX8] : List String)) (hw : Cond.classLink (zm_x y).cls i C ∈ zgood) (hn : n.toNatClampNeg = N) (hn0 : ¬ n < 0) (hN : N ≤ 65536) (ha0 : a ≠ 0) (ha : zK h a = 0) (hq : pc + 3 = q) (k : Zt y Φ rc rs q L (.ref a :: S) (zmk h a kd N)) : Zt y Φ (rc + 1) (rs + N) pc L (.int n :: S) h := by
  subst hq
  subst hn
  intro l D dA b0 tr0 h0 p e s m args below meth c' X tr H locs cells slots ls hH hE hS hL hF hl hc hs
  obtain ⟨hx, hb, hr0, hml, hown, hts, hlk, hnm, hK, hN0, hb0⟩ := id X
  refine W.anew hx hb hown (hts _ hw) (va_AO.use (hN0.2.1 C hC)) rfl hd rfl hn0 (by omega) (by show cells + 1 ≤ zm_k y; omega) (by show slots + n.toNatClampNeg ≤ zm_s y; omega) (fun cA kA comp f1 f2 f3 f4 => ?_)
  have hRA := (zarrT hK (kd := kd) (by omega) (by omega)).2
  rw [ht] at hRA
  obtain ⟨kA2, comp2, m1, m2, m3, m4⟩ := hRA
  have ecA : cA = dA kd := Option.some.inj (f1.symm.trans m4)
  subst ecA
  generalize hH1 : H.push ({ cls := dA kd, slots := Array.replicate n.toNatClampNeg .null, vm := .none } : Cell) = H1
  have z1 : H1.size = H.size + 1 := by rw [← hH1, Array.size_push]
  have e1 : H1[H.size]? = some (arrV (dA kd) n.toNatClampNeg (fun _ => .null)) := by rw [← hH1, Array.getElem?_push_size, ← arrV_new]
  have o1 : ∀ q : Nat, q < H.size → H1[q]? = H[q]? := fun q hq => by rw [← hH1, Array.getElem?_push, if_neg (Nat.ne_of_lt hq)]
  obtain ⟨tr1, t1, t2, t3, t4, t5, t6, t7, t8⟩ := zpush (n := n.toNatClampNeg) (kd := kd) hH hE hS.2 hL hF hb0 hl ha0 ha (by omega) (by omega) (fun tr1 et => by
    refine ⟨fun g1 g2 => ?_, fun g1 => ?_, fun c2 r2 g1 g2 => ?_⟩
    · rw [et, e1]
      have ek : zK (zmk h a kd n.toNatClampNeg) a = kd := if_pos rfl
      have en : zN (zmk h a kd n.toNatClampNeg) a = n.toNatClampNeg := if_pos rfl
      rw [ek, en]
      congr 2
      funext j
      rw [zav_r (by rw [ek]; omega), zR_mk, if_pos rfl]
      rfl
    · rw [zK_mk, if_pos rfl] at g1; omega
    · rw [zK_mk, if_pos rfl] at g1
      have := zcl_lt g2
      omega) z1 o1
  have w := k l D dA b0 tr0 h0 p e s m args below meth c' X tr1 H1 locs (cells + 1) (slots + n.toNatClampNeg) ls t2 t3 t4 t5 t6 t7 (by omega) (by omega)
  have e9 : (Value.ref a :: S).map (ztr tr1) = Value.ref H.size :: S.map (ztr tr) := by
    show Value.ref (tr1 a) :: S.map (ztr tr1) = _
    rw [t1, t8]
  rw [e9] at w
  exact w
end ZNEW
