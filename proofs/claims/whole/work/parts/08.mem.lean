section ZMEM
variable {y : ZM} {Φ : Option Value → ZH → Prop} {rc rs pc q : Nat} {L : List (Option Value)} {S : List Value} {h : ZH}
/-- the answer -/
theorem zQ_of {D : va_G} {dA : Nat → ClassId} {b0 : Nat} {tr0 tr : Nat → Nat} {h0 : ZH} {s t : State} {H : Heap} {locs : List Loc} {args : Array Value} {v : Option Value} (hH : zHR D dA b0 tr h s H) (hE : zext tr0 h0 tr h) (hF : zFr b0 s.heap H locs) (hv : zalS h v.toList) (hΦ : Φ v h) (ht : t.heap = H) (hW : s.WarmedH t.vm) : zQc D dA b0 tr0 h0 Φ args s (.returned (v.map (ztr tr))) t :=
  ⟨v, h, tr, rfl, hv, by rw [ht]; exact hH.moved hW.alike, hE, hΦ, by rw [ht]; exact hF.1, fun q hq => by rw [ht]; exact hF.2.1 q hq⟩
theorem z_ireturn {v : Int32} (hd : decode (zm_c y) pc = .ok (.ireturn, 1)) (hr : zm_r y = some .int) (k : Φ (some (.int v)) h) : Zt y Φ rc rs pc L [.int v] h := by
  intro l D dA b0 tr0 h0 p e s m args below meth c X tr H locs cells slots ls hH hE hS hL hF hl hc hs
  have hlocks := X.2.2.2.2.2.2.1
  refine W.widen (k := zm_k y) (n := zm_s y) (by omega) (by omega) ?_
  exact W.iret (v := v) X.1 X.2.1 (X.2.2.1.trans hr) (fun t ht hW => zQ_of (v := some (.int v)) hH hE hF ⟨trivial, trivial⟩ k ht hW) hF.2.2 hd hlocks
theorem z_zreturn {v : Int32} (hd : decode (zm_c y) pc = .ok (.ireturn, 1)) (hr : zm_r y = some .boolean) (hv : v = 0 ∨ v = 1) (k : Φ (some (.int v)) h) : Zt y Φ rc rs pc L [.int v] h := by
  intro l D dA b0 tr0 h0 p e s m args below meth c X tr H locs cells slots ls hH hE hS hL hF hl hc hs
  have hlocks := X.2.2.2.2.2.2.1
  refine W.widen (k := zm_k y) (n := zm_s y) (by omega) (by omega) ?_
  exact W.zret (v := v) (ty := .boolean) X.1 X.2.1 (X.2.2.1.trans hr) (by rcases hv with rfl | rfl <;> rfl) (fun t ht hW => zQ_of (v := some (.int v)) hH hE hF ⟨trivial, trivial⟩ k ht hW) hF.2.2 hd hlocks
theorem z_lreturn {v : Int64} (hd : decode (zm_c y) pc = .ok (.lreturn, 1)) (hr : zm_r y = some .long) (k : Φ (some (.long v)) h) : Zt y Φ rc rs pc L [.long v] h := by
  intro l D dA b0 tr0 h0 p e s m args below meth c X tr H locs cells slots ls hH hE hS hL hF hl hc hs
  have hlocks := X.2.2.2.2.2.2.1
  refine W.widen (k := zm_k y) (n := zm_s y) (by omega) (by omega) ?_
  exact W.lret (v := v) X.1 X.2.1 (X.2.2.1.trans hr) (fun t ht hW => zQ_of (v := some (.long v)) hH hE hF ⟨trivial, trivial⟩ k ht hW) hF.2.2 hd hlocks
theorem z_return (hd : decode (zm_c y) pc = .ok (.return_, 1)) (hr : zm_r y = none) (k : Φ none h) : Zt y Φ rc rs pc L [] h := by
  intro l D dA b0 tr0 h0 p e s m args below meth c X tr H locs cells slots ls hH hE hS hL hF hl hc hs
  have hlocks := X.2.2.2.2.2.2.1
  refine W.widen (k := zm_k y) (n := zm_s y) (by omega) (by omega) ?_
  exact W.vret X.1 X.2.1 (X.2.2.1.trans hr) (fun t ht hW => zQ_of (v := none) hH hE hF trivial k ht hW) hF.2.2 hd hlocks
/-- the link of a field: of the class itself, or of a nest mate -/
def zFL (own : String) (i : Nat) (r : vw_C) (k : Nat) : Prop := Cond.fieldLink own i (r.2.1 k).1 (r.2.1 k).2.1 (r.2.1 k).2.2.1 ∈ zgood ∨ ∃ host : String, Cond.fieldLinkNest own i (r.2.1 k).1 (r.2.1 k).2.1 (r.2.1 k).2.2.1 host ∈ znest
theorem z_getf {c k i a : Nat} {r : vw_C} (hr : vwCl[c]? = some r) (hk : k < r.2.2) (hl0 : zFL (zm_x y).cls i r k) (ha : zK h a = c + 1) (hd : decode (zm_c y) pc = .ok (.getfield i, 3)) {l : Launch} {D : va_G} {dA : Nat → ClassId} {b0 : Nat} {p : Program} {e : Env} {R : Room} {s : State} {m : MethodId} {args : Array Value} {below : List Frame} {meth : Method} {c' : Code}
    (X : zCx y D dA b0 p s m args meth c') {tr : Nat → Nat} {H : Heap} {locs : List Loc} {cells slots : Nat} {ls : Array Slot} {Q : State → Prop} {rest : List Value} (hH : zHR D dA b0 tr h s H) (w : W p l e R s m args below meth c' H locs cells slots Q (F0 m (pc + 3) ls (zfv tr h c a k :: rest))) : W p l e R s m args below meth c' H locs cells slots Q (F0 m pc ls (.ref (tr a) :: rest)) := by
  obtain ⟨hx, hb, -, -, hown, hts, -, -, hK, hN, -⟩ := X
  obtain ⟨cell, q1, q2, q3, q4⟩ := (hH.1 a (by rw [ha]; omega)).1.2.2 c r ha hr
  obtain ⟨hS, hfc, kC, hkC, hkind⟩ := hK.1 c r hr
  obtain ⟨cf, kf, fi, f, hi, hsl⟩ := hS k hk
  have hst := (u_facts hfc hkC (u_lays hts (zcls hr).2.2 hk) hi).1
  rcases hl0 with hl0 | ⟨host, hl0⟩
  · exact W.getf hx hb hown (hts _ hl0) hi hst q1 (by rw [q3]; exact fun z => by cases z) (v := zfv tr h c a k) (by rw [hsl, q4 k hk]) rfl rfl hd w
  · exact va_Wgetf hx hb hown (va_Nw.use rfl (hN.1 _ hl0)) hi hst q1 (by rw [q3]; exact fun z => by cases z) (v := zfv tr h c a k) (by rw [hsl, q4 k hk]) rfl rfl hd w
theorem z_getI {c k i a : Nat} {r : vw_C} (hd : decode (zm_c y) pc = .ok (.getfield i, 3)) (hr : vwCl[c]? = some r) (hk : k < r.2.2) (hl0 : zFL (zm_x y).cls i r k) (ht : (zty c k).isReference = false) (ha : zK h a = c + 1) (hq : pc + 3 = q) (k' : Zt y Φ rc rs q L (.int (zI h a k) :: S) h) : Zt y Φ rc rs pc L (.ref a :: S) h := by
  subst hq
  intro l D dA b0 tr0 h0 p e s m args below meth c' X tr H locs cells slots ls hH hE hS hL hF hl hc hs
  refine z_getf hr hk hl0 ha hd X hH ?_
  have e1 : zfv tr h c a k = .int (zI h a k) := by unfold zfv; rw [ht]; rfl
  rw [e1]
  exact k' l D dA b0 tr0 h0 p e s m args below meth c' X tr H locs cells slots ls hH hE ⟨trivial, hS.2⟩ hL hF hl hc hs
theorem z_getR {c k i a : Nat} {r : vw_C} (hd : decode (zm_c y) pc = .ok (.getfield i, 3)) (hr : vwCl[c]? = some r) (hk : k < r.2.2) (hl0 : zFL (zm_x y).cls i r k) (ht : (zty c k).isReference = true) (ha : zK h a = c + 1) (hn : zR h a k ≠ 0) (hq : pc + 3 = q) (k' : Zt y Φ rc rs q L (.ref (zR h a k) :: S) h) : Zt y Φ rc rs pc L (.ref a :: S) h := by
  subst hq
  intro l D dA b0 tr0 h0 p e s m args below meth c' X tr H locs cells slots ls hH hE hS hL hF hl hc hs
  refine z_getf hr hk hl0 ha hd X hH ?_
  have e1 : zfv tr h c a k = .ref (tr (zR h a k)) := by unfold zfv zrv; rw [ht, if_pos rfl, if_neg hn]
  rw [e1]
  exact k' l D dA b0 tr0 h0 p e s m args below meth c' X tr H locs cells slots ls hH hE ⟨hH.2.2.1 a k (by rw [ha]; omega) hn, hS.2⟩ hL hF hl hc hs
theorem zFr.put {b0 : Nat} {H0 H H1 : Heap} {locs : List Loc} {a k : Nat} (hF : zFr b0 H0 H locs) (ha : b0 ≤ a) (z : H1.size = H.size) (oq : ∀ q : Nat, q ≠ a → H1[q]? = H[q]?) : zFr b0 H0 H1 (locs ++ [⟨a, k⟩]) :=
  ⟨by rw [z]; exact hF.1, fun q hq => by rw [oq q (by omega)]; exact hF.2.1 q hq, fun l hl => by
    rcases List.mem_append.mp hl with h1 | h1
    · exact hF.2.2 l h1
    · rw [List.mem_singleton.mp h1]; exact ha⟩
/-- a field written: the machine's side -/
theorem z_putf {c k i a : Nat} {r : vw_C} {v : Value} (hr : vwCl[c]? = some r) (hk : k < r.2.2) (hl0 : zFL (zm_x y).cls i r k) (hfin : (r.2.1 k).2.2.2 = false ∨ ((zm_x y).name = "<init>" ∧ (zm_x y).cls = (r.2.1 k).1 ∧ (r.2.1 k).2.2.2 = true ∧ Cond.fieldLink (zm_x y).cls i (r.2.1 k).1 (r.2.1 k).2.1 (r.2.1 k).2.2.1 ∈ zgood)) (hn : narrow (zty c k) v = v) (hfit : fits (zty c k) v = true) (ha : zK h a = c + 1) (hd : decode (zm_c y) pc = .ok (.putfield i, 3)) {l : Launch} {D : va_G} {dA : Nat → ClassId} {b0 : Nat} {p : Program} {e : Env} {R : Room} {s : State} {m : MethodId} {args : Array Value} {below : List Frame} {meth : Method} {c' : Code}
    (X : zCx y D dA b0 p s m args meth c') {tr : Nat → Nat} {H : Heap} {locs : List Loc} {cells slots : Nat} {ls : Array Slot} {Q : State → Prop} {rest : List Value} (hH : zHR D dA b0 tr h s H)
    (w : ∀ (H1 : Heap) (j : Nat), t_OB (tr a) (D.1 c) r.2.2 (D.2 c) H1 (updV (zfv tr h c a) k v) → H1.size = H.size → (∀ q : Nat, q ≠ tr a → H1[q]? = H[q]?) → W p l e R s m args below meth c' H1 (locs ++ [⟨tr a, j⟩]) cells slots Q (F0 m (pc + 3) ls rest)) : W p l e R s m args below meth c' H locs cells slots Q (F0 m pc ls (v :: .ref (tr a) :: rest)) := by
  obtain ⟨hx, hb, -, -, hown, hts, -, hname, hK, hN, -⟩ := X
  obtain ⟨cell, q1, q2, q3, q4⟩ := (hH.1 a (by rw [ha]; omega)).1.2.2 c r ha hr
  obtain ⟨hS, hfc, kC, hkC, hkind⟩ := hK.1 c r hr
  obtain ⟨cf, kf, fi, f, hi, hsl⟩ := hS k hk
  obtain ⟨c1, c2, c3⟩ := zcls hr
  have hst := (u_facts hfc hkC (u_lays hts c3 hk) hi).1
  have hap := va_apart (own := r.1) (tys := ztys dA) (C := r.1) (T := r.2.1) (N := r.2.2) hts c3 (zty c) c1 c2 hK hr
  have hlt : f.slot < cell.slots.size := by rw [hsl]; exact k2_hasslot (q4 k hk)
  have fin : ∀ H' : Heap, H'[tr a]? = some (cell.setSlot f.slot v) → H'.size = H.size → (∀ q, q ≠ tr a → H'[q]? = H[q]?) → W p l e R s m args below meth c' H' (locs ++ [⟨tr a, f.slot⟩]) cells slots Q (F0 m (pc + 3) ls rest) := fun H' e1 e2 e3 => by
    rw [hsl] at e1 ⊢
    exact w H' _ ⟨_, e1, q2, q3, t_set q4 hap hk v⟩ e2 e3
  have hlay := hts _ (c3 _ (u_in_lay hk))
  unfold u_lay at hlay
  rcases hfin with hfin | ⟨hin, hdecl, hfin, hlk⟩
  · rw [if_neg (by rw [hfin]; decide)] at hlay
    have h6 := u_store hfc hkC hkind hlay hi (c1 k hk) hn hfit
    rcases hl0 with hl0 | ⟨host, hl0⟩
    · exact W.putK hx hb (f := f) ⟨hown, hts _ hl0, ⟨_, _, _, hi⟩, hst⟩ (by rw [q2]; exact h6) q1 q3 hlt rfl rfl hd fin
    · exact va_WputK hx hb (f := f) hown (va_Nw.use rfl (hN.1 _ hl0)) hi hst (by rw [q2]; exact h6) q1 q3 hlt rfl rfl hd fin
  · rw [if_pos hfin] at hlay
    have hcf : m.cls = cf := by
      obtain ⟨_, _, c9, _, _, _, -, -, hf9, -, -, -, hown2, -⟩ := Cond.laysFinal_spec hlay
      have e1 : c9 = cf := by have := hi.symm.trans hf9; simp at this; exact this.1.symm
      rw [← hdecl] at hown2
      rw [← e1]; exact Option.some.inj (hown.symm.trans hown2)
    exact W.putFinK hx hb hown (hts _ hlk) hi hst hcf (hname.trans hin) (by rw [q2]; exact u_fits hfc hkC hkind (u_lays hts c3 hk) hi (c1 k hk) hn hfit) q1 q3 hlt rfl rfl hd fin
/-- a field written: the picture's side -/
theorem zHR.putI {D : va_G} {dA : Nat → ClassId} {b0 : Nat} {tr : Nat → Nat} {s : State} {H H1 : Heap} {c k a : Nat} {r : vw_C} {v : Int32} (hH : zHR D dA b0 tr h s H) (hr : vwCl[c]? = some r) (ha : zK h a = c + 1) (ht : (zty c k).isReference = false) (hob : t_OB (tr a) (D.1 c) r.2.2 (D.2 c) H1 (updV (zfv tr h c a) k (.int v))) (z : H1.size = H.size) (oq : ∀ q : Nat, q ≠ tr a → H1[q]? = H[q]?) : zHR D dA b0 tr (zsI h a k v) s H1 := by
  have hc := zcl_lt hr
  refine hH.set (h1 := zsI h a k v) rfl rfl (by rw [ha]; omega) (by rw [ha]; omega) (fun b hb => ⟨fun j => if_neg (fun e => hb e.1), fun _ => rfl, fun _ => rfl⟩) ?_ (fun j hj => hH.2.2.1 a j (by rw [ha]; omega) hj) z oq
  refine ⟨fun g1 g2 => ?_, fun g1 => ?_, fun c2 r2 g1 g2 => ?_⟩
  · have : zK h a = zK (zsI h a k v) a := rfl
    rw [← this, ha] at g1; omega
  · have : zK h a = zK (zsI h a k v) a := rfl
    rw [← this, ha] at g1; omega
  · have e2 : c2 = c := by
      have : zK h a = zK (zsI h a k v) a := rfl
      rw [← this, ha] at g1; omega
    subst e2
    cases hr.symm.trans g2
    refine hob.to (fun j _ => ?_)
    unfold updV
    by_cases e : j = k
    · subst e
      rw [if_pos rfl]
      unfold zfv
      rw [ht]
      show Value.int v = Value.int (if a = a ∧ j = j then v else zI h a j)
      rw [if_pos ⟨rfl, rfl⟩]
    · rw [if_neg e]
      unfold zfv
      have e1 : zI (zsI h a k v) a j = zI h a j := if_neg (fun q => e q.2)
      rw [e1]
      rfl
theorem zHR.putR {D : va_G} {dA : Nat → ClassId} {b0 : Nat} {tr : Nat → Nat} {s : State} {H H1 : Heap} {c k a v : Nat} {r : vw_C} (hH : zHR D dA b0 tr h s H) (hr : vwCl[c]? = some r) (ha : zK h a = c + 1) (ht : (zty c k).isReference = true) (hv : zK h v ≠ 0) (hob : t_OB (tr a) (D.1 c) r.2.2 (D.2 c) H1 (updV (zfv tr h c a) k (.ref (tr v)))) (z : H1.size = H.size) (oq : ∀ q : Nat, q ≠ tr a → H1[q]? = H[q]?) : zHR D dA b0 tr (zsR h a k v) s H1 := by
  have hc := zcl_lt hr
  have hv0 : v ≠ 0 := fun e => hv (by rw [e]; exact hH.2.2.2.1)
  refine hH.set (h1 := zsR h a k v) rfl rfl (by rw [ha]; omega) (by rw [ha]; omega) (fun b hb => ⟨fun _ => rfl, fun _ => rfl, fun j => if_neg (fun e => hb e.1)⟩) ?_ (fun j hj => ?_) z oq
  · refine ⟨fun g1 g2 => ?_, fun g1 => ?_, fun c2 r2 g1 g2 => ?_⟩
    · have : zK h a = zK (zsR h a k v) a := rfl
      rw [← this, ha] at g1; omega
    · have : zK h a = zK (zsR h a k v) a := rfl
      rw [← this, ha] at g1; omega
    · have e2 : c2 = c := by
        have : zK h a = zK (zsR h a k v) a := rfl
        rw [← this, ha] at g1; omega
      subst e2
      cases hr.symm.trans g2
      refine hob.to (fun j _ => ?_)
      unfold updV
      by_cases e : j = k
      · subst e
        rw [if_pos rfl]
        unfold zfv
        have e1 : zR (zsR h a j v) a j = v := if_pos ⟨rfl, rfl⟩
        rw [ht, if_pos rfl, e1, zrv, if_neg hv0]
      · rw [if_neg e]
        unfold zfv
        have e1 : zR (zsR h a k v) a j = zR h a j := if_neg (fun q => e q.2)
        rw [e1]
        rfl
  · by_cases e : j = k
    · subst e
      have e1 : zR (zsR h a j v) a j = v := if_pos ⟨rfl, rfl⟩
      rw [e1]
      exact hv
    · have e1 : zR (zsR h a k v) a j = zR h a j := if_neg (fun q => e q.2)
      rw [e1] at hj ⊢
      exact hH.2.2.1 a j (by rw [ha]; omega) hj
theorem z_putI0 {c k i a : Nat} {r : vw_C} {v : Int32} (hd : decode (zm_c y) pc = .ok (.putfield i, 3)) (hr : vwCl[c]? = some r) (hk : k < r.2.2) (hl0 : zFL (zm_x y).cls i r k) (hfin : (r.2.1 k).2.2.2 = false ∨ ((zm_x y).name = "<init>" ∧ (zm_x y).cls = (r.2.1 k).1 ∧ (r.2.1 k).2.2.2 = true ∧ Cond.fieldLink (zm_x y).cls i (r.2.1 k).1 (r.2.1 k).2.1 (r.2.1 k).2.2.1 ∈ zgood)) (ht : (zty c k).isReference = false) (hn : narrow (zty c k) (.int v) = .int v) (hfit : fits (zty c k) (.int v) = true) (ha : zK h a = c + 1) (hq : pc + 3 = q) (k' : Zt y Φ rc rs q L S (zsI h a k v)) : Zt y Φ rc rs pc L (.int v :: .ref a :: S) h := by
  subst hq
  intro l D dA b0 tr0 h0 p e s m args below meth c' X tr H locs cells slots ls hH hE hS hL hF hl hc hs
  refine z_putf (v := .int v) hr hk hl0 hfin hn hfit ha hd X hH (fun H1 j hob z oq => ?_)
  have hlo := (hH.1 a (by rw [ha]; omega)).2.2.1 (by rw [ha]; have := zcl_lt hr; omega)
  exact k' l D dA b0 tr0 h0 p e s m args below meth c' X tr H1 _ cells slots ls (hH.putI hr ha ht hob z oq) hE (zalS_K hS.2.2 rfl) (zalL_K hL rfl) (hF.put hlo z oq) hl hc hs
theorem z_putI {c k i a : Nat} {r : vw_C} {v : Int32} (hd : decode (zm_c y) pc = .ok (.putfield i, 3)) (hr : vwCl[c]? = some r) (hk : k < r.2.2) (hl0 : zFL (zm_x y).cls i r k) (hfin : (r.2.1 k).2.2.2 = false) (ht : zty c k = .int) (ha : zK h a = c + 1) (hq : pc + 3 = q) (k' : Zt y Φ rc rs q L S (zsI h a k v)) : Zt y Φ rc rs pc L (.int v :: .ref a :: S) h :=
  z_putI0 hd hr hk hl0 (Or.inl hfin) (by rw [ht]; rfl) (by rw [ht]; rfl) (by rw [ht]; rfl) ha hq k'
theorem z_putZ {c k i a : Nat} {r : vw_C} {v : Int32} (hd : decode (zm_c y) pc = .ok (.putfield i, 3)) (hr : vwCl[c]? = some r) (hk : k < r.2.2) (hl0 : zFL (zm_x y).cls i r k) (hfin : (r.2.1 k).2.2.2 = false) (ht : zty c k = .boolean) (hv : v = 0 ∨ v = 1) (ha : zK h a = c + 1) (hq : pc + 3 = q) (k' : Zt y Φ rc rs q L S (zsI h a k v)) : Zt y Φ rc rs pc L (.int v :: .ref a :: S) h :=
  z_putI0 hd hr hk hl0 (Or.inl hfin) (by rw [ht]; rfl) (by rw [ht]; rcases hv with rfl | rfl <;> rfl) (by rw [ht]; rcases hv with rfl | rfl <;> rfl) ha hq k'
theorem z_putIF {c k i a : Nat} {r : vw_C} {v : Int32} (hd : decode (zm_c y) pc = .ok (.putfield i, 3)) (hr : vwCl[c]? = some r) (hk : k < r.2.2) (hlk : Cond.fieldLink (zm_x y).cls i (r.2.1 k).1 (r.2.1 k).2.1 (r.2.1 k).2.2.1 ∈ zgood) (hin : (zm_x y).name = "<init>") (hdc : (zm_x y).cls = (r.2.1 k).1) (hfin : (r.2.1 k).2.2.2 = true) (ht : zty c k = .int) (ha : zK h a = c + 1) (hq : pc + 3 = q) (k' : Zt y Φ rc rs q L S (zsI h a k v)) : Zt y Φ rc rs pc L (.int v :: .ref a :: S) h :=
  z_putI0 hd hr hk (Or.inl hlk) (Or.inr ⟨hin, hdc, hfin, hlk⟩) (by rw [ht]; rfl) (by rw [ht]; rfl) (by rw [ht]; rfl) ha hq k'
theorem z_putZF {c k i a : Nat} {r : vw_C} {v : Int32} (hd : decode (zm_c y) pc = .ok (.putfield i, 3)) (hr : vwCl[c]? = some r) (hk : k < r.2.2) (hlk : Cond.fieldLink (zm_x y).cls i (r.2.1 k).1 (r.2.1 k).2.1 (r.2.1 k).2.2.1 ∈ zgood) (hin : (zm_x y).name = "<init>") (hdc : (zm_x y).cls = (r.2.1 k).1) (hfin : (r.2.1 k).2.2.2 = true) (ht : zty c k = .boolean) (hv : v = 0 ∨ v = 1) (ha : zK h a = c + 1) (hq : pc + 3 = q) (k' : Zt y Φ rc rs q L S (zsI h a k v)) : Zt y Φ rc rs pc L (.int v :: .ref a :: S) h :=
  z_putI0 hd hr hk (Or.inl hlk) (Or.inr ⟨hin, hdc, hfin, hlk⟩) (by rw [ht]; rfl) (by rw [ht]; rcases hv with rfl | rfl <;> rfl) (by rw [ht]; rcases hv with rfl | rfl <;> rfl) ha hq k'
theorem zref_nf {t : FieldType} (h : t.isReference = true) (a : Nat) : narrow t (.ref a) = .ref a ∧ fits t (.ref a) = true := by
  cases t <;> first | exact ⟨rfl, rfl⟩ | (exact absurd h (by simp [FieldType.isReference]))
theorem z_putRF {c k i a v : Nat} {r : vw_C} (hd : decode (zm_c y) pc = .ok (.putfield i, 3)) (hr : vwCl[c]? = some r) (hk : k < r.2.2) (hlk : Cond.fieldLink (zm_x y).cls i (r.2.1 k).1 (r.2.1 k).2.1 (r.2.1 k).2.2.1 ∈ zgood) (hin : (zm_x y).name = "<init>") (hdc : (zm_x y).cls = (r.2.1 k).1) (hfin : (r.2.1 k).2.2.2 = true) (ht : (zty c k).isReference = true) (ha : zK h a = c + 1) (hq : pc + 3 = q) (k' : Zt y Φ rc rs q L S (zsR h a k v)) : Zt y Φ rc rs pc L (.ref v :: .ref a :: S) h := by
  subst hq
  intro l D dA b0 tr0 h0 p e s m args below meth c' X tr H locs cells slots ls hH hE hS hL hF hl hc hs
  obtain ⟨n1, n2⟩ := zref_nf ht (tr v)
  refine z_putf (v := .ref (tr v)) hr hk (Or.inl hlk) (Or.inr ⟨hin, hdc, hfin, hlk⟩) n1 n2 ha hd X hH (fun H1 j hob z oq => ?_)
  have hlo := (hH.1 a (by rw [ha]; omega)).2.2.1 (by rw [ha]; have := zcl_lt hr; omega)
  exact k' l D dA b0 tr0 h0 p e s m args below meth c' X tr H1 _ cells slots ls (hH.putR hr ha ht hS.1 hob z oq) hE (zalS_K hS.2.2 rfl) (zalL_K hL rfl) (hF.put hlo z oq) hl hc hs
theorem z_ldc {i : Nat} {v : Int32} (hd : decode (zm_c y) pc = .ok (.ldc i, 2)) (hw : Cond.constant (zm_x y).cls i v ∈ zgood) (hq : pc + 2 = q) (k : Zt y Φ rc rs q L (.int v :: S) h) : Zt y Φ rc rs pc L S h := by
  subst hq
  intro l D dA b0 tr0 h0 p e s m args below meth c X tr H locs cells slots ls hH hE hS hL hF hl hc hs
  exact lv_ldc X.1 X.2.1 X.2.2.2.2.1 (X.2.2.2.2.2.1 _ hw) hd (k l D dA b0 tr0 h0 p e s m args below meth c X tr H locs cells slots ls hH hE ⟨trivial, hS⟩ hL hF hl hc hs)
theorem z_ldcw {i : Nat} {v : Int32} (hd : decode (zm_c y) pc = .ok (.ldc_w i, 3)) (hw : Cond.constant (zm_x y).cls i v ∈ zgood) (hq : pc + 3 = q) (k : Zt y Φ rc rs q L (.int v :: S) h) : Zt y Φ rc rs pc L S h := by
  subst hq
  intro l D dA b0 tr0 h0 p e s m args below meth c X tr H locs cells slots ls hH hE hS hL hF hl hc hs
  exact lv_ldcw X.1 X.2.1 X.2.2.2.2.1 (X.2.2.2.2.2.1 _ hw) hd (k l D dA b0 tr0 h0 p e s m args below meth c X tr H locs cells slots ls hH hE ⟨trivial, hS⟩ hL hF hl hc hs)
theorem z_ldc2 {i : Nat} {v : Int64} (hd : decode (zm_c y) pc = .ok (.ldc2_w i, 3)) (hw : Cond.constantLong (zm_x y).cls i v ∈ zgood) (hq : pc + 3 = q) (k : Zt y Φ rc rs q L (.long v :: S) h) : Zt y Φ rc rs pc L S h := by
  subst hq
  intro l D dA b0 tr0 h0 p e s m args below meth c X tr H locs cells slots ls hH hE hS hL hF hl hc hs
  exact lv_ldc2 X.1 X.2.1 X.2.2.2.2.1 (X.2.2.2.2.2.1 _ hw) hd (k l D dA b0 tr0 h0 p e s m args below meth c X tr H locs cells slots ls hH hE ⟨trivial, hS⟩ hL hF hl hc hs)
theorem z_getst {i a : Nat} {f : String} (hd : decode (zm_c y) pc = .ok (.getstatic i, 3)) (hm : (f, a) ∈ zst) (hw : Cond.fieldLink (zm_x y).cls i RX10 f "[I" ∈ zgood) (hq : pc + 3 = q) (k : Zt y Φ rc rs q L (.ref a :: S) h) : Zt y Φ rc rs pc L S h := by
  subst hq
  intro l D dA b0 tr0 h0 p e s m args below meth c X tr H locs cells slots ls hH hE hS hL hF hl hc hs
  obtain ⟨⟨cf, kf, fi, fd, st, cell, h1, h2, h3, h4, h5, h6, h7, h8⟩, hz⟩ := hH.2.2.2.2 _ hm
  exact W.gets X.1 X.2.1 X.2.2.2.2.1 (X.2.2.2.2.2.1 _ hw) h1 h2 h3 h4 h5 (fun e => by rw [e] at h6; cases h6) h7 rfl hd (k l D dA b0 tr0 h0 p e s m args below meth c X tr H locs cells slots ls hH hE ⟨by show zK h a ≠ 0; rw [hz]; decide, hS⟩ hL hF hl hc hs)
end ZMEM
