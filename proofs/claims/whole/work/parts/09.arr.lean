theorem zarrT {D : va_G} {dA : Nat → ClassId} {s : State} (hK : va_K D vwCl (ztys dA) s) {kd : Nat} (h1 : 20 ≤ kd) (h2 : kd < 30) : ArrOfT s (dA kd) (zat kd) ∧ va_RA s (dA kd) (zat kd) := by
  obtain ⟨j, rfl⟩ : ∃ j, kd = 20 + j := ⟨kd - 20, by omega⟩
  have hj : j < 10 := by omega
  match j, hj with
  | 0, _ => exact hK.2 0 _ rfl
  | 1, _ => exact hK.2 1 _ rfl
  | 2, _ => exact hK.2 2 _ rfl
  | 3, _ => exact hK.2 3 _ rfl
  | 4, _ => exact hK.2 4 _ rfl
  | 5, _ => exact hK.2 5 _ rfl
  | 6, _ => exact hK.2 6 _ rfl
  | 7, _ => exact hK.2 7 _ rfl
  | 8, _ => exact hK.2 8 _ rfl
  | 9, _ => exact hK.2 9 _ rfl
section ZARR
variable {y : ZM} {Φ : Option Value → ZH → Prop} {rc rs pc q : Nat} {L : List (Option Value)} {S : List Value} {h : ZH}
theorem zav_i {tr : Nat → Nat} {a : Nat} (hk : zK h a = 20 ∨ zK h a = 21) (j : Nat) : zav tr h a j = .int (zI h a j) := if_pos hk
theorem zav_l {tr : Nat → Nat} {a : Nat} (hk : zK h a = 22) (j : Nat) : zav tr h a j = .long (zL h a j) := by
  unfold zav
  rw [if_neg (by omega), if_pos hk]
theorem zav_r {tr : Nat → Nat} {a : Nat} (hk : 23 ≤ zK h a) (j : Nat) : zav tr h a j = zrv tr (zR h a j) := by
  unfold zav
  rw [if_neg (by omega), if_neg (by omega)]
theorem z_iald {a : Nat} {i : Int32} (hd : decode (zm_c y) pc = .ok (.iaload, 1)) (hk : zK h a = 20 ∨ zK h a = 30) (hin : vp_in i (zN h a)) (hq : pc + 1 = q) (k : Zt y Φ rc rs q L (.int (zI h a i.toNatClampNeg) :: S) h) : Zt y Φ rc rs pc L (.int i :: .ref a :: S) h := by
  subst hq
  intro l D dA b0 tr0 h0 p e s m args below meth c X tr H locs cells slots ls hH hE hS hL hF hl hc hs
  have hK := X.2.2.2.2.2.2.2.2.1
  have hlt : i.toNatClampNeg < zN h a := Nat.not_le.mp fun q => hin (Or.inr q)
  have kk := k l D dA b0 tr0 h0 p e s m args below meth c X tr H locs cells slots ls hH hE ⟨trivial, hS.2.2⟩ hL hF hl hc hs
  rcases hk with hk | hk
  · have hcell := (hH.1 a (by rw [hk]; decide)).1.1 (by omega) (by omega)
    exact W.iald (v := .int (zI h a i.toNatClampNeg)) X.1 X.2.1 hcell (by rw [hk]; exact (zarrT hK (kd := 20) (by omega) (by omega)).1 _ _) (fun q => by cases q) (by rw [arrV_size]; exact hin) (by rw [arrV_read _ _ hlt, zav_i (Or.inl hk)]) rfl rfl hd kk
  · obtain ⟨cell, g1, g2, g3, g4, g5⟩ := (hH.1 a (by rw [hk]; decide)).1.2.1 hk
    exact W.iald (v := .int (zI h a i.toNatClampNeg)) X.1 X.2.1 g1 g2 g3 (by rw [g4]; exact hin) (g5 _ hlt) rfl rfl hd kk
theorem z_bald {a : Nat} {i : Int32} (hd : decode (zm_c y) pc = .ok (.baload, 1)) (hk : zK h a = 21) (hin : vp_in i (zN h a)) (hq : pc + 1 = q) (k : Zt y Φ rc rs q L (.int (zI h a i.toNatClampNeg) :: S) h) : Zt y Φ rc rs pc L (.int i :: .ref a :: S) h := by
  subst hq
  intro l D dA b0 tr0 h0 p e s m args below meth c X tr H locs cells slots ls hH hE hS hL hF hl hc hs
  have hK := X.2.2.2.2.2.2.2.2.1
  have hlt : i.toNatClampNeg < zN h a := Nat.not_le.mp fun q => hin (Or.inr q)
  have kk := k l D dA b0 tr0 h0 p e s m args below meth c X tr H locs cells slots ls hH hE ⟨trivial, hS.2.2⟩ hL hF hl hc hs
  have hcell := (hH.1 a (by rw [hk]; decide)).1.1 (by omega) (by omega)
  exact W.zald (v := .int (zI h a i.toNatClampNeg)) X.1 X.2.1 hcell (by rw [hk]; exact (zarrT hK (kd := 21) (by omega) (by omega)).1 _ _) (fun q => by cases q) (by rw [arrV_size]; exact hin) (by rw [arrV_read _ _ hlt, zav_i (Or.inr hk)]) rfl rfl hd kk
theorem z_lald {a : Nat} {i : Int32} (hd : decode (zm_c y) pc = .ok (.laload, 1)) (hk : zK h a = 22) (hin : vp_in i (zN h a)) (hq : pc + 1 = q) (k : Zt y Φ rc rs q L (.long (zL h a i.toNatClampNeg) :: S) h) : Zt y Φ rc rs pc L (.int i :: .ref a :: S) h := by
  subst hq
  intro l D dA b0 tr0 h0 p e s m args below meth c X tr H locs cells slots ls hH hE hS hL hF hl hc hs
  have hK := X.2.2.2.2.2.2.2.2.1
  have hlt : i.toNatClampNeg < zN h a := Nat.not_le.mp fun q => hin (Or.inr q)
  have kk := k l D dA b0 tr0 h0 p e s m args below meth c X tr H locs cells slots ls hH hE ⟨trivial, hS.2.2⟩ hL hF hl hc hs
  have hcell := (hH.1 a (by rw [hk]; decide)).1.1 (by omega) (by omega)
  exact W.lald (v := .long (zL h a i.toNatClampNeg)) X.1 X.2.1 hcell (by rw [hk]; exact (zarrT hK (kd := 22) (by omega) (by omega)).1 _ _) (fun q => by cases q) (by rw [arrV_size]; exact hin) (by rw [arrV_read _ _ hlt, zav_l hk]) rfl rfl hd kk
theorem z_aald {a kd : Nat} {i : Int32} (hd : decode (zm_c y) pc = .ok (.aaload, 1)) (hk : zK h a = kd) (h1 : 23 ≤ kd) (h2 : kd < 30) (ht : (zat kd).isReference = true) (hin : vp_in i (zN h a)) (hn : zR h a i.toNatClampNeg ≠ 0) (hq : pc + 1 = q) (k : Zt y Φ rc rs q L (.ref (zR h a i.toNatClampNeg) :: S) h) : Zt y Φ rc rs pc L (.int i :: .ref a :: S) h := by
  subst hq
  intro l D dA b0 tr0 h0 p e s m args below meth c X tr H locs cells slots ls hH hE hS hL hF hl hc hs
  have hK := X.2.2.2.2.2.2.2.2.1
  have hlt : i.toNatClampNeg < zN h a := Nat.not_le.mp fun q => hin (Or.inr q)
  have kk := k l D dA b0 tr0 h0 p e s m args below meth c X tr H locs cells slots ls hH hE ⟨hH.2.2.1 a _ (by omega) hn, hS.2.2⟩ hL hF hl hc hs
  have hcell := (hH.1 a (by omega)).1.1 (by omega) (by omega)
  exact W.aald (v := .ref (tr (zR h a i.toNatClampNeg))) (ty := zat kd) X.1 X.2.1 hcell (by rw [hk]; exact (zarrT hK (kd := kd) (by omega) (by omega)).1 _ _) ht (fun q => by cases q) (by rw [arrV_size]; exact hin) (by rw [arrV_read _ _ hlt, zav_r (by omega), zrv, if_neg hn]) rfl rfl hd kk
theorem z_alen {a : Nat} (hd : decode (zm_c y) pc = .ok (.arraylength, 1)) (hk : 20 ≤ zK h a) (hk2 : zK h a ≤ 30) (hq : pc + 1 = q) (k : Zt y Φ rc rs q L (.int (Int32.ofNat (zN h a)) :: S) h) : Zt y Φ rc rs pc L (.ref a :: S) h := by
  subst hq
  intro l D dA b0 tr0 h0 p e s m args below meth c X tr H locs cells slots ls hH hE hS hL hF hl hc hs
  have hK := X.2.2.2.2.2.2.2.2.1
  have kk := k l D dA b0 tr0 h0 p e s m args below meth c X tr H locs cells slots ls hH hE ⟨trivial, hS.2⟩ hL hF hl hc hs
  by_cases e30 : zK h a = 30
  · obtain ⟨cell, g1, g2, g3, g4, g5⟩ := (hH.1 a (by omega)).1.2.1 e30
    exact W.alen (n := Int32.ofNat (zN h a)) X.1 X.2.1 g1 g2 (by rw [g4]) rfl rfl hd kk
  · have hcell := (hH.1 a (by omega)).1.1 (by omega) (by omega)
    exact W.alen (n := Int32.ofNat (zN h a)) (ty := zat (zK h a)) X.1 X.2.1 hcell ((zarrT hK (by omega) (by omega)).1 _ _) (by rw [arrV_size]) rfl rfl hd kk
/-- an array written: the picture's side -/
theorem zHR.arr {D : va_G} {dA : Nat → ClassId} {b0 : Nat} {tr : Nat → Nat} {s : State} {H H1 : Heap} {a : Nat} {h1 : ZH} (hH : zHR D dA b0 tr h s H) (k1 : 20 ≤ zK h a) (k2 : zK h a < 30) (ek : zK h1 = zK h) (en : zN h1 = zN h) (ho : ∀ b, b ≠ a → (∀ j, zI h1 b j = zI h b j) ∧ (∀ j, zL h1 b j = zL h b j) ∧ ∀ j, zR h1 b j = zR h b j) (hr : ∀ j, zR h1 a j ≠ 0 → zK h (zR h1 a j) ≠ 0)
    (hc : H1[tr a]? = some (arrV (dA (zK h a)) (zN h a) (zav tr h1 a))) (z : H1.size = H.size) (oq : ∀ q : Nat, q ≠ tr a → H1[q]? = H[q]?) : zHR D dA b0 tr h1 s H1 := by
  refine hH.set ek en (by omega) (by omega) ho ⟨fun _ _ => by rw [ek, en]; exact hc, fun g => ?_, fun c r g g2 => ?_⟩ hr z oq
  · rw [ek] at g; omega
  · rw [ek] at g
    have := zcl_lt g2
    omega
theorem z_iast {a : Nat} {i v : Int32} (hd : decode (zm_c y) pc = .ok (.iastore, 1)) (hk : zK h a = 20) (hin : vp_in i (zN h a)) (hq : pc + 1 = q) (k : Zt y Φ rc rs q L S (zsI h a i.toNatClampNeg v)) : Zt y Φ rc rs pc L (.int v :: .int i :: .ref a :: S) h := by
  subst hq
  intro l D dA b0 tr0 h0 p e s m args below meth c X tr H locs cells slots ls hH hE hS hL hF hl hc hs
  have hK := X.2.2.2.2.2.2.2.2.1
  have hcell := (hH.1 a (by omega)).1.1 (by omega) (by omega)
  have hlo := (hH.1 a (by omega)).2.2.1 (by omega)
  refine W.iast X.1 X.2.1 hcell (by rw [hk]; exact (zarrT hK (kd := 20) (by omega) (by omega)).1 _ _) (fun q => by cases q) (by rw [arrV_size]; exact hin) rfl rfl hd (fun H1 e1 z oq => ?_)
  rw [arrV_store] at e1
  refine k l D dA b0 tr0 h0 p e s m args below meth c X tr H1 _ cells slots ls (hH.arr (h1 := zsI h a i.toNatClampNeg v) (by omega) (by omega) rfl rfl (fun b hb => ⟨fun j => if_neg (fun e => hb e.1), fun _ => rfl, fun _ => rfl⟩) (fun j hj => hH.2.2.1 a j (by omega) hj) ?_ z oq) hE (zalS_K hS.2.2.2 rfl) (zalL_K hL rfl) (hF.put hlo z oq) hl hc hs
  rw [e1]
  congr 2
  funext j
  rw [zav_i (h := zsI h a i.toNatClampNeg v) (Or.inl hk)]
  unfold updV
  by_cases ej : j = i.toNatClampNeg
  · subst ej
    rw [if_pos rfl]
    exact congrArg Value.int (if_pos ⟨rfl, rfl⟩).symm
  · rw [if_neg ej, zav_i (Or.inl hk)]
    exact congrArg Value.int (if_neg (fun q => ej q.2)).symm
theorem z_bast {a : Nat} {i v : Int32} (hd : decode (zm_c y) pc = .ok (.bastore, 1)) (hk : zK h a = 21) (hin : vp_in i (zN h a)) (hv : v = 0 ∨ v = 1) (hq : pc + 1 = q) (k : Zt y Φ rc rs q L S (zsI h a i.toNatClampNeg v)) : Zt y Φ rc rs pc L (.int v :: .int i :: .ref a :: S) h := by
  subst hq
  intro l D dA b0 tr0 h0 p e s m args below meth c X tr H locs cells slots ls hH hE hS hL hF hl hc hs
  have hK := X.2.2.2.2.2.2.2.2.1
  have hcell := (hH.1 a (by omega)).1.1 (by omega) (by omega)
  have hlo := (hH.1 a (by omega)).2.2.1 (by omega)
  refine W.zast X.1 X.2.1 hcell (by rw [hk]; exact (zarrT hK (kd := 21) (by omega) (by omega)).1 _ _) (fun q => by cases q) (by rw [arrV_size]; exact hin) rfl rfl hd (fun H1 e1 z oq => ?_)
  have en : narrow .boolean (.int v) = .int v := by rcases hv with rfl | rfl <;> rfl
  rw [en, arrV_store] at e1
  refine k l D dA b0 tr0 h0 p e s m args below meth c X tr H1 _ cells slots ls (hH.arr (h1 := zsI h a i.toNatClampNeg v) (by omega) (by omega) rfl rfl (fun b hb => ⟨fun j => if_neg (fun e => hb e.1), fun _ => rfl, fun _ => rfl⟩) (fun j hj => hH.2.2.1 a j (by omega) hj) ?_ z oq) hE (zalS_K hS.2.2.2 rfl) (zalL_K hL rfl) (hF.put hlo z oq) hl hc hs
  rw [e1]
  congr 2
  funext j
  rw [zav_i (h := zsI h a i.toNatClampNeg v) (Or.inr hk)]
  unfold updV
  by_cases ej : j = i.toNatClampNeg
  · subst ej
    rw [if_pos rfl]
    exact congrArg Value.int (if_pos ⟨rfl, rfl⟩).symm
  · rw [if_neg ej, zav_i (Or.inr hk)]
    exact congrArg Value.int (if_neg (fun q => ej q.2)).symm
theorem z_last {a : Nat} {i : Int32} {v : Int64} (hd : decode (zm_c y) pc = .ok (.lastore, 1)) (hk : zK h a = 22) (hin : vp_in i (zN h a)) (hq : pc + 1 = q) (k : Zt y Φ rc rs q L S (zsL h a i.toNatClampNeg v)) : Zt y Φ rc rs pc L (.long v :: .int i :: .ref a :: S) h := by
  subst hq
  intro l D dA b0 tr0 h0 p e s m args below meth c X tr H locs cells slots ls hH hE hS hL hF hl hc hs
  have hK := X.2.2.2.2.2.2.2.2.1
  have hcell := (hH.1 a (by omega)).1.1 (by omega) (by omega)
  have hlo := (hH.1 a (by omega)).2.2.1 (by omega)
  refine W.last X.1 X.2.1 hcell (by rw [hk]; exact (zarrT hK (kd := 22) (by omega) (by omega)).1 _ _) (fun q => by cases q) (by rw [arrV_size]; exact hin) rfl rfl hd (fun H1 e1 z oq => ?_)
  rw [arrV_store] at e1
  refine k l D dA b0 tr0 h0 p e s m args below meth c X tr H1 _ cells slots ls (hH.arr (h1 := zsL h a i.toNatClampNeg v) (by omega) (by omega) rfl rfl (fun b hb => ⟨fun _ => rfl, fun j => if_neg (fun e => hb e.1), fun _ => rfl⟩) (fun j hj => hH.2.2.1 a j (by omega) hj) ?_ z oq) hE (zalS_K hS.2.2.2 rfl) (zalL_K hL rfl) (hF.put hlo z oq) hl hc hs
  rw [e1]
  congr 2
  funext j
  rw [zav_l (h := zsL h a i.toNatClampNeg v) hk]
  unfold updV
  by_cases ej : j = i.toNatClampNeg
  · subst ej
    rw [if_pos rfl]
    exact congrArg Value.long (if_pos ⟨rfl, rfl⟩).symm
  · rw [if_neg ej, zav_l hk]
    exact congrArg Value.long (if_neg (fun q => ej q.2)).symm
theorem z_aast {a v kd c : Nat} {i : Int32} {r : vw_C} (hd : decode (zm_c y) pc = .ok (.aastore, 1)) (hk : zK h a = kd) (h1 : 23 ≤ kd) (h2 : kd < 30) (hr : vwCl[c]? = some r) (ht : zat kd = .object r.1) (hv : zK h v = c + 1) (hin : vp_in i (zN h a)) (hq : pc + 1 = q) (k : Zt y Φ rc rs q L S (zsR h a i.toNatClampNeg v)) : Zt y Φ rc rs pc L (.ref v :: .int i :: .ref a :: S) h := by
  subst hq
  intro l D dA b0 tr0 h0 p e s m args below meth c' X tr H locs cells slots ls hH hE hS hL hF hl hc hs
  have hK := X.2.2.2.2.2.2.2.2.1
  have hcell := (hH.1 a (by omega)).1.1 (by omega) (by omega)
  have hlo := (hH.1 a (by omega)).2.2.1 (by omega)
  have hlt : i.toNatClampNeg < zN h a := Nat.not_le.mp fun q => hin (Or.inr q)
  have h0' : ¬ i < 0 := fun q => hin (Or.inl q)
  have hv0 : v ≠ 0 := fun e => by rw [e, hH.2.2.2.1] at hv; omega
  obtain ⟨cellV, g1, g2, g3, -⟩ := (hH.1 v (by omega)).1.2.2 c r hv hr
  have hcls := (hK.1 c r hr).2
  have hRA := (zarrT hK (kd := kd) (by omega) h2).2
  rw [ht] at hRA
  obtain ⟨kA, comp, k1, k2, k3, -⟩ := hRA
  have hcomp : comp = D.1 c := Option.some.inj (k3.symm.trans hcls.1)
  subst hcomp
  obtain ⟨kC, hkC, -⟩ := id hcls.2
  refine W.aast (t := .object r.1) X.1 X.2.1 hcell (fun q h => by cases h) (fun h => by cases h) (by rw [hk]; exact k1) k2 rfl hkC ⟨h0', by rw [arrV_size]; exact hlt⟩ g1 (fun q h => by rw [g3] at h; cases h) (by rw [g2]; exact hkC) (by rw [g2]; exact va_assign hcls) rfl rfl hd (fun H1 e1 z oq => ?_)
  rw [arrV_store] at e1
  refine k l D dA b0 tr0 h0 p e s m args below meth c' X tr H1 _ cells slots ls (hH.arr (h1 := zsR h a i.toNatClampNeg v) (by omega) (by omega) rfl rfl (fun b hb => ⟨fun _ => rfl, fun _ => rfl, fun j => if_neg (fun e => hb e.1)⟩) (fun j hj => ?_) ?_ z oq) hE (zalS_K hS.2.2.2 rfl) (zalL_K hL rfl) (hF.put hlo z oq) hl hc hs
  · by_cases ej : j = i.toNatClampNeg
    · subst ej
      have e2 : zR (zsR h a i.toNatClampNeg v) a i.toNatClampNeg = v := if_pos ⟨rfl, rfl⟩
      rw [e2]
      omega
    · have e2 : zR (zsR h a i.toNatClampNeg v) a j = zR h a j := if_neg (fun q => ej q.2)
      rw [e2] at hj ⊢
      exact hH.2.2.1 a j (by omega) hj
  · rw [e1]
    congr 2
    funext j
    rw [zav_r (h := zsR h a i.toNatClampNeg v) (by show 23 ≤ zK h a; omega)]
    unfold updV
    by_cases ej : j = i.toNatClampNeg
    · subst ej
      have e2 : zR (zsR h a i.toNatClampNeg v) a i.toNatClampNeg = v := if_pos ⟨rfl, rfl⟩
      rw [if_pos rfl, e2, zrv, if_neg hv0]
    · have e2 : zR (zsR h a i.toNatClampNeg v) a j = zR h a j := if_neg (fun q => ej q.2)
      rw [if_neg ej, zav_r (by omega), e2]
end ZARR
