section ZCALL2
variable {y : ZM} {Φ : Option Value → ZH → Prop} {rc rs rc' rs' pc q : Nat} {L : List (Option Value)} {S S0 : List Value} {h : ZH}
theorem z_callSI {y' : ZM} {av : List Value} {n i : Nat} {ψ : Int32 → ZH → Prop} (hC : ZcI y' av h ψ) (hd : decode (zm_c y) pc = .ok (.invokestatic i, 3)) (hlk : zML (zm_x y).cls i (zm_x y')) (ok : zOK y' n) (hst : Cond.static (zm_x y') ∈ zgood) (hn : av.length = n) (hw : (S.map fun v => v.category).sum ≤ 8) (hdp : zm_d y' + 1 ≤ zm_d y) (hml : zm_n y' ≤ 45) (hS : av.reverse ++ S = S0) (hrc : rc + zm_k y' = rc') (hrs : rs + zm_s y' = rs') (hq : pc + 3 = q)
    (kk : ∀ x h1, ψ x h1 → Zt y Φ rc rs q L (.int x :: S) h1) : Zt y Φ rc' rs' pc L S0 h := by
  subst hS hrc hrs hq
  exact z_callS0 hC hd hlk ok hst hn hw hdp hml (fun v h1 ⟨x, e, k⟩ => by subst e; exact kk x h1 k)
theorem z_callSL {y' : ZM} {av : List Value} {n i : Nat} {ψ : Int64 → ZH → Prop} (hC : ZcL y' av h ψ) (hd : decode (zm_c y) pc = .ok (.invokestatic i, 3)) (hlk : zML (zm_x y).cls i (zm_x y')) (ok : zOK y' n) (hst : Cond.static (zm_x y') ∈ zgood) (hn : av.length = n) (hw : (S.map fun v => v.category).sum ≤ 8) (hdp : zm_d y' + 1 ≤ zm_d y) (hml : zm_n y' ≤ 45) (hS : av.reverse ++ S = S0) (hrc : rc + zm_k y' = rc') (hrs : rs + zm_s y' = rs') (hq : pc + 3 = q)
    (kk : ∀ x h1, ψ x h1 → Zt y Φ rc rs q L (.long x :: S) h1) : Zt y Φ rc' rs' pc L S0 h := by
  subst hS hrc hrs hq
  exact z_callS0 hC hd hlk ok hst hn hw hdp hml (fun v h1 ⟨x, e, k⟩ => by subst e; exact kk x h1 k)
theorem z_callSV {y' : ZM} {av : List Value} {n i : Nat} {ψ : ZH → Prop} (hC : ZcV y' av h ψ) (hd : decode (zm_c y) pc = .ok (.invokestatic i, 3)) (hlk : zML (zm_x y).cls i (zm_x y')) (ok : zOK y' n) (hst : Cond.static (zm_x y') ∈ zgood) (hn : av.length = n) (hw : (S.map fun v => v.category).sum ≤ 8) (hdp : zm_d y' + 1 ≤ zm_d y) (hml : zm_n y' ≤ 45) (hS : av.reverse ++ S = S0) (hrc : rc + zm_k y' = rc') (hrs : rs + zm_s y' = rs') (hq : pc + 3 = q)
    (kk : ∀ h1, ψ h1 → Zt y Φ rc rs q L S h1) : Zt y Φ rc' rs' pc L S0 h := by
  subst hS hrc hrs hq
  exact z_callS0 hC hd hlk ok hst hn hw hdp hml (fun v h1 ⟨e, k⟩ => by subst e; exact kk h1 k)
theorem z_callVI {y' : ZM} {b ci : Nat} {av : List Value} {n i : Nat} {r : vw_C} {ψ : Int32 → ZH → Prop} (hC : ZcI y' (.ref b :: av) h ψ) (hd : decode (zm_c y) pc = .ok (.invokevirtual i, 3)) (hlk : zML (zm_x y).cls i (zm_x y')) (ok : zOK y' n) (hin : Cond.instanceMethod (zm_x y') ∈ zgood) (hse : Cond.selects (zm_x y').cls (zm_x y') (zm_x y') ∈ zgood) (hr : vwCl[ci]? = some r) (hcl : r.1 = (zm_x y').cls) (hb0 : zK h b = ci + 1) (hn : av.length = n) (hw : (S.map fun v => v.category).sum ≤ 8) (hdp : zm_d y' + 1 ≤ zm_d y) (hml : zm_n y' ≤ 45) (hS : av.reverse ++ .ref b :: S = S0) (hrc : rc + zm_k y' = rc') (hrs : rs + zm_s y' = rs') (hq : pc + 3 = q)
    (kk : ∀ x h1, ψ x h1 → Zt y Φ rc rs q L (.int x :: S) h1) : Zt y Φ rc' rs' pc L S0 h := by
  subst hS hrc hrs hq
  exact z_callV0 hC hd hlk ok hin hse hr hcl hb0 hn hw hdp hml (fun v h1 ⟨x, e, k⟩ => by subst e; exact kk x h1 k)
theorem z_callVL {y' : ZM} {b ci : Nat} {av : List Value} {n i : Nat} {r : vw_C} {ψ : Int64 → ZH → Prop} (hC : ZcL y' (.ref b :: av) h ψ) (hd : decode (zm_c y) pc = .ok (.invokevirtual i, 3)) (hlk : zML (zm_x y).cls i (zm_x y')) (ok : zOK y' n) (hin : Cond.instanceMethod (zm_x y') ∈ zgood) (hse : Cond.selects (zm_x y').cls (zm_x y') (zm_x y') ∈ zgood) (hr : vwCl[ci]? = some r) (hcl : r.1 = (zm_x y').cls) (hb0 : zK h b = ci + 1) (hn : av.length = n) (hw : (S.map fun v => v.category).sum ≤ 8) (hdp : zm_d y' + 1 ≤ zm_d y) (hml : zm_n y' ≤ 45) (hS : av.reverse ++ .ref b :: S = S0) (hrc : rc + zm_k y' = rc') (hrs : rs + zm_s y' = rs') (hq : pc + 3 = q)
    (kk : ∀ x h1, ψ x h1 → Zt y Φ rc rs q L (.long x :: S) h1) : Zt y Φ rc' rs' pc L S0 h := by
  subst hS hrc hrs hq
  exact z_callV0 hC hd hlk ok hin hse hr hcl hb0 hn hw hdp hml (fun v h1 ⟨x, e, k⟩ => by subst e; exact kk x h1 k)
theorem z_callVV {y' : ZM} {b ci : Nat} {av : List Value} {n i : Nat} {r : vw_C} {ψ : ZH → Prop} (hC : ZcV y' (.ref b :: av) h ψ) (hd : decode (zm_c y) pc = .ok (.invokevirtual i, 3)) (hlk : zML (zm_x y).cls i (zm_x y')) (ok : zOK y' n) (hin : Cond.instanceMethod (zm_x y') ∈ zgood) (hse : Cond.selects (zm_x y').cls (zm_x y') (zm_x y') ∈ zgood) (hr : vwCl[ci]? = some r) (hcl : r.1 = (zm_x y').cls) (hb0 : zK h b = ci + 1) (hn : av.length = n) (hw : (S.map fun v => v.category).sum ≤ 8) (hdp : zm_d y' + 1 ≤ zm_d y) (hml : zm_n y' ≤ 45) (hS : av.reverse ++ .ref b :: S = S0) (hrc : rc + zm_k y' = rc') (hrs : rs + zm_s y' = rs') (hq : pc + 3 = q)
    (kk : ∀ h1, ψ h1 → Zt y Φ rc rs q L S h1) : Zt y Φ rc' rs' pc L S0 h := by
  subst hS hrc hrs hq
  exact z_callV0 hC hd hlk ok hin hse hr hcl hb0 hn hw hdp hml (fun v h1 ⟨e, k⟩ => by subst e; exact kk h1 k)
theorem z_callCV {y' : ZM} {b : Nat} {av : List Value} {n i : Nat} {ψ : ZH → Prop} (hC : ZcV y' (.ref b :: av) h ψ) (hd : decode (zm_c y) pc = .ok (.invokespecial i, 3)) (hlk : zML (zm_x y).cls i (zm_x y')) (ok : zOK y' n) (hrt : zm_r y' = none) (hin : Cond.instanceMethod (zm_x y') ∈ zgood) (hnm0 : (zm_x y').name = "<init>") (hn : av.length = n) (hw : (S.map fun v => v.category).sum ≤ 8) (hdp : zm_d y' + 1 ≤ zm_d y) (hml : zm_n y' ≤ 45) (hS : av.reverse ++ .ref b :: S = S0) (hrc : rc + zm_k y' = rc') (hrs : rs + zm_s y' = rs') (hq : pc + 3 = q)
    (kk : ∀ h1, ψ h1 → Zt y Φ rc rs q L S h1) : Zt y Φ rc' rs' pc L S0 h := by
  subst hS hrc hrs hq
  exact z_callC0 hC hd hlk ok hrt hin hnm0 hn hw hdp hml (fun v h1 ⟨e, k⟩ => by subst e; exact kk h1 k)
theorem zobj_in : Cond.instanceMethod objectInit ∈ zgood := zgood_t 22 (by decide +kernel) (by decide +kernel)
theorem zobj_code : Cond.code objectInit ⟨#[0xb1]⟩ 1 none ∈ zgood := zgood_t 23 (by decide +kernel) (by decide +kernel)
theorem z_objInit {b i : Nat} (hd : decode (zm_c y) pc = .ok (.invokespecial i, 3)) (hlk : Cond.methodLink (zm_x y).cls i objectInit ∈ zgood) (hw : (S.map fun v => v.category).sum ≤ 8) (hdp : 1 ≤ zm_d y) (hq : pc + 3 = q) (k : Zt y Φ rc rs q L S h) : Zt y Φ rc rs pc L (.ref b :: S) h := by
  subst hq
  intro l D dA b0 tr0 h0 p e s m args below meth c X tr H locs cells slots ls hH hE hS hL hF hl hc hs
  obtain ⟨hx, hb, hr0, hmlx, hown, hts, hlkx, hnm, hK, hN, hbx⟩ := id X
  exact W.objInit hx hb hown (hts _ hlk) (hts _ zobj_in) (hts _ zobj_code) rfl (by rw [hmlx]; exact hl.1) rfl hd (by show 1 ≤ zm_d y; exact hdp) (by rw [zcatsum]; show 2 * 0 + _ + 12 ≤ 64 * zm_d y; omega) (k l D dA b0 tr0 h0 p e s m args below meth c X tr H locs cells slots ls hH hE hS.2 hL hF hl hc hs)
theorem zac_st : Cond.static arraycopyName ∈ zgood := zgood_t 277 (by decide +kernel) (by decide +kernel)
theorem zac_nt : Cond.native arraycopyName ∈ zgood := zgood_t 278 (by decide +kernel) (by decide +kernel)
theorem zac_in : Cond.initialized "java/lang/System" ∈ zgood := zgood_t 9 (by decide +kernel) (by decide +kernel)
theorem zac_nn {z : Int32} (hz : ¬ z < 0) : z.toInt = (z.toNatClampNeg : Int) := by
  have hz0 : (0 : Int) ≤ z.toInt := by
    have := Int32.not_lt.mp hz
    simpa using Int32.le_iff_toInt_le.mp this
  show z.toInt = ((z.toInt.toNat : Nat) : Int)
  omega
/-- n ints of the array b, from sp on, laid into the array a (another one), from dp on -/
theorem z_acp {a b kd i : Nat} {sp dp n : Int32} (hd : decode (zm_c y) pc = .ok (.invokestatic i, 3)) (hlk : Cond.methodLink (zm_x y).cls i arraycopyName ∈ zgood) (hka : zK h a = kd) (hkb : zK h b = kd ∨ (zK h b = 30 ∧ kd = 20)) (hkd : kd = 20 ∨ kd = 21) (hne : a ≠ b) (h1 : ¬ sp < 0) (h2 : ¬ dp < 0) (h3 : ¬ n < 0) (h4 : sp.toNatClampNeg + n.toNatClampNeg ≤ zN h b) (h5 : dp.toNatClampNeg + n.toNatClampNeg ≤ zN h a) (hz : kd = 21 → ∀ j, j < n.toNatClampNeg → zI h b (sp.toNatClampNeg + j) = 0 ∨ zI h b (sp.toNatClampNeg + j) = 1) (hw : (S.map fun v => v.category).sum ≤ 8) (hdp : 1 ≤ zm_d y) (hq : pc + 3 = q)
    (k : Zt y Φ rc rs q L S (zcp h b sp.toNatClampNeg a dp.toNatClampNeg n.toNatClampNeg)) : Zt y Φ rc rs pc L (.int n :: .int dp :: .ref a :: .int sp :: .ref b :: S) h := by
  subst hq
  intro l D dA b0 tr0 h0 p e s m args below meth c X tr H locs cells slots ls hH hE hS hL hF hl hc hs
  obtain ⟨hx, hb, hr0, hmlx, hown, hts, hlkx, hnm, hK, hN, hbx⟩ := id X
  have hca := (hH.1 a (by omega)).1.1 (by omega) (by omega)
  have hloa := (hH.1 a (by omega)).2.2.1 (by omega)
  rw [hka] at hca
  obtain ⟨-, ka, hka1, cma, hkka⟩ := (zarrT hK (kd := kd) (by omega) (by omega)).1 (zN h a) (zav tr h a)
  -- the source: its cell, its class, its values
  obtain ⟨cb, kb, cmb, g1, g2, g3, g4, g5, g6, g7⟩ : ∃ (cb : Cell) (kb : Class) (cmb : ClassId), H[tr b]? = some cb ∧ (∀ z, cb.vm ≠ .statics z) ∧ cb.vm ≠ .unknown ∧ s.vm.classes[cb.cls]? = some kb ∧ kb.kind = .array cmb (zat kd) ∧ cb.slots.size = zN h b ∧ ∀ j, j < zN h b → cb.slots[j]? = some (.int (zI h b j)) := by
    rcases hkb with hkb | ⟨hkb, e20⟩
    · have hcb := (hH.1 b (by omega)).1.1 (by omega) (by omega)
      rw [hkb] at hcb
      obtain ⟨-, kb, hkb1, cmb, hkkb⟩ := (zarrT hK (kd := kd) (by omega) (by omega)).1 (zN h b) (zav tr h b)
      exact ⟨_, kb, cmb, hcb, fun _ z => (by cases z), fun z => (by cases z), hkb1, hkkb, arrV_size _ _ _, fun j hj => by rw [arrV_read _ _ hj, zav_i (by omega)]⟩
    · subst e20
      obtain ⟨cell, q1, ⟨q2, kb, q3, cmb, q4⟩, q5, q6, q7⟩ := (hH.1 b (by omega)).1.2.1 hkb
      exact ⟨cell, kb, cmb, q1, q2, q5, q3, q4, q6, q7⟩
  have hval : ∀ j, j < n.toNatClampNeg → cb.slots.getD (sp.toNatClampNeg + j) .null = .int (zI h b (sp.toNatClampNeg + j)) := fun j hj => by
    rw [Array.getD_eq_getD_getElem?, g7 _ (by omega)]
    rfl
  have hnw : nativeFrameWords "java/lang/System" "arraycopy" 5 ≤ 40 := by decide +kernel
  intro T hT XS
  obtain ⟨vm', X', step⟩ := XS.arraycopy hx hown (hts _ hlk) (hts _ zac_nt) (hts _ zac_st) (hts _ zac_in) (src := tr b) (dst := tr a) (cs := cb) (cd := arrV (dA kd) (zN h a) (zav tr h a)) (srcPos := sp) (destPos := dp) (n := n) (by rw [hT]; exact g1) (by rw [hT]; exact hca)
    g2 (fun _ z => by cases z) g3 (fun z => by cases z) g4 hka1 g5 hkka (by rcases hkd with rfl | rfl <;> simp [zat, refKind]) h1 h2 h3
    (by rw [zac_nn h1, zac_nn h3, g6]; omega)
    (by rw [zac_nn h2, zac_nn h3, arrV_size]; omega)
    (fun vm₁ _ j hj => by
      rw [hval j hj]
      refine ⟨?_, trivial⟩
      rcases hkd with rfl | rfl
      · rfl
      · rcases hz rfl j hj with e1 | e1 <;> rw [e1] <;> rfl)
    (g := F0 m pc ls (.int n :: .int dp :: .ref (tr a) :: .int sp :: .ref (tr b) :: S.map (ztr tr))) rfl (by rw [hmlx]; exact hl.1) (rest := S.map (ztr tr)) rfl (by rw [hb]; exact hd) (by show 1 ≤ zm_d y; exact hdp) (by rw [zcatsum]; show 2 * 0 + _ + (nativeFrameWords "java/lang/System" "arraycopy" 5 + 11) ≤ 64 * zm_d y; omega)
  have hcop : copied cb (arrV (dA kd) (zN h a) (zav tr h a)) sp dp n = arrV (dA kd) (zN h a) (zav tr (zcp h b sp.toNatClampNeg a dp.toNatClampNeg n.toNatClampNeg) a) := by
    have e9 : cb.stretch sp.toNatClampNeg n.toNatClampNeg = (List.range n.toNatClampNeg).map (fun j => .int (zI h b (sp.toNatClampNeg + j))) := by
      unfold Cell.stretch
      exact List.map_congr_left (fun j hj => hval j (List.mem_range.mp hj))
    show (arrV (dA kd) (zN h a) (zav tr h a)).storeRun dp.toNatClampNeg (cb.stretch sp.toNatClampNeg n.toNatClampNeg) = _
    rw [e9, Cell.storeRun, va_pairs]
    congr 1
    funext j
    simp only [List.length_map, List.length_range, Nat.add_zero]
    have ez : zav tr (zcp h b sp.toNatClampNeg a dp.toNatClampNeg n.toNatClampNeg) a j = .int (zI (zcp h b sp.toNatClampNeg a dp.toNatClampNeg n.toNatClampNeg) a j) := zav_i (h := zcp h b sp.toNatClampNeg a dp.toNatClampNeg n.toNatClampNeg) (by show zK h a = 20 ∨ zK h a = 21; omega) j
    rw [ez]
    by_cases hj : dp.toNatClampNeg ≤ j ∧ j < dp.toNatClampNeg + n.toNatClampNeg
    · rw [if_pos hj, List.getD_eq_getElem?_getD, List.getElem?_map, List.getElem?_range (by omega)]
      exact congrArg Value.int (if_pos ⟨rfl, hj.1, hj.2⟩).symm
    · rw [if_neg hj, zav_i (by omega)]
      exact congrArg Value.int (if_neg (fun q => hj q.2)).symm
  rw [hcop] at X' step
  have hlt : tr a < H.size := (hH.1 a (by omega)).2.1
  generalize hH1 : H.setIfInBounds (tr a) (arrV (dA kd) (zN h a) (zav tr (zcp h b sp.toNatClampNeg a dp.toNatClampNeg n.toNatClampNeg) a)) = H1
  have hheap : ((T.setVm vm').setCell (tr a) (arrV (dA kd) (zN h a) (zav tr (zcp h b sp.toNatClampNeg a dp.toNatClampNeg n.toNatClampNeg) a))).heap = H1 := by rw [← hH1, ← hT]; rfl
  have oq : ∀ x : Nat, x ≠ tr a → H1[x]? = H[x]? := fun x hx' => by rw [← hH1]; simp [Array.getElem?_setIfInBounds, Ne.symm hx']
  have hz1 : H1.size = H.size := by rw [← hH1]; simp
  have hat : H1[tr a]? = some (arrV (dA kd) (zN h a) (zav tr (zcp h b sp.toNatClampNeg a dp.toNatClampNeg n.toNatClampNeg) a)) := by rw [← hH1]; simp [Array.getElem?_setIfInBounds, hlt]
  obtain ⟨t, a1, b1⟩ := k l D dA b0 tr0 h0 p e s m args below meth c X tr H1 _ cells slots ls (hH.arr (h1 := zcp h b sp.toNatClampNeg a dp.toNatClampNeg n.toNatClampNeg) (a := a) (by omega) (by omega) rfl rfl (fun x hx' => ⟨fun j => if_neg (fun q => hx' q.1), fun _ => rfl, fun _ => rfl⟩) (fun j hj => hH.2.2.1 a j (by omega) hj) (by rw [hka]; exact hat) hz1 oq) hE (zalS_K hS.2.2.2.2.2 rfl) (zalL_K hL rfl)
    ⟨by rw [hz1]; exact hF.1, fun x hx' => by rw [oq x (by omega)]; exact hF.2.1 x hx', fun x hx' => by
      rcases List.mem_append.mp hx' with g | g
      · exact hF.2.2 x g
      · obtain ⟨z, -, hz'⟩ := List.mem_map.mp g
        rw [← hz']
        exact hloa⟩ hl hc hs _ hheap X'
  exact ⟨t, step t a1, b1⟩
end ZCALL2
