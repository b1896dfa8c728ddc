/-- new T[n][m]: the outer array at a (kind ko), its rows at g, g + 1 .. (kind ki, length m) -/
def zmM (h : ZH) (a ko n g ki m : Nat) : ZH :=
  (fun b => if b = a then ko else if g ≤ b ∧ b < g + n then ki else zK h b, fun b => if b = a then n else if g ≤ b ∧ b < g + n then m else zN h b,
   fun b j => if b = a ∨ (g ≤ b ∧ b < g + n) then 0 else zI h b j, fun b j => if b = a ∨ (g ≤ b ∧ b < g + n) then 0 else zL h b j, fun b j => if b = a then (if j < n then g + j else 0) else if g ≤ b ∧ b < g + n then 0 else zR h b j)
theorem zK_mM {h : ZH} {a ko n g ki m b : Nat} : zK (zmM h a ko n g ki m) b = if b = a then ko else if g ≤ b ∧ b < g + n then ki else zK h b := rfl
theorem zN_mM {h : ZH} {a ko n g ki m b : Nat} : zN (zmM h a ko n g ki m) b = if b = a then n else if g ≤ b ∧ b < g + n then m else zN h b := rfl
theorem zI_mM {h : ZH} {a ko n g ki m b j : Nat} : zI (zmM h a ko n g ki m) b j = if b = a ∨ (g ≤ b ∧ b < g + n) then 0 else zI h b j := rfl
theorem zL_mM {h : ZH} {a ko n g ki m b j : Nat} : zL (zmM h a ko n g ki m) b j = if b = a ∨ (g ≤ b ∧ b < g + n) then 0 else zL h b j := rfl
theorem zR_mM {h : ZH} {a ko n g ki m b j : Nat} : zR (zmM h a ko n g ki m) b j = if b = a then (if j < n then g + j else 0) else if g ≤ b ∧ b < g + n then 0 else zR h b j := rfl
theorem zouter (c : ClassId) (N h0 : Nat) : ∀ i : Nat, Jvm.Free.Multi.outerC c N h0 i = arrV c N (fun j => if j < i then .ref (h0 + 1 + j) else .null)
  | 0 => by
    show ({ cls := c, slots := Array.replicate N .null, vm := .none } : Cell) = _
    rw [arrV_new]
    refine congrArg (arrV c N) (funext fun j => ?_)
    simp
  | i + 1 => by
    show (Jvm.Free.Multi.outerC c N h0 i).setSlot i (.ref (h0 + 1 + i)) = _
    rw [zouter c N h0 i, arrV_store]
    refine congrArg (arrV c N) (funext fun j => ?_)
    by_cases e : j = i
    · subst e
      simp [updV]
    · by_cases h : j < i
      · simp [updV, e, h, Nat.lt_succ_of_lt h]
      · simp [updV, e, h, show ¬ j < i + 1 by omega]
theorem zHR.pushM {D : va_G} {dA : Nat → ClassId} {b0 : Nat} {tr : Nat → Nat} {h : ZH} {a ko n g ki m : Nat} {U : State} {H H1 : Heap} (k : zHR D dA b0 tr h U H) (hbs : b0 ≤ H.size) (ha0 : a ≠ 0) (ha : zK h a = 0) (hg0 : g ≠ 0) (hg : ∀ j, j < n → zK h (g + j) = 0) (hag : a < g ∨ g + n ≤ a) (hko1 : 28 ≤ ko) (hko2 : ko < 30) (hki1 : 20 ≤ ki) (hki2 : ki < 23)
    (hout : H1[H.size]? = some (arrV (dA ko) n (fun j => if j < n then .ref (H.size + 1 + j) else .null))) (hrow : ∀ j, j < n → H1[H.size + 1 + j]? = some (arrV (dA ki) m (fun _ => if ki = 22 then .long 0 else .int 0))) (z : H1.size = H.size + 1 + n) (oq : ∀ q : Nat, q < H.size → H1[q]? = H[q]?) :
    ∃ tr1 : Nat → Nat, tr1 a = H.size ∧ (∀ b, zK h b ≠ 0 → tr1 b = tr b) ∧ zHR D dA b0 tr1 (zmM h a ko n g ki m) U H1 := by
  obtain ⟨k1, k2, k3, k4, k5⟩ := k
  have hne : ∀ b, zK h b ≠ 0 → b ≠ a := fun b hb e => hb (by rw [e]; exact ha)
  have hng : ∀ b, zK h b ≠ 0 → ¬ (g ≤ b ∧ b < g + n) := fun b hb e => hb (by
    have := hg (b - g) (by omega)
    rwa [show g + (b - g) = b by omega] at this)
  obtain ⟨tr1, etr⟩ : ∃ tr1 : Nat → Nat, tr1 = fun x => if x = a then H.size else if g ≤ x ∧ x < g + n then H.size + 1 + (x - g) else tr x := ⟨_, rfl⟩
  have ta : tr1 a = H.size := by rw [etr]; exact if_pos rfl
  have tg : ∀ j, j < n → tr1 (g + j) = H.size + 1 + j := fun j hj => by
    rw [etr]
    show (if g + j = a then _ else _) = _
    rw [if_neg (by omega), if_pos (by omega)]
    omega
  have ht : ∀ b, zK h b ≠ 0 → tr1 b = tr b := fun b hb => by
    rw [etr]
    show (if b = a then _ else _) = _
    rw [if_neg (hne b hb), if_neg (hng b hb)]
  have kinds : ∀ b, zK (zmM h a ko n g ki m) b ≠ 0 → b = a ∨ (∃ j, j < n ∧ b = g + j ∧ b ≠ a) ∨ (b ≠ a ∧ ¬ (g ≤ b ∧ b < g + n) ∧ zK h b ≠ 0) := fun b hb => by
    by_cases e : b = a
    · exact Or.inl e
    · by_cases e2 : g ≤ b ∧ b < g + n
      · exact Or.inr (Or.inl ⟨b - g, by omega, by omega, e⟩)
      · refine Or.inr (Or.inr ⟨e, e2, ?_⟩)
        rw [zK_mM, if_neg e, if_neg e2] at hb
        exact hb
  have Ka : zK (zmM h a ko n g ki m) a = ko := if_pos rfl
  have Kg : ∀ j, j < n → zK (zmM h a ko n g ki m) (g + j) = ki := fun j hj => by rw [zK_mM, if_neg (by omega), if_pos (by omega)]
  have Kb : ∀ b, b ≠ a → ¬ (g ≤ b ∧ b < g + n) → zK (zmM h a ko n g ki m) b = zK h b := fun b e e2 => by rw [zK_mM, if_neg e, if_neg e2]
  refine ⟨tr1, ta, ht, fun b hb => ?_, fun b c hb hc' hb30 e => ?_, fun b j hb hj => ?_, ?_, fun q hq => ?_⟩
  · rcases kinds b hb with rfl | ⟨j, hj, rfl, hja⟩ | ⟨hba, hbg, hb'⟩
    · refine ⟨⟨fun g1 g2 => ?_, fun g1 => ?_, fun c r g1 g2 => ?_⟩, ?_, fun _ => ?_, fun g1 => ?_⟩
      · rw [ta, hout, Ka, zN_mM, if_pos rfl]
        congr 2
        funext j
        rw [zav_r (by rw [Ka]; omega), zR_mM, if_pos rfl]
        by_cases hj : j < n
        · rw [if_pos hj, if_pos hj, zrv, if_neg (by omega), tg j hj]
        · rw [if_neg hj, if_neg hj]; rfl
      · rw [Ka] at g1; omega
      · rw [Ka] at g1
        have := zcl_lt g2
        omega
      · rw [ta]; omega
      · rw [ta]; exact hbs
      · rw [Ka] at g1; omega
    · refine ⟨⟨fun g1 g2 => ?_, fun g1 => ?_, fun c r g1 g2 => ?_⟩, ?_, fun _ => ?_, fun g1 => ?_⟩
      · rw [tg j hj, hrow j hj, Kg j hj, zN_mM, if_neg hja, if_pos (show g ≤ g + j ∧ g + j < g + n by omega)]
        congr 2
        funext i
        unfold zav
        have eI : zI (zmM h a ko n g ki m) (g + j) i = 0 := if_pos (Or.inr (by omega))
        have eL : zL (zmM h a ko n g ki m) (g + j) i = 0 := if_pos (Or.inr (by omega))
        rw [Kg j hj, eI, eL]
        by_cases e22 : ki = 22
        · rw [if_pos e22, if_neg (by omega), if_pos e22]
        · rw [if_neg e22, if_pos (by omega)]
      · rw [Kg j hj] at g1; omega
      · rw [Kg j hj] at g1
        have := zcl_lt g2
        omega
      · rw [tg j hj]; omega
      · rw [tg j hj]; omega
      · rw [Kg j hj] at g1; omega
    · obtain ⟨cb, lb, gb1, gb2⟩ := k1 b hb'
      have etrb := ht b hb'
      have e0 := Kb b hba hbg
      have eN : zN (zmM h a ko n g ki m) b = zN h b := by rw [zN_mM, if_neg hba, if_neg hbg]
      have eI : ∀ j, zI (zmM h a ko n g ki m) b j = zI h b j := fun j => by rw [zI_mM, if_neg (by omega)]
      have eL : ∀ j, zL (zmM h a ko n g ki m) b j = zL h b j := fun j => by rw [zL_mM, if_neg (by omega)]
      have eR : ∀ j, zR (zmM h a ko n g ki m) b j = zR h b j := fun j => by rw [zR_mM, if_neg hba, if_neg hbg]
      have erv : ∀ j, zrv tr1 (zR h b j) = zrv tr (zR h b j) := fun j => by
        unfold zrv
        by_cases e : zR h b j = 0
        · rw [if_pos e, if_pos e]
        · rw [if_neg e, if_neg e, ht _ (k3 b j hb' e)]
      refine ⟨⟨fun g1 g2 => ?_, fun g1 => ?_, fun c r g1 g2 => ?_⟩, ?_, ?_, ?_⟩
      · rw [etrb, oq _ lb, e0, eN]
        rw [e0] at g1 g2
        rw [cb.1 g1 g2]
        congr 2
        funext j
        unfold zav
        rw [e0, eI, eL, eR, erv]
      · rw [e0] at g1
        obtain ⟨cell, q1, q2, q3, q4, q5⟩ := cb.2.1 g1
        exact ⟨cell, by rw [etrb, oq _ lb]; exact q1, q2, q3, by rw [eN]; exact q4, fun j hj => by rw [eI]; rw [eN] at hj; exact q5 j hj⟩
      · rw [e0] at g1
        rw [etrb]
        refine ((cb.2.2 c r g1 g2).kept (oq _ lb)).to (fun j _ => ?_)
        unfold zfv
        rw [eI, eR, erv]
      · rw [etrb]; omega
      · rw [etrb, e0]; exact gb1
      · rw [etrb, e0]; exact gb2
  · rcases kinds b hb with rfl | ⟨j, hj, rfl, hja⟩ | ⟨hba, hbg, hb'⟩ <;> rcases kinds c hc' with rfl | ⟨i, hi, rfl, hia⟩ | ⟨hca, hcg, hc2⟩
    · rfl
    · rw [ta, tg i hi] at e; omega
    · rw [ta, ht c hc2] at e
      have := (k1 c hc2).2.1
      omega
    · rw [ta, tg j hj] at e; omega
    · rw [tg j hj, tg i hi] at e; omega
    · rw [tg j hj, ht c hc2] at e
      have := (k1 c hc2).2.1
      omega
    · rw [ta, ht b hb'] at e
      have := (k1 b hb').2.1
      omega
    · rw [tg i hi, ht b hb'] at e
      have := (k1 b hb').2.1
      omega
    · rw [ht b hb', ht c hc2] at e
      rw [Kb b hba hbg] at hb30
      exact k2 b c hb' hc2 hb30 e
  · rcases kinds b hb with rfl | ⟨i, hi, rfl, hia⟩ | ⟨hba, hbg, hb'⟩
    · rw [zR_mM, if_pos rfl] at hj ⊢
      by_cases hjn : j < n
      · rw [if_pos hjn, Kg j hjn]; omega
      · rw [if_neg hjn] at hj; exact absurd rfl hj
    · rw [zR_mM, if_neg hia, if_pos (by omega)] at hj
      exact absurd rfl hj
    · rw [zR_mM, if_neg hba, if_neg hbg] at hj ⊢
      have h3 := k3 b j hb' hj
      rw [Kb _ (hne _ h3) (hng _ h3)]
      exact h3
  · rw [Kb 0 (Ne.symm ha0) (by omega)]
    exact k4
  · obtain ⟨z1, z2⟩ := k5 q hq
    have h0 : zK h q.2 ≠ 0 := by rw [z2]; decide
    refine ⟨?_, by rw [Kb _ (hne _ h0) (hng _ h0)]; exact z2⟩
    rw [ht _ h0]
    exact z1.kept (fun x hx _ => oq x hx)
section ZMUL
variable {y : ZM} {Φ : Option Value → ZH → Prop} {rc rs pc q : Nat} {L : List (Option Value)} {S : List Value} {h : ZH}
theorem z_mna {a ko n g ki m i : Nat} {nn mm : Int32} {ty : FieldType} (hd : decode (zm_c y) pc = .ok (.multianewarray i 2, 4)) (hw : Cond.classLink (zm_x y).cls i ("[" ++ (FieldType.array ty).toString) ∈ zgood) (hac : Cond.arrayClass ty ∈ zgood) (hty : (ty = .int ∧ ko = 28 ∧ ki = 20) ∨ (ty = .long ∧ ko = 29 ∧ ki = 22))
    (hn : nn.toNatClampNeg = n) (hm : mm.toNatClampNeg = m) (hn0 : ¬ nn < 0) (hm0 : ¬ mm < 0) (hN : n ≤ 65536) (hM : m ≤ 65536) (ha0 : a ≠ 0) (ha : zK h a = 0) (hg0 : g ≠ 0) (hg : ∀ j, j < n → zK h (g + j) = 0) (hag : a < g ∨ g + n ≤ a) (hq : pc + 4 = q)
    (k : Zt y Φ rc rs q L (.ref a :: S) (zmM h a ko n g ki m)) : Zt y Φ (rc + (1 + n)) (rs + (n + n * m)) pc L (.int mm :: .int nn :: S) h := by
  subst hq hn hm
  intro l D dA b0 tr0 h0 p e s mt args below meth c' X tr H locs cells slots ls hH hE hS hL hF hl hc hs
  obtain ⟨hx, hb, hr0, hml, hown, hts, hlk, hnm, hK, hN0, hb0⟩ := id X
  have hmul : nn.toNatClampNeg * 4 ≤ 536870912 := by omega
  have hcb : mm.toNatClampNeg * componentBytes ty ≤ 536870912 := by
    rcases hty with ⟨rfl, -, -⟩ | ⟨rfl, -, -⟩
    · show mm.toNatClampNeg * 4 ≤ _; omega
    · show mm.toNatClampNeg * 8 ≤ _; omega
  intro T hT XS
  obtain ⟨vm₁, cA, comp, -, fA, fC, hO, -, X', step⟩ := XS.multianewarray2F hx hown (hts _ hw) (by rcases hty with ⟨rfl, -, -⟩ | ⟨rfl, -, -⟩ <;> first | exact hN0.2.2 .int (by simp) | exact hN0.2.2 .long (by simp)) (hts _ hac) (g := F0 mt pc ls (.int mm :: .int nn :: S.map (ztr tr))) rfl (by rw [hb]; exact hd) rfl hn0 hm0 hmul hcb (by omega)
    (by rcases hty with ⟨rfl, -, -⟩ | ⟨rfl, -, -⟩ <;> rfl) (by rcases hty with ⟨rfl, -, -⟩ | ⟨rfl, -, -⟩ <;> rfl) (by show cells + (1 + nn.toNatClampNeg) ≤ zm_k y; omega) (by show slots + (nn.toNatClampNeg + nn.toNatClampNeg * mm.toNatClampNeg) ≤ zm_s y; omega)
  generalize hFl : Jvm.Free.Multi.fill (T.setVm vm₁) cA comp nn.toNatClampNeg mm.toNatClampNeg (defaultValue ty) nn.toNatClampNeg = F at X' step
  have hTh : (T.setVm vm₁).heap = H := hT
  obtain ⟨f1, f2, -, -⟩ := Jvm.Free.Multi.fill_facts (T.setVm vm₁) cA comp nn.toNatClampNeg mm.toNatClampNeg (defaultValue ty) nn.toNatClampNeg
  rw [hFl, hTh] at f1 f2
  have hold : ∀ x : Nat, x < H.size → F.heap[x]? = H[x]? := fun x hx' => by
    have := Jvm.Free.Multi.fill_old (T.setVm vm₁) cA comp nn.toNatClampNeg mm.toNatClampNeg (defaultValue ty) (a := x) (by rw [hTh]; exact hx') nn.toNatClampNeg
    rw [hFl, hTh] at this
    exact this
  have hRo := (zarrT hK (kd := ko) (by omega) (by omega)).2
  have hRi := (zarrT hK (kd := ki) (by omega) (by omega)).2
  have ecA : cA = dA ko := by
    rcases hty with ⟨rfl, rfl, rfl⟩ | ⟨rfl, rfl, rfl⟩ <;> exact Option.some.inj (fA.symm.trans hRo)
  have ecB : comp = dA ki := by
    rcases hty with ⟨rfl, rfl, rfl⟩ | ⟨rfl, rfl, rfl⟩ <;> exact Option.some.inj (fC.symm.trans hRi)
  have hrow : ∀ j : Nat, j < nn.toNatClampNeg → F.heap[H.size + 1 + j]? = some (arrV (dA ki) mm.toNatClampNeg (fun _ => if ki = 22 then .long 0 else .int 0)) := fun j hj => by
    have := Jvm.Free.Multi.fill_inner (T.setVm vm₁) cA comp nn.toNatClampNeg mm.toNatClampNeg (defaultValue ty) nn.toNatClampNeg j hj
    rw [hFl, hTh] at this
    rw [this, ← ecB]
    show some ({ cls := comp, slots := Array.replicate mm.toNatClampNeg (defaultValue ty), vm := .none } : Cell) = _
    rw [arrV_new]
    rcases hty with ⟨rfl, rfl, rfl⟩ | ⟨rfl, rfl, rfl⟩ <;> rfl
  rw [zouter, ecA] at f2
  obtain ⟨tr1, t1, t2, t3⟩ := hH.pushM (H1 := F.heap) (a := a) (ko := ko) (g := g) (ki := ki) (m := mm.toNatClampNeg) (n := nn.toNatClampNeg) (Nat.le_trans hb0 hF.1) ha0 ha hg0 hg hag (by omega) (by omega) (by omega) (by omega) f2 hrow (by rw [f1]) hold
  have mono : ∀ b, zK h b ≠ 0 → zK (zmM h a ko nn.toNatClampNeg g ki mm.toNatClampNeg) b ≠ 0 := fun b hb' => by
    rw [zK_mM]
    by_cases e : b = a
    · rw [if_pos e]; omega
    · rw [if_neg e]
      by_cases e2 : g ≤ b ∧ b < g + nn.toNatClampNeg
      · rw [if_pos e2]; omega
      · rw [if_neg e2]; exact hb'
  have w := k l D dA b0 tr0 h0 p e s mt args below meth c' X tr1 F.heap locs (cells + 1 + nn.toNatClampNeg) (slots + nn.toNatClampNeg + nn.toNatClampNeg * mm.toNatClampNeg) ls t3 (fun b hb' => ⟨(t2 b (by rw [(hE b hb').2]; exact hb')).trans (hE b hb').1, by rw [zK_mM, if_neg (fun z => by have := (hE b hb').2; rw [z, ha] at this; exact hb' (by rw [z]; exact this.symm)), if_neg (fun z => by have := (hE b hb').2; have w := hg (b - g) (by omega); rw [show g + (b - g) = b by omega, this] at w; exact hb' w), (hE b hb').2]⟩) ⟨by show zK _ a ≠ 0; rw [zK_mM, if_pos rfl]; omega, zalS_mono mono hS.2.2⟩ (zalL_mono mono hL)
    ⟨by rw [f1]; have := hF.1; omega, fun x hx' => by rw [hold x (Nat.lt_of_lt_of_le hx' (Nat.le_trans hb0 hF.1))]; exact hF.2.1 x hx', hF.2.2⟩ (zLH_eq t2 hL hl) (by omega) (by omega)
  have e9 : (Value.ref a :: S).map (ztr tr1) = Value.ref T.heap.size :: S.map (ztr tr) := by
    show Value.ref (tr1 a) :: S.map (ztr tr1) = _
    rw [t1, ztr_map t2 hS.2.2, hT]
  rw [e9] at w
  obtain ⟨t, a1, b1⟩ := w F rfl X'
  exact ⟨t, step t a1, b1⟩
end ZMUL
