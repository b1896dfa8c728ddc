theorem zHR.moved {D : va_G} {dA : Nat → ClassId} {b0 : Nat} {tr : Nat → Nat} {h : ZH} {u U : State} {H : Heap} (hvm : u.vm.Alike U.vm) (k : zHR D dA b0 tr h u H) : zHR D dA b0 tr h U H := by
  obtain ⟨k1, k2, k3, k4, k5⟩ := k
  refine ⟨fun a ha => ?_, k2, k3, k4, fun q hq => ⟨(k5 q hq).1.moved hvm, (k5 q hq).2⟩⟩
  obtain ⟨⟨c1, c2, c3⟩, q⟩ := k1 a ha
  refine ⟨⟨c1, fun e => ?_, c3⟩, q⟩
  obtain ⟨cell, g1, g2, g3⟩ := c2 e
  exact ⟨cell, g1, State.isArrayOf_alike hvm g2, g3⟩
theorem zfv_eq {tr : Nat → Nat} {h h1 : ZH} {c a : Nat} (e1 : ∀ j, zI h1 a j = zI h a j) (e2 : ∀ j, zR h1 a j = zR h a j) : zfv tr h1 c a = zfv tr h c a := by
  funext k
  unfold zfv
  rw [e1, e2]
theorem zav_eq {tr : Nat → Nat} {h h1 : ZH} {a : Nat} (e0 : zK h1 a = zK h a) (e1 : ∀ j, zI h1 a j = zI h a j) (e2 : ∀ j, zL h1 a j = zL h a j) (e3 : ∀ j, zR h1 a j = zR h a j) : zav tr h1 a = zav tr h a := by
  funext k
  unfold zav
  rw [e0, e1, e2, e3]
/-- one cell written -/
theorem zHR.set {D : va_G} {dA : Nat → ClassId} {b0 : Nat} {tr : Nat → Nat} {h h1 : ZH} {a : Nat} {U : State} {H H1 : Heap} (k : zHR D dA b0 tr h U H) (ek : zK h1 = zK h) (en : zN h1 = zN h) (ha : zK h a ≠ 0) (hro : zK h a ≠ 30)
    (ho : ∀ b, b ≠ a → (∀ j, zI h1 b j = zI h b j) ∧ (∀ j, zL h1 b j = zL h b j) ∧ ∀ j, zR h1 b j = zR h b j) (hc : zcell D dA tr h1 a U H1) (hr : ∀ j, zR h1 a j ≠ 0 → zK h (zR h1 a j) ≠ 0) (z : H1.size = H.size) (oq : ∀ q : Nat, q ≠ tr a → H1[q]? = H[q]?) : zHR D dA b0 tr h1 U H1 := by
  obtain ⟨k1, k2, k3, k4, k5⟩ := k
  have hlo : b0 ≤ tr a := (k1 a ha).2.2.1 hro
  refine ⟨fun b hb => ?_, by rw [ek]; exact k2, fun b j hb hj => ?_, by rw [ek]; exact k4, fun q hq => ⟨(k5 q hq).1.kept (fun x hx hn => oq x (fun e => hn (by show b0 ≤ x; rw [e]; exact hlo))), by rw [ek]; exact (k5 q hq).2⟩⟩
  · rw [ek] at hb
    obtain ⟨cb, lb, gb⟩ := k1 b hb
    refine ⟨?_, by rw [z]; exact lb, by rw [ek]; exact gb⟩
    by_cases hba : b = a
    · rw [hba]
      exact hc
    · have hne : tr b ≠ tr a := fun e => hba (k2 a b ha hb hro e.symm).symm
      obtain ⟨o1, o2, o3⟩ := ho b hba
      refine ⟨fun g1 g2 => ?_, fun g1 => ?_, fun c r g1 g2 => ?_⟩
      · rw [oq _ hne, zav_eq (by rw [ek]) o1 o2 o3, ek, en]
        rw [ek] at g1 g2
        exact cb.1 g1 g2
      · rw [ek] at g1
        obtain ⟨cell, q1, q2, q3, q4, q5⟩ := cb.2.1 g1
        exact ⟨cell, by rw [oq _ hne]; exact q1, q2, q3, by rw [en]; exact q4, fun j hj => by rw [o1]; rw [en] at hj; exact q5 j hj⟩
      · rw [ek] at g1
        rw [zfv_eq o1 o3]
        exact (cb.2.2 c r g1 g2).kept (oq _ hne)
  · rw [ek] at hb ⊢
    by_cases hba : b = a
    · subst hba
      exact hr j hj
    · rw [(ho b hba).2.2] at hj ⊢
      exact k3 b j hb hj
/-- a new cell at the machine's next address -/
theorem zHR.push {D : va_G} {dA : Nat → ClassId} {b0 : Nat} {tr : Nat → Nat} {h h1 : ZH} {a : Nat} {U : State} {H H1 : Heap} (k : zHR D dA b0 tr h U H) (hbs : b0 ≤ H.size) (ha0 : a ≠ 0) (ha : zK h a = 0) (hn : zK h1 a ≠ 0) (hro : zK h1 a ≠ 30)
    (ho : ∀ b, b ≠ a → zK h1 b = zK h b ∧ zN h1 b = zN h b ∧ (∀ j, zI h1 b j = zI h b j) ∧ (∀ j, zL h1 b j = zL h b j) ∧ ∀ j, zR h1 b j = zR h b j) (hr : ∀ j, zR h1 a j = 0)
    (hc : ∀ tr1 : Nat → Nat, tr1 a = H.size → zcell D dA tr1 h1 a U H1) (z : H1.size = H.size + 1) (oq : ∀ q : Nat, q < H.size → H1[q]? = H[q]?) :
    ∃ tr1 : Nat → Nat, tr1 a = H.size ∧ (∀ b, zK h b ≠ 0 → tr1 b = tr b) ∧ zHR D dA b0 tr1 h1 U H1 := by
  obtain ⟨k1, k2, k3, k4, k5⟩ := k
  have hne : ∀ b, zK h b ≠ 0 → b ≠ a := fun b hb e => hb (by rw [e]; exact ha)
  have ht : ∀ b, zK h b ≠ 0 → (fun x => if x = a then H.size else tr x) b = tr b := fun b hb => if_neg (hne b hb)
  have hK1 : ∀ b, zK h1 b ≠ 0 → b = a ∨ (b ≠ a ∧ zK h b ≠ 0) := fun b hb => by
    by_cases e : b = a
    · exact Or.inl e
    · exact Or.inr ⟨e, by rw [← (ho b e).1]; exact hb⟩
  refine ⟨fun x => if x = a then H.size else tr x, if_pos rfl, ht, fun b hb => ?_, fun b c hb hc' hb30 e => ?_, fun b j hb hj => ?_, by rw [(ho 0 (Ne.symm ha0)).1]; exact k4, fun q hq => ?_⟩
  · rcases hK1 b hb with rfl | ⟨hba, hb'⟩
    · refine ⟨hc _ (if_pos rfl), ?_, fun _ => ?_, fun e => absurd e hro⟩
      · simp only [if_true]; omega
      · simp only [if_true]; exact hbs
    · obtain ⟨cb, lb, gb1, gb2⟩ := k1 b hb'
      obtain ⟨e0, e1, o1, o2, o3⟩ := ho b hba
      have etr := ht b hb'
      have erv : ∀ j, zrv (fun x => if x = a then H.size else tr x) (zR h b j) = zrv tr (zR h b j) := fun j => by
        unfold zrv
        by_cases e : zR h b j = 0
        · rw [if_pos e, if_pos e]
        · rw [if_neg e, if_neg e, ht _ (k3 b j hb' e)]
      refine ⟨⟨fun g1 g2 => ?_, fun g1 => ?_, fun c r g1 g2 => ?_⟩, ?_, ?_, ?_⟩
      · rw [etr, oq _ lb, e0, e1]
        rw [e0] at g1 g2
        rw [cb.1 g1 g2]
        congr 2
        funext j
        unfold zav
        rw [e0, o1, o2, o3, erv]
      · rw [e0] at g1
        obtain ⟨cell, q1, q2, q3, q4, q5⟩ := cb.2.1 g1
        exact ⟨cell, by rw [etr, oq _ lb]; exact q1, q2, q3, by rw [e1]; exact q4, fun j hj => by rw [o1]; rw [e1] at hj; exact q5 j hj⟩
      · rw [e0] at g1
        rw [etr]
        refine ((cb.2.2 c r g1 g2).kept (oq _ lb)).to (fun j _ => ?_)
        unfold zfv
        rw [o1, o3, erv]
      · rw [etr]; omega
      · rw [etr, e0]; exact gb1
      · rw [etr, e0]; exact gb2
  · dsimp only at e
    rcases hK1 b hb with rfl | ⟨hba, hb'⟩ <;> rcases hK1 c hc' with rfl | ⟨hca, hc2⟩
    · rfl
    · rw [if_pos rfl, if_neg hca] at e
      have := (k1 c hc2).2.1
      omega
    · rw [if_pos rfl, if_neg hba] at e
      have := (k1 b hb').2.1
      omega
    · rw [if_neg hba, if_neg hca] at e
      rw [(ho b hba).1] at hb30
      exact k2 b c hb' hc2 hb30 e
  · rcases hK1 b hb with rfl | ⟨hba, hb'⟩
    · exact absurd (hr j) hj
    · rw [(ho b hba).2.2.2.2] at hj ⊢
      have h3 := k3 b j hb' hj
      rw [(ho _ (hne _ h3)).1]
      exact h3
  · obtain ⟨z1, z2⟩ := k5 q hq
    have h0 : zK h q.2 ≠ 0 := by rw [z2]; decide
    refine ⟨?_, by rw [(ho _ (hne _ h0)).1]; exact z2⟩
    rw [ht _ h0]
    exact z1.kept (fun x hx _ => oq x hx)
theorem zNW.warm {s U : State} (hW : s.WarmedH U.vm) (k : zNW s) : zNW U := by
  refine ⟨fun w hw => ?_, fun C hC => (k.2.1 C hC).moved hW.alike, fun t ht => (k.2.2 t ht).moved hW.alike⟩
  have h := k.1 w hw
  have h2 := (List.mem_filter.mp hw).2
  cases w <;> first | exact va_Nw.warmF hW h | exact va_Nw.warmM hW h | exact absurd h2 (by simp [zisN])
theorem zalS_K {h h1 : ZH} {S : List Value} (hs : zalS h S) (e : zK h1 = zK h) : zalS h1 S := zalS_mono (h := h) (h1 := h1) (fun a q => by rw [e]; exact q) hs
theorem zalL_K {h h1 : ZH} {L : List (Option Value)} (hs : zalL h L) (e : zK h1 = zK h) : zalL h1 L := zalL_mono (h := h) (h1 := h1) (fun a q => by rw [e]; exact q) hs
