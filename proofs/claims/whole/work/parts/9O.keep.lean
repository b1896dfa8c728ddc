/-! what every call keeps: kinds, and what can only be read -/
def kpt (h h1 : ZH) : Prop := (∀ a, zK h a ≠ 0 → zK h1 a = zK h a) ∧ ∀ a, zK h a = 30 → zN h1 a = zN h a ∧ ∀ j, j < zN h a → zI h1 a j = zI h a j
theorem Met.monoP {l : Launch} {y : MethodName} {ws : List Cond} {rm : Room} {Pc : Array Value → State → Prop} {Qc Qc' : Array Value → State → Outcome → State → Prop} {mc ms : Nat} {free : Addr → Prop} (hM : Met l y ws rm Pc Qc mc ms free) (hq : ∀ a st o t, Pc a st → Qc a st o t → Qc' a st o t) : Met l y ws rm Pc Qc' mc ms free := by
  intro p e h1 h2 h3 s m args below h4 h5 h6 h7
  obtain ⟨n, o, k1, k2, k3, k4, k5⟩ := hM p e h1 h2 h3 s m args below h4 h5 h6 h7
  exact ⟨n, o, k1, k2, k3, hq _ _ _ _ h6 k4, k5⟩
theorem Zc.keep {y : ZM} {av : List Value} {h : ZH} {Φ : Option Value → ZH → Prop} (hc : Zc y av h Φ) : Zc y av h (fun v h1 => Φ v h1 ∧ kpt h h1) := fun l D dA b0 tr => (hc l D dA b0 tr).monoP (fun a st o t hp ⟨v, h1, tr1, q1, q2, q3, q4, q5, q6, q7⟩ => by
  obtain ⟨_, _, _, _, _, hH⟩ := hp
  refine ⟨v, h1, tr1, q1, q2, q3, q4, ⟨q5, fun a ha => (q4 a ha).2, fun a ha => ?_⟩, q6, q7⟩
  have nz : zK h a ≠ 0 := by rw [ha]; decide
  obtain ⟨⟨_, cell, _⟩, _, _, lt⟩ := hH.1 a nz
  obtain ⟨c, e1, e2, e3, e4, e5⟩ := cell ha
  have k1 := (q4 a nz).2
  have nz1 : zK h1 a ≠ 0 := by rw [k1]; exact nz
  obtain ⟨⟨_, cell1, _⟩, _⟩ := q3.1 a nz1
  obtain ⟨c', g1, g2, g3, g4, g5⟩ := cell1 (by rw [k1]; exact ha)
  rw [(q4 a nz).1, q7 _ (lt ha), e1] at g1
  cases g1
  have en : zN h1 a = zN h a := by rw [← g4, e4]
  refine ⟨en, fun j hj => ?_⟩
  have w1 := e5 j hj
  have w2 := g5 j (by rw [en]; exact hj)
  rw [w1] at w2
  have w3 : Value.int (zI h a j) = Value.int (zI h1 a j) := Option.some.inj w2
  injection w3 with w4
  exact w4.symm)
theorem ZcI.keep {y : ZM} {av : List Value} {h : ZH} {ψ : Int32 → ZH → Prop} (hc : ZcI y av h ψ) : ZcI y av h (fun x h1 => ψ x h1 ∧ kpt h h1) := Zc.mono (Zc.keep hc) (fun v h1 ⟨⟨x, e, q⟩, kp⟩ => ⟨x, e, q, kp⟩)
theorem and31 (x : Int32) : ∃ k : Nat, k < 32 ∧ x &&& 31 = nI k := by
  obtain ⟨n, rfl⟩ := nI_ex x
  refine ⟨n % 32, Nat.mod_lt _ (by decide), ?_⟩
  apply Int32.toBitVec_inj.mp
  apply BitVec.eq_of_toNat_eq
  show ((nI n).toBitVec &&& (31 : Int32).toBitVec).toNat = (nI (n % 32)).toBitVec.toNat
  have e1 : (nI n).toBitVec.toNat = n % 4294967296 := by unfold nI; simp
  have e2 : (nI (n % 32)).toBitVec.toNat = n % 32 % 4294967296 := by unfold nI; simp
  have e3 : ((31 : Int32).toBitVec).toNat = 2 ^ 5 - 1 := by decide
  rw [BitVec.toNat_and, e1, e2, e3, Nat.and_two_pow_sub_one_eq_mod]
  omega
