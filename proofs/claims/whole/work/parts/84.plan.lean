/-! a plan told as digits -/
def dgt (np : Nat) (l : Int32) (p : Nat) : Nat := l.toNatClampNeg / 10 ^ (np - (p + 1)) % 10
abbrev gdp (h : ZH) (np : Nat) (l : Int32) (p : Nat) : Prop := dgt np l p ≤ 5 ∧ (oN h p ∨ dgt np l p = 0)
abbrev vld (h : ZH) (np : Nat) (l : Int32) : Prop := 0 ≤ l ∧ (∀ p, p < np → gdp h np l p) ∧ l.toNatClampNeg / 10 ^ np = 0
theorem d10 {R : Nat} (hR : R < 2 ^ 31) : nI R / 10 = nI (R / 10) ∧ nI R - nI (R / 10) * 10 = nI (R % 10) := by
  have e1 : nI R / 10 = nI (R / 10) := by
    refine tI_eq ?_
    rw [tI_div (by rw [nI_toInt hR]; omega) (by decide), nI_toInt hR, nI_toInt (by omega), tI_10]
    omega
  refine ⟨e1, ?_⟩
  have : R = R % 10 + R / 10 * 10 := by omega
  have e2 : nI (R / 10) * 10 = nI (R / 10 * 10) := by rw [show (10 : Int32) = nI 10 from rfl, nI_mul]
  rw [e2]
  conv => lhs; lhs; rw [this]
  rw [← nI_add, Int32.add_sub_cancel]
theorem neg10 {l : Int32} (hl : l.toInt < 0) : (l - l / 10 * 10).toInt = l.toInt.tmod 10 ∧ (l / 10).toInt = l.toInt.tdiv 10 ∧ l.toInt.tmod 10 + 10 * l.toInt.tdiv 10 = l.toInt ∧ l.toInt.tmod 10 ≤ 0 := by
  have h1 := Int.tmod_add_mul_tdiv l.toInt 10
  have h2 : l.toInt.tmod 10 ≤ 0 ∧ -10 < l.toInt.tmod 10 := by
    have e : l.toInt = -(-l.toInt) := by omega
    rw [e, Int.neg_tmod, Int.tmod_eq_emod_of_nonneg (by omega)]
    omega
  have lo := l.le_toInt
  have q1 : (l / 10).toInt = l.toInt.tdiv 10 := by
    rw [Int32.toInt_div, tI_10, tI_of (by omega) (by omega)]
  have q2 : (l / 10 * 10).toInt = l.toInt.tdiv 10 * 10 := by rw [tI_mul (by rw [q1, tI_10]; omega) (by rw [q1, tI_10]; omega), q1, tI_10]
  refine ⟨?_, q1, h1, h2.1⟩
  rw [tI_sub (by rw [q2]; omega) (by rw [q2]; omega), q2]
  omega
theorem nI_dec (j : Nat) : nI j + (-1) = nI j - 1 := by rw [Int32.sub_eq_add_neg]
theorem n1_lt : nI 0 - 1 < 0 := by decide
theorem pd {D e : Nat} : D / 10 ^ e / 10 = D / 10 ^ (e + 1) := by rw [Nat.div_div_eq_div_mul, Nat.pow_succ]
section PLAN
variable {h : ZH} {np nm nh : Nat} {i L : Nat} {xs : Nat → Int32}
theorem FR.PT {H H1 : ZH} (k : FR H H1 87) (P : PT h H np) (hn : np ≤ 8) : PT h H1 np := by
  obtain ⟨p1, p2, p3, p4, p5, p6⟩ := P
  have E := k.2.2.2
  refine ⟨p1.trans (k.same (fun j => by unfold scr; omega)), by rw [E _ _ (by omega)]; exact p2, by rw [E _ _ (by omega)]; exact p3, by rw [E _ _ (by omega)]; exact p4, by rw [E _ _ (by omega)]; exact p5, fun p hp => ?_⟩
  obtain ⟨q1, q2, q3⟩ := p6 p hp
  refine ⟨by rw [E _ _ (by omega)]; exact q1, by rw [E _ _ (by omega)]; exact q2, fun d r hd hr => by rw [E _ _ (by omega)]; exact q3 d r hd hr⟩
set_option maxHeartbeats 2000000 in
theorem s_X6_read {ψ : Int32 → ZH → Prop} {H : ZH} {l : Int32} (Q : PQ h np nm nh) (P : PT h H np) (k1 : vld h np l → ∀ H1, FR H H1 87 → PY H1 (dgt np l) np → ψ 1 H1) (k0 : ¬ vld h np l → ∀ H1, FR H H1 87 → ψ 0 H1) : ZcI mX6_readDigits [.ref 80, .int l] H ψ := by
  have h8 := Q.2.1
  have S := P.1.Sh Q.1
  refine wX6_readDigits ⟨(shPl S).1, ?_⟩
  rw [P.2.1]
  by_cases hl : l.toInt < 0
  · have k0' := k0 (fun x => absurd (tI_le.mp x.1) (by rw [tI_0]; omega))
    have main : ∀ j, j ≤ np → ∀ H1 l', FR H H1 87 → l'.toInt < 0 → Zt mX6_readDigits (zPI ψ) 0 0 9 [some (.ref 80), none, some (.int l'), some (.int (nI j - 1))] [] H1 := by
      intro j
      induction j with
      | zero =>
        intro _ H1 l' F hl'
        exact wX6_readDigits_9 ⟨fun _ => ⟨fun _ => k0' H1 F, fun z => absurd hl' (by rw [z]; decide)⟩, fun z => absurd n1_lt z⟩
      | succ j ih =>
        intro hj H1 l' F hl'
        have P1 := F.PT P h8
        have S1 := P1.1.Sh Q.1
        have e1 := nI_clamp (n := j) (by omega)
        have v1 : vp_in (nI j) 8 := vp_in_nI (by omega) (by omega)
        obtain ⟨w1, w2, w3, w4⟩ := neg10 hl'
        rw [nI_pred]
        refine wX6_readDigits_9 ⟨fun z => absurd z (nI_pos (by omega)), fun _ => ?_⟩
        simp only [shPl S1, e1, v1, ne_eq]
        refine ⟨trivial, by decide, trivial, trivial, fun a1 ea => ?_⟩
        have F1 : FR H a1 87 := by rw [ea]; exact F.sI
        have S2 := (F1.PT P h8).1.Sh Q.1
        have g1 : zI a1 87 j = l' - l' / 10 * 10 := by rw [ea, zI_sIs]
        clear ea
        simp only [shPl S2, v1, g1, ne_eq]
        have go : ¬ l' - l' / 10 * 10 < 0 → Zt mX6_readDigits (zPI ψ) 0 0 9 [some (.ref 80), none, some (.int (l' / 10)), some (.int (nI j + (-1)))] [] a1 := fun z => by
          rw [nI_dec]
          refine ih (by omega) a1 _ F1 ?_
          rw [tI_lt, w1, tI_0] at z
          rw [w2]
          omega
        exact ⟨trivial, trivial, fun _ => k0' a1 F1, fun z => ⟨trivial, by decide, trivial, trivial, fun _ => k0' a1 F1, fun _ => ⟨by decide, trivial, trivial, fun _ => go z, fun _ => ⟨fun _ => go z, fun _ => k0' a1 F1⟩⟩⟩⟩
    exact main np (Nat.le_refl _) H l FR.rfl' hl
  · obtain ⟨D, hD, rfl⟩ : ∃ D : Nat, D < 2 ^ 31 ∧ l = nI D := by
      refine ⟨l.toNatClampNeg, ?_, ?_⟩
      · have := l.toInt_lt
        rw [Int32.toNatClampNeg]
        omega
      · refine tI_eq ?_
        have := l.toInt_lt
        rw [nI_toInt (by rw [Int32.toNatClampNeg]; omega), Int32.toNatClampNeg]
        omega
    have cD := nI_clamp hD
    have main : ∀ j, j ≤ np → ∀ H1, FR H H1 87 → (∀ p, j ≤ p → p < np → zI H1 87 p = nI (dgt np (nI D) p) ∧ gdp h np (nI D) p) → Zt mX6_readDigits (zPI ψ) 0 0 9 [some (.ref 80), none, some (.int (nI (D / 10 ^ (np - j)))), some (.int (nI j - 1))] [] H1 := by
      intro j
      induction j with
      | zero =>
        intro _ H1 F g
        have bD : D / 10 ^ np ≤ D := Nat.div_le_self _ _
        refine wX6_readDigits_9 ⟨fun _ => ⟨fun z => k0 (fun x => z ?_) H1 F, fun z => k1 ⟨nI_pos' hD, fun p hp => (g p (by omega) hp).2, ?_⟩ H1 F (fun p hp => (g p (by omega) hp).1)⟩, fun z => absurd n1_lt z⟩
        · have := x.2.2
          rw [cD] at this
          rw [Nat.sub_zero, this]; rfl
        · rw [cD]
          exact nI_inj' (b := 0) (by omega) (by omega) z
      | succ j ih =>
        intro hj H1 F g
        have P1 := F.PT P h8
        have S1 := P1.1.Sh Q.1
        have e1 := nI_clamp (n := j) (by omega)
        have v1 : vp_in (nI j) 8 := vp_in_nI (by omega) (by omega)
        have bD : D / 10 ^ (np - (j + 1)) ≤ D := Nat.div_le_self _ _
        obtain ⟨w1, w2⟩ := d10 (R := D / 10 ^ (np - (j + 1))) (by omega)
        have wd : D / 10 ^ (np - (j + 1)) % 10 = dgt np (nI D) j := by unfold dgt; rw [cD]
        rw [wd] at w2
        have dl : dgt np (nI D) j < 10 := by unfold dgt; omega
        rw [nI_pred]
        refine wX6_readDigits_9 ⟨fun z => absurd z (nI_pos (by omega)), fun _ => ?_⟩
        simp only [shPl S1, e1, v1, w1, w2, ne_eq]
        refine ⟨trivial, by decide, trivial, trivial, fun a1 ea => ?_⟩
        have F1 : FR H a1 87 := by rw [ea]; exact F.sI
        have P2 := F1.PT P h8
        have S2 := P2.1.Sh Q.1
        have g1 : ∀ p, zI a1 87 p = if p = j then nI (dgt np (nI D) j) else zI H1 87 p := fun p => by
          rw [ea]
          by_cases ep : p = j
          · subst ep; rw [zI_sIs, if_pos rfl]
          · rw [zI_sIj ep, if_neg ep]
        clear ea
        have g1j := g1 j
        rw [if_pos rfl] at g1j
        simp only [shPl S2, v1, g1j, (P2.2.2.2.2.2 j (by omega)).2.1, ne_eq]
        have bad : ¬ gdp h np (nI D) j → ψ 0 a1 := fun z => k0 (fun x => z (x.2.1 j (by omega))) a1 F1
        have go : gdp h np (nI D) j → Zt mX6_readDigits (zPI ψ) 0 0 9 [some (.ref 80), none, some (.int (nI (D / 10 ^ (np - (j + 1)) / 10))), some (.int (nI j + (-1)))] [] a1 := fun z => by
          rw [nI_dec, pd, show np - (j + 1) + 1 = np - j by omega]
          refine ih (by omega) a1 F1 (fun p hp hn => ?_)
          rw [g1 p]
          by_cases ep : p = j
          · subst ep; rw [if_pos rfl]; exact ⟨rfl, z⟩
          · rw [if_neg ep]; exact g p (by omega) hn
        have l5 : (5 < nI (dgt np (nI D) j)) ↔ ¬ dgt np (nI D) j ≤ 5 := by
          rw [tI_lt, nI_toInt (by omega)]
          have : (5 : Int32).toInt = 5 := by decide
          omega
        refine ⟨trivial, trivial, fun z => absurd z (nI_pos (by omega)), fun _ => ⟨trivial, by decide, trivial, trivial, fun z => bad (fun x => l5.mp z x.1), fun z => ⟨by decide, trivial, trivial, fun y => go ⟨?_, Or.inl y⟩, fun y => ⟨fun x => go ⟨?_, Or.inr ?_⟩, fun x => bad (fun w => w.2.elim (fun o => o y) (fun o => x (by rw [o]; rfl)))⟩⟩⟩⟩
        · exact Classical.not_not.mp (fun x => z (l5.mpr x))
        · exact Classical.not_not.mp (fun x => z (l5.mpr x))
        · exact nI_inj' (b := 0) (by omega) (by omega) x
    have := main np (Nat.le_refl _) H FR.rfl' (fun p hp hn => absurd hn (by omega))
    rw [Nat.sub_self, Nat.pow_zero, Nat.div_one] at this
    exact this
set_option maxHeartbeats 2000000 in
theorem s_X11_lay2 {ψ : Int32 → ZH → Prop} {H : ZH} {l : Int32} (Q : PQ h np nm nh) (e : zsame h H) (k1 : vld h np l → ∀ H1, FR H H1 246 → MY H1 (dgt np l) np → ψ 1 H1) (k0 : ¬ vld h np l → ∀ H1, FR H H1 246 → ψ 0 H1) : ZcI mX11_layPlan [.ref 200, .int l] H ψ := by
  have h8 := Q.2.1
  have S := e.Sh Q.1
  have cn : zI H 200 9 = nI np := by rw [e.2.2.2 _ _ (by unfold scr; omega)]; exact Q.2.2.1.1
  have FS : ∀ H1, FR H H1 246 → Sh H1 np nm nh := fun H1 F => (F.same (fun j => by unfold scr; omega)).Sh S
  have zero : ¬ vld h np l → ∀ j, j ≤ np → ∀ H1 l', FR H H1 246 → Zt mX11_layPlan (zPI ψ) 0 0 20 [some (.ref 200), none, some (.int l'), some (.int 0), some (.int (nI j - 1))] [] H1 := by
    intro nv j
    induction j with
    | zero =>
      intro _ H1 l' F
      exact wX11_layPlan_20 ⟨fun _ => ⟨fun _ => k0 nv H1 F, fun z => absurd rfl z⟩, fun z => absurd n1_lt z⟩
    | succ j ih =>
      intro hj H1 l' F
      have S1 := FS H1 F
      have e1 := nI_clamp (n := j) (by omega)
      have v1 : vp_in (nI j) 8 := vp_in_nI (by omega) (by omega)
      rw [nI_pred]
      refine wX11_layPlan_20 ⟨fun z => absurd z (nI_pos (by omega)), fun _ => ?_⟩
      simp only [shM S1, e1, v1, ne_eq]
      refine ⟨trivial, by decide, trivial, trivial, Bt trivial ?_⟩
      rw [nI_dec]
      exact ih (by omega) _ _ F.sI
  by_cases hl : l.toInt < 0
  · refine wX11_layPlan ⟨fun _ => ⟨(shM S).1, ?_⟩, fun z => absurd (by rw [tI_lt, tI_0]; exact hl) z⟩
    rw [cn]
    exact zero (fun x => absurd (tI_le.mp x.1) (by rw [tI_0]; omega)) np (Nat.le_refl _) H l FR.rfl'
  · refine wX11_layPlan ⟨fun z => absurd (tI_lt.mp z) (by rw [tI_0]; exact hl), fun _ => ⟨(shM S).1, ?_⟩⟩
    rw [cn]
    obtain ⟨D, hD, rfl⟩ : ∃ D : Nat, D < 2 ^ 31 ∧ l = nI D := by
      refine ⟨l.toNatClampNeg, ?_, ?_⟩
      · have := l.toInt_lt
        rw [Int32.toNatClampNeg]
        omega
      · refine tI_eq ?_
        have := l.toInt_lt
        rw [nI_toInt (by rw [Int32.toNatClampNeg]; omega), Int32.toNatClampNeg]
        omega
    have cD := nI_clamp hD
    have main : ∀ j, j ≤ np → ∀ H1, FR H H1 246 → (∀ p, j ≤ p → p < np → zI H1 246 p = nI (dgt np (nI D) p) ∧ gdp h np (nI D) p) → Zt mX11_layPlan (zPI ψ) 0 0 20 [some (.ref 200), none, some (.int (nI (D / 10 ^ (np - j)))), some (.int 1), some (.int (nI j - 1))] [] H1 := by
      intro j
      induction j with
      | zero =>
        intro _ H1 F g
        have bD : D / 10 ^ np ≤ D := Nat.div_le_self _ _
        refine wX11_layPlan_20 ⟨fun _ => Z1 ⟨fun z => k0 (fun x => z ?_) H1 F, fun z => k1 ⟨nI_pos' hD, fun p hp => (g p (by omega) hp).2, ?_⟩ H1 F (fun p hp => (g p (by omega) hp).1)⟩, fun z => absurd n1_lt z⟩
        · have := x.2.2
          rw [cD] at this
          rw [Nat.sub_zero, this]; rfl
        · rw [cD]
          exact nI_inj' (b := 0) (by omega) (by omega) z
      | succ j ih =>
        intro hj H1 F g
        have S1 := FS H1 F
        have e1 := nI_clamp (n := j) (by omega)
        have v1 : vp_in (nI j) 8 := vp_in_nI (by omega) (by omega)
        have bD : D / 10 ^ (np - (j + 1)) ≤ D := Nat.div_le_self _ _
        obtain ⟨w1, w2⟩ := d10 (R := D / 10 ^ (np - (j + 1))) (by omega)
        have wd : D / 10 ^ (np - (j + 1)) % 10 = dgt np (nI D) j := by unfold dgt; rw [cD]
        rw [wd] at w2
        have dl : dgt np (nI D) j < 10 := by unfold dgt; omega
        rw [nI_pred]
        refine wX11_layPlan_20 ⟨fun z => absurd z (nI_pos (by omega)), fun _ => ?_⟩
        simp only [shM S1, e1, v1, w1, w2, ne_eq]
        refine ⟨trivial, by decide, trivial, trivial, Z1 (fun a1 ea => ?_)⟩
        have F1 : FR H a1 246 := by rw [ea]; exact F.sI
        have S2 := FS a1 F1
        have g1 : ∀ p, zI a1 246 p = if p = j then nI (dgt np (nI D) j) else zI H1 246 p := fun p => by
          rw [ea]
          by_cases ep : p = j
          · subst ep; rw [zI_sIs, if_pos rfl]
          · rw [zI_sIj ep, if_neg ep]
        clear ea
        have g1j := g1 j
        rw [if_pos rfl] at g1j
        have c8 : zI a1 208 j = zI h 208 j := by rw [F1.2.2.2 _ _ (by omega), e.2.2.2 _ _ (by unfold scr; omega)]
        simp only [shM S2, v1, g1j, c8, ne_eq]
        have bad : ¬ gdp h np (nI D) j → Zt mX11_layPlan (zPI ψ) 0 0 20 [some (.ref 200), none, some (.int (nI (D / 10 ^ (np - (j + 1)) / 10))), some (.int 0), some (.int (nI j + (-1)))] [] a1 := fun z => by
          rw [nI_dec]
          exact zero (fun x => z (x.2.1 j (by omega))) j (by omega) a1 _ F1
        have go : gdp h np (nI D) j → Zt mX11_layPlan (zPI ψ) 0 0 20 [some (.ref 200), none, some (.int (nI (D / 10 ^ (np - (j + 1)) / 10))), some (.int 1), some (.int (nI j + (-1)))] [] a1 := fun z => by
          rw [nI_dec, pd, show np - (j + 1) + 1 = np - j by omega]
          refine ih (by omega) a1 F1 (fun p hp hn => ?_)
          rw [g1 p]
          by_cases ep : p = j
          · subst ep; rw [if_pos rfl]; exact ⟨rfl, z⟩
          · rw [if_neg ep]; exact g p (by omega) hn
        have l5 : (5 < nI (dgt np (nI D) j)) ↔ ¬ dgt np (nI D) j ≤ 5 := by
          rw [tI_lt, nI_toInt (by omega)]
          have : (5 : Int32).toInt = 5 := by decide
          omega
        refine ⟨trivial, trivial, fun z => bad (fun x => l5.mp z x.1), fun z => ⟨trivial, by decide, trivial, trivial, fun y => go ⟨?_, Or.inl y⟩, fun y => ⟨by decide, trivial, trivial, fun x => bad (fun w => w.2.elim (fun o => o y) (fun o => x (by rw [o]; rfl))), fun x => go ⟨?_, Or.inr ?_⟩⟩⟩⟩
        · exact Classical.not_not.mp (fun x => z (l5.mpr x))
        · exact Classical.not_not.mp (fun x => z (l5.mpr x))
        · exact nI_inj' (b := 0) (by omega) (by omega) x
    have := main np (Nat.le_refl _) H FR.rfl' (fun p hp hn => absurd hn (by omega))
    rw [Nat.sub_self, Nat.pow_zero, Nat.div_one] at this
    exact this
set_option maxHeartbeats 4000000 in
theorem op_plan {l1 l2 : Int32} (J : Jx h i L xs) : ZcI mX10_plan [.ref 10, .int l1, .int l2] h (fun v h1 => ZcI mX11_plan [.ref 200, .int l1, .int l2] h1 (fun v' h2 => v = v' ∧ Jx h2 (i + 1) L xs)) := by
  have J0 := J
  obtain ⟨np, nm, nh, nw, ns, mo, ⟨S, C, T, P, M, St, G, R, W, V, X⟩, q1, q2⟩ := J
  have kX : zK h 10 = 11 := (shX S).1
  have kM : zK h 200 = 12 := (shM S).1
  have cp := C.1
  have cm := C.2.1
  have ch := C.2.2.1
  have cw := C.2.2.2.1
  have cs := C.2.2.2.2.1
  have b1 : np < 2 ^ 31 := by omega
  have b2 : nm < 2 ^ 31 := by omega
  have b3 : nh < 2 ^ 31 := by omega
  have Q : PQ h np nm nh := PQ.of ⟨S, C, T, P, M, St, G, R, W, V, X⟩
  have FS : ∀ H H1, zsame h H → FR H H1 246 → zsame h H1 := fun H H1 e F => e.trans (F.same (fun j => by unfold scr; omega))
  by_cases c1 : 0 ≤ l2 ∧ l2 ≤ 2
  rotate_left
  · refine wX10_plan (X10_within_f c1 (N0 (wX11_plan ⟨kM, s_X11_lay2 Q zsame.rfl' (fun _ H1 F Y => Z1 (X11_in_f c1 rfl rfl (N0 ⟨rfl, ?_⟩))) (fun _ H1 F => Z0 ⟨rfl, ?_⟩)⟩)))
    · exact J0.up.same (FS _ _ zsame.rfl' F)
    · exact J0.up.same (FS _ _ zsame.rfl' F)
  refine wX10_plan (X10_within_t c1 (N1 ?_))
  simp only [shX S, shPl S, cp.2.1, ne_eq]
  refine ⟨trivial, by decide, by decide, by decide, trivial, s_X6_prepare Q (fun H0 P0 => ?_)⟩
  have S0 := P0.1.Sh Q.1
  simp only [shX S0, shPl S0, ne_eq]
  have kM0 : zK H0 200 = 12 := (shM S0).1
  refine ⟨trivial, by decide, trivial, s_X6_read Q P0 (fun ok H1 F1 Y1 => N1 ?_) (fun no H1 F1 => N0 ?_)⟩
  rotate_left
  · have e1 := P0.1.trans (F1.same (fun j => by unfold scr; omega))
    refine wX11_plan ⟨(shM (e1.Sh Q.1)).1, s_X11_lay2 Q e1 (fun y => absurd y no) (fun _ H2 F2 => Z0 ⟨rfl, J0.up.same (FS _ _ e1 F2)⟩)⟩
  have P1 := F1.PT P0 Q.2.1
  have S1 := P1.1.Sh Q.1
  have h5 : ∀ p, p < np → dgt np l1 p ≤ 5 := fun p hp => (ok.2.1 p hp).1
  have hc : ∀ p, p < np → ¬ oN h p → dgt np l1 p = 0 := fun p hp no => (ok.2.1 p hp).2.resolve_left no
  simp only [shX S1, shPl S1, ne_eq]
  have fin : ∀ (v : Int32) (H2 : ZH), zsame h H2 → (v = if l2 = 0 then zb (kept h np (dgt np l1)) else if l2 = 1 then nI (wst h np (dgt np l1)) else nI (wrw h np (dgt np l1))) → ZcI mX11_plan [.ref 200, .int l1, .int l2] H2 (fun v' h2 => v = v' ∧ Jx h2 (i + 1) L xs) := fun v H2 e2 ev => by
    refine wX11_plan ⟨(shM (e2.Sh Q.1)).1, s_X11_lay2 Q e2 (fun _ H3 F3 Y3 => Z1 (X11_in_t c1 rfl rfl (N1 ⟨?_, s_X11_worst Q (FS _ _ e2 F3) Y3 h5 hc (fun H4 kk kn kr ki kw => ?_)⟩))) (fun no => absurd ok no)⟩
    · exact (shM ((FS _ _ e2 F3).Sh Q.1)).1
    · have e4 : zsame h H4 := (FS _ _ e2 F3).trans ⟨kk, kn, kr, fun a j z => ki a j (fun x => z (by unfold scr; omega))⟩
      refine ⟨fun z => ⟨fun y => ⟨(shM (e4.Sh Q.1)).1, ?_, J0.up.same e4⟩, fun y => ⟨?_, J0.up.same e4⟩⟩, fun z => ⟨(shM (e4.Sh Q.1)).1, s_X11_isKept Q e4 (fun p hp => by rw [ki _ _ (by omega)]; exact Y3 p hp) h5 (zb_if (fun y => ⟨?_, J0.up.same e4⟩) (fun y => ⟨?_, J0.up.same e4⟩))⟩⟩
      · rw [ev, if_neg z, if_neg y, kw]
      · rw [ev, if_neg z, if_pos y]
      · rw [ev, if_pos z, zb_t y]
      · rw [ev, if_pos z, zb_f y]
  refine ⟨fun z => ⟨trivial, by decide, trivial, s_X6_isKept Q P1 Y1 h5 (fun H2 F2 => s_X10_asOne zb_01 (fin _ H2 (P1.1.trans F2.same) ?_))⟩, fun z => ⟨trivial, by decide, trivial, s_X6_worstRow Q P1 Y1 h5 ⟨(shPl S1).1, s_X6_costByRow Q P1 Y1 h5 ?_ (fin _ H1 P1.1 ?_)⟩⟩, fun z y => ⟨trivial, by decide, trivial, s_X6_worstRow Q P1 Y1 h5 (fin _ H1 P1.1 ?_)⟩⟩
  · rw [if_pos z]
  · unfold wrw
    by_cases a : tot h np (dgt np l1) (if tot h np (dgt np l1) 0 < tot h np (dgt np l1) 1 then 1 else 0) < tot h np (dgt np l1) 2
    · rw [if_pos a]; omega
    · rw [if_neg a]
      by_cases b : tot h np (dgt np l1) 0 < tot h np (dgt np l1) 1
      · rw [if_pos b]; omega
      · rw [if_neg b]; omega
  · rw [if_neg (by rw [z]; decide), if_pos z]; rfl
  · rw [if_neg z, if_neg y]
end PLAN
