theorem sumI_nn {f : Nat → Int} : ∀ {n : Nat}, (∀ k, k < n → 0 ≤ f k) → 0 ≤ sumI f n
  | 0, _ => Int.le_refl _
  | n + 1, e => by
    have := sumI_nn (n := n) (fun k hk => e k (by omega))
    have := e n (by omega)
    show 0 ≤ sumI f n + f n
    omega
theorem sumI_term {f : Nat → Int} {j : Nat} : ∀ {n : Nat}, (∀ k, k < n → 0 ≤ f k) → j < n → f j ≤ sumI f n
  | 0, _, h => absurd h (by omega)
  | n + 1, e, h => by
    show f j ≤ sumI f n + f n
    by_cases c : j = n
    · subst c
      have := sumI_nn (f := f) (n := j) (fun k hk => e k (by omega))
      omega
    · have := sumI_term (f := f) (j := j) (n := n) (fun k hk => e k (by omega)) (by omega)
      have := e n (by omega)
      omega
theorem sumI_bd {f : Nat → Int} {b : Int} : ∀ {n : Nat}, (∀ k, k < n → f k ≤ b) → sumI f n ≤ n * b
  | 0, _ => by show (0 : Int) ≤ (0 : Nat) * b; rw [Int.natCast_zero, Int.zero_mul]; exact Int.le_refl _
  | n + 1, e => by
    have h1 := sumI_bd (n := n) (fun k hk => e k (by omega))
    have h2 := e n (by omega)
    show sumI f n + f n ≤ ((n + 1 : Nat) : Int) * b
    rw [Int.natCast_add, Int.add_mul]
    omega
theorem NVj_bd (j : Nat) : 0 ≤ NVj j ∧ NVj j ≤ 300000000000000 := by
  have b1 : 13 ^ (8 - j) ≤ 13 ^ 8 := Nat.pow_le_pow_right (by omega) (by omega)
  unfold NVj
  omega
/-- what the cheapest pairing says of who gets which slot -/
theorem fin_choice {al : Nat → Nat → Bool} {wy : Nat → Nat → Nat} {fr : Nat → Nat → Bool} {S n : Nat} {Ct : Nat → Nat → Int} {u v : Nat → Int} {ro σ : Nat → Nat} (hS : S ≤ 12) (hn : n ≤ 9) (hw : ∀ j s, j < n → s < S → wy j s ≤ 198) (B : BI Ct (S + 9) n u v ro)
    (rows : ∀ j, j < n → (∀ s, s < S → Ct j s = if al j s = true then ((rkW wy fr j s * 10604499373 + s * 13 ^ (8 - j) : Nat) : Int) else BAR) ∧ ∀ i, i < 9 → Ct j (S + i) = NVj j)
    (hσ : ∀ j, j < n → σ j < S + 9 ∧ ro (σ j + 1) = j + 1) :
    (∀ j, j < n → cM al (csW wy fr) S n j = if σ j < S then σ j else 12) ∧ ∃ a b x, a ≤ 9 ∧ b ≤ 9 ∧ x ≤ 1782 ∧ Lf al (csW wy fr) S n 0 0 = 10000000 * a + 100000 * b + x ∧ ∃ D, D < 10604499373 ∧ sumI (fun j => Ct j (σ j)) n = (((20000 * a + 2000 * b + x) * 10604499373 + D : Nat) : Int) := by
  -- the cost of a choice that may be
  have cost : ∀ χ', vC al S n 0 0 χ' → sumI (fun j => Ct j (if χ' j = 12 then S + j else χ' j)) n = ((sR (fun j => rkS (rkW wy fr) j (χ' j)) n 0 * 10604499373 + Dn χ' n 0 : Nat) : Int) := fun χ' vv => by
    rw [← sum_VD]
    refine sumI_congr (fun j hj => ?_)
    by_cases c : χ' j = 12
    · rw [if_pos c, (rows j hj).2 j (by omega)]
      unfold NVj rkS
      rw [if_pos c, c]
    · rw [if_neg c]
      obtain ⟨q1, q2, _⟩ := (vv.1 j (by omega) (by omega)).resolve_left c
      rw [(rows j hj).1 _ q1, if_pos q2]
      unfold rkS
      rw [if_neg c]
  have le : ∀ χ', vC al S n 0 0 χ' → sumI (fun j => Ct j (σ j)) n ≤ ((sR (fun j => rkS (rkW wy fr) j (χ' j)) n 0 * 10604499373 + Dn χ' n 0 : Nat) : Int) := fun χ' vv => by
    rw [← cost χ' vv]
    refine B.best hσ (fun j hj => ?_) (fun j j' hj hj' e => ?_)
    · by_cases c : χ' j = 12
      · rw [if_pos c]; omega
      · rw [if_neg c]
        have := ((vv.1 j (by omega) (by omega)).resolve_left c).1
        omega
    · by_cases c : χ' j = 12
      · rw [if_pos c] at e
        by_cases c' : χ' j' = 12
        · rw [if_pos c'] at e; omega
        · rw [if_neg c'] at e
          have := ((vv.1 j' (by omega) (by omega)).resolve_left c').1
          omega
      · rw [if_neg c] at e
        have q := ((vv.1 j (by omega) (by omega)).resolve_left c).1
        by_cases c' : χ' j' = 12
        · rw [if_pos c'] at e; omega
        · rw [if_neg c'] at e
          exact vv.2 j j' (by omega) (by omega) (by omega) (by omega) e c
  -- no barred cost is paid
  have nn : ∀ j, j < n → 0 ≤ Ct j (σ j) := fun j hj => by
    by_cases c : σ j < S
    · rw [(rows j hj).1 _ c]
      by_cases a : al j (σ j) = true
      · rw [if_pos a]; omega
      · rw [if_neg a]; unfold BAR; omega
    · obtain ⟨i, hi⟩ : ∃ i, σ j = S + i := ⟨σ j - S, by omega⟩
      rw [hi, (rows j hj).2 i (by have := (hσ j hj).1; omega)]
      exact (NVj_bd j).1
  have v0 : vC al S n 0 0 (fun _ => 12) := ⟨fun j _ _ => Or.inl rfl, fun j j' _ _ _ _ _ z => absurd rfl z⟩
  have small : sumI (fun j => Ct j (σ j)) n ≤ 9 * 300000000000000 := by
    have h1 := le _ v0
    rw [← cost _ v0] at h1
    have h1' : sumI (fun j => Ct j (σ j)) n ≤ sumI (fun j => Ct j (if (12 : Nat) = 12 then S + j else 12)) n := h1
    have h2 : sumI (fun j => Ct j (if (12 : Nat) = 12 then S + j else 12)) n ≤ n * 300000000000000 := sumI_bd (fun j hj => by
      show Ct j (if (12 : Nat) = 12 then S + j else 12) ≤ _
      rw [if_pos rfl, (rows j hj).2 j (by omega)]
      exact (NVj_bd j).2)
    have h3 : (n : Int) * 300000000000000 ≤ 9 * 300000000000000 := by omega
    omega
  have okal : ∀ j, j < n → σ j < S → al j (σ j) = true := fun j hj c => by
    have t := sumI_term (f := fun j => Ct j (σ j)) nn hj
    have t' : Ct j (σ j) ≤ sumI (fun j => Ct j (σ j)) n := t
    rw [(rows j hj).1 _ c] at t'
    cases a : al j (σ j) with
    | true => rfl
    | false =>
      rw [a, if_neg (fun z => by cases z)] at t'
      unfold BAR at t'
      omega
  have vv : vC al S n 0 0 (fun j => if σ j < S then σ j else 12) := by
    refine ⟨fun j h1 h2 => ?_, fun j j' h1 h2 h3 h4 e ne => ?_⟩
    · show (if σ j < S then σ j else 12) = 12 ∨ _
      by_cases c : σ j < S
      · right
        show (if σ j < S then σ j else 12) < S ∧ al j (if σ j < S then σ j else 12) = true ∧ _
        rw [if_pos c]
        exact ⟨c, okal j (by omega) c, Nat.zero_testBit _⟩
      · left; rw [if_neg c]
    · have e' : (if σ j < S then σ j else 12) = (if σ j' < S then σ j' else 12) := e
      have ne' : (if σ j < S then σ j else 12) ≠ 12 := ne
      by_cases c : σ j < S
      · rw [if_pos c] at e' ne'
        by_cases c' : σ j' < S
        · rw [if_pos c'] at e'
          have r1 := (hσ j (by omega)).2
          have r2 := (hσ j' (by omega)).2
          rw [e'] at r1
          omega
        · rw [if_neg c'] at e'; exact absurd e' ne'
      · rw [if_neg c] at ne'; exact absurd rfl ne'
  have own : sumI (fun j => Ct j (σ j)) n = ((sR (fun j => rkS (rkW wy fr) j (if σ j < S then σ j else 12)) n 0 * 10604499373 + Dn (fun j => if σ j < S then σ j else 12) n 0 : Nat) : Int) := by
    rw [← sum_VD (χ := fun j => if σ j < S then σ j else 12)]
    refine sumI_congr (fun j hj => ?_)
    show Ct j (σ j) = ((rkS (rkW wy fr) j (if σ j < S then σ j else 12) * 10604499373 + (if σ j < S then σ j else 12) * 13 ^ (8 - j) : Nat) : Int)
    by_cases c : σ j < S
    · rw [if_pos c, (rows j hj).1 _ c, if_pos (okal j hj c)]
      unfold rkS
      rw [if_neg (by omega)]
    · rw [if_neg c]
      obtain ⟨i, hi⟩ : ∃ i, σ j = S + i := ⟨σ j - S, by omega⟩
      rw [hi, (rows j hj).2 i (by have := (hσ j hj).1; omega)]
      unfold NVj rkS
      rw [if_pos rfl]
  obtain ⟨u1, a, b, x, u2, u3, u4, u5, u6⟩ := uniq (al := al) (wy := wy) (fr := fr) hS hn hw vv (fun χ' v' => by
    have := le χ' v'
    rw [own] at this
    omega)
  refine ⟨u1, a, b, x, u2, u3, u4, u5, Dn (fun j => if σ j < S then σ j else 12) n 0, ?_, ?_⟩
  · have := Dn_bd (χ := fun j => if σ j < S then σ j else 12) (i := n) (k := 0) (by omega) (vC_12 hS vv)
    rw [show 13 ^ (9 - 0) = 10604499373 by decide] at this
    exact this
  · have u6' : sR (fun j => rkS (rkW wy fr) j (if σ j < S then σ j else 12)) n 0 = 20000 * a + 2000 * b + x := u6
    rw [own, u6']
theorem nI_div {R k : Nat} {K : Int32} (hR : R < 2 ^ 31) (hK : K.toInt = k) (hk : 0 < k) : nI R / K = nI (R / k) := by
  refine tI_eq ?_
  have : R / k ≤ R := Nat.div_le_self _ _
  rw [tI_div (by rw [nI_toInt hR]; omega) (by rw [hK]; omega), nI_toInt hR, hK, nI_toInt (by omega)]
  exact (Int.natCast_ediv R k).symm
theorem nI_mod {R k : Nat} : nI R - nI (R / k) * nI k = nI (R % k) := by
  have e : R = R % k + R / k * k := by rw [Nat.mul_comm, Nat.mod_add_div]
  rw [nI_mul]
  conv => lhs; lhs; rw [e]
  rw [← nI_add, Int32.add_sub_cancel]
section SETTLE
variable {h : ZH} {np nm nh : Nat}
/-- the class has worked out the move -/
def C4 (h H : ZH) (sl : SLt) (mv : MVt) : Prop := zsame h H ∧ SCl H sl ∧ zI H 35 4 = nI mv.1 ∧ mv.1 ≤ 9 ∧ (∀ j, j < mv.1 → zI H 38 j = nI (mv.2.1 j)) ∧ zI H 35 7 = nI mv.2.2 ∧
  (∀ j, j < mv.1 → zI H 39 j = if cM (alJ h sl mv.2.1) (csW (wyJ h sl mv.2.1) (frJ h sl mv.2.1)) sl.1 mv.1 j = 12 then -6 else nI (cM (alJ h sl mv.2.1) (csW (wyJ h sl mv.2.1) (frJ h sl mv.2.1)) sl.1 mv.1 j)) ∧
  ∃ a b x, a ≤ 9 ∧ b ≤ 9 ∧ x ≤ 1782 ∧ Lf (alJ h sl mv.2.1) (csW (wyJ h sl mv.2.1) (frJ h sl mv.2.1)) sl.1 mv.1 0 0 = 10000000 * a + 100000 * b + x ∧ zI H 35 8 = nI a ∧ zI H 35 9 = nI b ∧ zI H 35 10 = nI x
set_option maxHeartbeats 4000000 in
theorem s_X7_settle {ψ : ZH → Prop} {H : ZH} {sl : SLt} {mv : MVt} (S0 : Sh h np nm nh) (hw : ∀ j s, j < mv.1 → s < sl.1 → wyJ h sl mv.2.1 j s ≤ 198) (e : zsame h H) (C : SCl H sl) (c4 : zI H 35 4 = nI mv.1) (n9 : mv.1 ≤ 9) (cm : ∀ j, j < mv.1 → zI H 38 j = nI (mv.2.1 j)) (c7 : zI H 35 7 = nI mv.2.2) (R : ∀ j, j < mv.1 → rowV H sl.1 j (vJ h sl mv.2.1 j))
    (k : ∀ H1, C4 h H1 sl mv → ψ H1) : ZcV mX7_settle [.ref 35] H ψ := by
  have S := e.Sh S0
  have h12 := C.2.1
  refine wX7_settle ?_
  have b9 : nI sl.1 + 9 = nI (sl.1 + 9) := by rw [show (9 : Int32) = nI 9 from rfl, nI_add]
  simp only [shRe S, c4, C.1, b9, ne_eq]
  have Sa : Sh (zsI H 40 7 (nI (sl.1 + 9))) np nm nh := S.same (by rw [zK_sI]) (by rw [zN_sI]) (by rw [zR_sI])
  have rowsC : ∀ j, j < mv.1 → (∀ s, s < sl.1 → Ctt (zsI H 40 7 (nI (sl.1 + 9))) j s = vJ h sl mv.2.1 j s) ∧ ∀ i, i < 9 → Ctt (zsI H 40 7 (nI (sl.1 + 9))) j (sl.1 + i) = NVj j := fun j hj => ⟨fun s hs => (R j hj).1 s hs, fun i hi => (R j hj).2 i hi⟩
  have vb : ∀ j s, j < mv.1 → s < sl.1 → 0 ≤ vJ h sl mv.2.1 j s ∧ vJ h sl mv.2.1 j s ≤ 100000000000000000 := fun j s hj hs => by
    unfold vJ
    by_cases a : alJ h sl mv.2.1 j s = true
    · rw [if_pos a]
      have b1 : 13 ^ (8 - j) ≤ 13 ^ 8 := Nat.pow_le_pow_right (by omega) (by omega)
      have b2 : s * 13 ^ (8 - j) ≤ 12 * 13 ^ 8 := Nat.mul_le_mul (by omega) b1
      have b3 : rkW (wyJ h sl mv.2.1) (frJ h sl mv.2.1) j s ≤ 2198 := by
        unfold rkW
        have := hw j s hj hs
        by_cases f : frJ h sl mv.2.1 j s = true
        · rw [if_pos f]; omega
        · rw [if_neg f]; omega
      omega
    · rw [if_neg a]; unfold BAR; omega
  refine ⟨trivial, by decide, trivial, s_X2_solve (np := np) (nm := nm) (nh := nh) ⟨Sa, by rw [zI_sIs], by omega, by omega, n9, fun r c hr hc => ?_, fun r c hr h1 h2 => ?_⟩ (fun H2 ro P B => ?_)⟩
  · by_cases c1 : c < sl.1
    · rw [(rowsC r hr).1 c c1]; exact vb r c hr c1
    · obtain ⟨i, hi⟩ : ∃ i, c = sl.1 + i := ⟨c - sl.1, by omega⟩
      rw [hi, (rowsC r hr).2 i (by omega)]
      have := NVj_bd r
      omega
  · obtain ⟨i, hi⟩ : ∃ i, c = sl.1 + i := ⟨c - sl.1, by omega⟩
    rw [hi, (rowsC r hr).2 i (by omega)]
    exact (NVj_bd r).2
  -- the columns
  obtain ⟨σ, hσ⟩ : ∃ σ : Nat → Nat, ∀ j, j < mv.1 → σ j < sl.1 + 9 ∧ ro (σ j + 1) = j + 1 := by
    have ex : ∀ j, ∃ c, j < mv.1 → c < sl.1 + 9 ∧ ro (c + 1) = j + 1 := fun j => by
      by_cases hj : j < mv.1
      · obtain ⟨c, c1, c2, c3⟩ := B.2.2.2.2.1 (j + 1) (by omega) (by omega)
        exact ⟨c - 1, fun _ => ⟨by omega, by rw [show c - 1 + 1 = c by omega]; exact c3⟩⟩
      · exact ⟨0, fun z => absurd z hj⟩
    exact ⟨fun j => (ex j).choose, fun j hj => (ex j).choose_spec hj⟩
  obtain ⟨fc, a, b, x, fa, fb, fx, fL, D, fD, fS⟩ := fin_choice (al := alJ h sl mv.2.1) (wy := wyJ h sl mv.2.1) (fr := frJ h sl mv.2.1) h12 n9 hw B rowsC hσ
  generalize hCt : Ctt (zsI H 40 7 (nI (sl.1 + 9))) = Ct at B rowsC fS
  have ctE : ∀ j c, Ct j c = (zL H (50 + j) c).toInt := fun j c => by rw [← hCt]; rfl
  obtain ⟨p1, p2, p3, p4, p5, p6⟩ := P
  rw [zK_sI] at p1
  rw [zN_sI] at p2
  rw [zR_sI] at p3
  have S2 : Sh H2 np nm nh := S.same p1 p2 p3
  have z2 : zsame h H2 := e.trans ⟨p1, p2, p3, fun a' j q => by
    have n1 : ¬ (45 ≤ a' ∧ a' ≤ 47) := fun w => q (by unfold scr; omega)
    have n2 : ¬ (a' = 40 ∧ j = 7) := fun w => q (by unfold scr; omega)
    rw [p4 a' j n1, zI_sIn n2]⟩
  have E2 : ∀ a' j, ¬ (45 ≤ a' ∧ a' ≤ 47) → ¬ (a' = 40 ∧ j = 7) → zI H2 a' j = zI H a' j := fun a' j n1 n2 => by rw [p4 a' j n1, zI_sIn n2]
  have L2 : ∀ a' j, ¬ (42 ≤ a' ∧ a' ≤ 44) → zL H2 a' j = zL H a' j := fun a' j n1 => by rw [p5 a' j n1, zL_sI']
  have cN2 : zI H2 40 7 = nI (sl.1 + 9) := by rw [p4 _ _ (by omega), zI_sIs]
  have nnt : ∀ j, j < mv.1 → 0 ≤ Ct j (σ j) := fun j hj => by
    by_cases c : σ j < sl.1
    · rw [(rowsC j hj).1 _ c]; exact (vb j _ hj c).1
    · obtain ⟨i, hi⟩ : ∃ i, σ j = sl.1 + i := ⟨σ j - sl.1, by omega⟩
      rw [hi, (rowsC j hj).2 i (by have := (hσ j hj).1; omega)]
      exact (NVj_bd j).1
  have sbd : ∀ j, j ≤ mv.1 → 0 ≤ sumI (fun j => Ct j (σ j)) j ∧ sumI (fun j => Ct j (σ j)) j ≤ 9 * 100000000000000000 := fun j hj => by
    refine ⟨sumI_nn (fun k hk => nnt k (by omega)), ?_⟩
    have h1 := sumI_bd (f := fun j => Ct j (σ j)) (b := 100000000000000000) (n := j) (fun i hi => by
      show Ct i (σ i) ≤ _
      by_cases c : σ i < sl.1
      · rw [(rowsC i (by omega)).1 _ c]; exact (vb i _ (by omega) c).2
      · obtain ⟨i', hi'⟩ : ∃ i', σ i = sl.1 + i' := ⟨σ i - sl.1, by omega⟩
        rw [hi', (rowsC i (by omega)).2 i' (by have := (hσ i (by omega)).1; omega)]
        have := NVj_bd i
        omega)
    have h2 : (j : Int) * 100000000000000000 ≤ 9 * 100000000000000000 := by omega
    omega
  have main := down (n := mv.1) (I := fun j => ∀ H3 (T : Int64), zK H3 = zK H2 → zN H3 = zN H2 → zR H3 = zR H2 → zL H3 = zL H2 → (∀ a' i, a' ≠ 39 → zI H3 a' i = zI H2 a' i) → T.toInt = sumI (fun j => Ct j (σ j)) j → (∀ j', j' < j → zI H3 39 j' = if (if σ j' < sl.1 then σ j' else 12) = 12 then -6 else nI (if σ j' < sl.1 then σ j' else 12)) → Zt mX7_settle (zPV ψ) 0 0 22 [some (.ref 35), some (.long T), none, some (.int (nI j)), none] [] H3) ?_ ?_
  · exact main H2 0 rfl rfl rfl rfl (fun _ _ _ => rfl) (show (0 : Int64).toInt = 0 by decide) (fun j' hj' => absurd hj' (by omega))
  · intro H3 T kk kn kr kl ki eT g
    have S3 : Sh H3 np nm nh := S2.same kk kn kr
    have c43 : zI H3 35 4 = nI mv.1 := by rw [ki _ _ (by decide), E2 _ _ (by omega) (by omega), c4]
    refine wX7_settle_22 ⟨(shRe S3).1, fun _ => ?_, fun z => absurd (by rw [c43]; exact Int32.le_refl _) z⟩
    -- the three numbers
    have vD : 20000 * a + 2000 * b + x < 2 ^ 31 := by omega
    have q0 : (T / 10604499373).toInt = ((20000 * a + 2000 * b + x : Nat) : Int) := by
      have cl : (10604499373 : Int64).toInt = 10604499373 := by decide
      rw [Int64.toInt_div, cl, eT, fS, Int.tdiv_eq_ediv_of_nonneg (by omega)]
      have : (((20000 * a + 2000 * b + x) * 10604499373 + D : Nat) : Int) / 10604499373 = ((20000 * a + 2000 * b + x : Nat) : Int) := by omega
      rw [this, tL_of (by omega) (by omega)]
    have q1 : Int64.toInt32 (T / 10604499373) = nI (20000 * a + 2000 * b + x) := by
      refine tI_eq ?_
      rw [Int64.toInt_toInt32, q0, nI_toInt vD, tI_of (by omega) (by omega)]
    rw [q1]
    have d1 : nI (20000 * a + 2000 * b + x) / 20000 = nI a := by
      rw [nI_div (k := 20000) vD (by decide) (by omega)]
      congr 1
      omega
    have d2 : (nI (20000 * a + 2000 * b + x) - nI a * 20000) / 2000 = nI b := by
      have := nI_mod (R := 20000 * a + 2000 * b + x) (k := 20000)
      rw [show (20000 * a + 2000 * b + x) / 20000 = a by omega] at this
      rw [show (20000 : Int32) = nI 20000 from rfl, this, nI_div (k := 2000) (by omega) (by decide) (by omega)]
      congr 1
      omega
    have d3 : nI (20000 * a + 2000 * b + x) - nI (20000 * a + 2000 * b + x) / 2000 * 2000 = nI x := by
      rw [nI_div (k := 2000) vD (by decide) (by omega)]
      have := nI_mod (R := 20000 * a + 2000 * b + x) (k := 2000)
      rw [show (2000 : Int32) = nI 2000 from rfl, this]
      congr 1
      omega
    rw [d1, d2, d3]
    have E3 : ∀ a' i, a' ≠ 39 → ¬ (45 ≤ a' ∧ a' ≤ 47) → ¬ (a' = 40 ∧ i = 7) → zI H3 a' i = zI H a' i := fun a' i n0 n1 n2 => by rw [ki a' i n0, E2 a' i n1 n2]
    have z3 : zsame H2 H3 := ⟨kk, kn, kr, fun a' i w => ki a' i (fun z => w (by unfold scr; omega))⟩
    refine k _ ⟨z2.trans (z3.trans ((zsame.sI (by unfold scr; omega)).trans ((zsame.sI (by unfold scr; omega)).trans (zsame.sI (by unfold scr; omega))))), C.fr (fun a' i w => ?_), ?_, n9, fun j hj => ?_, ?_, fun j hj => ?_, a, b, x, fa, fb, fx, fL, ?_, ?_, ?_⟩
    · rw [zI_sIn (by omega), zI_sIn (by omega), zI_sIn (by omega), E3 a' i (by omega) (by omega) (by omega)]
    · rw [zI_sIj (by decide), zI_sIj (by decide), zI_sIj (by decide)]; exact c43
    · rw [zI_sIa (by decide), zI_sIa (by decide), zI_sIa (by decide), E3 _ _ (by omega) (by omega) (by omega)]; exact cm j hj
    · rw [zI_sIj (by decide), zI_sIj (by decide), zI_sIj (by decide), E3 _ _ (by omega) (by omega) (by omega)]; exact c7
    · rw [zI_sIa (by decide), zI_sIa (by decide), zI_sIa (by decide), g j hj, fc j hj]
    · rw [zI_sIj (by decide), zI_sIj (by decide), zI_sIs]
    · rw [zI_sIj (by decide), zI_sIs]
    · rw [zI_sIs]
  · intro j hj ih H3 T kk kn kr kl ki eT g
    have S3 : Sh H3 np nm nh := S2.same kk kn kr
    have c43 : zI H3 35 4 = nI mv.1 := by rw [ki _ _ (by decide), E2 _ _ (by omega) (by omega), c4]
    have c23 : zI H3 35 2 = nI sl.1 := by rw [ki _ _ (by decide), E2 _ _ (by omega) (by omega), C.1]
    have cN3 : zI H3 40 7 = nI (sl.1 + 9) := by rw [ki _ _ (by decide), cN2]
    have ej := nI_clamp (n := j) (by omega)
    have vj : vp_in (nI j) 9 := vp_in_nI (by omega) (by omega)
    obtain ⟨rR, rK, rN⟩ := shCost S3 (q := j) (by omega)
    refine wX7_settle_22 ⟨(shRe S3).1, fun z => absurd z (by rw [c43]; exact cnt_le (by omega) hj), fun _ => ?_⟩
    simp only [shRe S3, ne_eq]
    refine ⟨by decide, trivial, s_X2_columnOf (ro := ro) S3 cN3 ⟨by omega, by omega⟩ (fun c h1 h2 => by rw [ki _ _ (by decide)]; exact p6 c h1 h2) B hj n9 (fun c hc hr => ?_)⟩
    have hcσ : c = σ j := by
      have w := hσ j hj
      have := B.2.2.2.1 (c + 1) (σ j + 1) (by omega) (by omega) (by omega) (by omega) (by rw [hr, w.2]) (by omega)
      omega
    subst hcσ
    have ec := nI_clamp (n := σ j) (by omega)
    have vc : vp_in (nI (σ j)) 21 := vp_in_nI (by omega) (by omega)
    simp only [shRe S3, shPa S3, ej, vj, rR, rK, rN, ec, vc, c23, nI_1, ne_eq]
    refine ⟨trivial, by decide, trivial, by decide, trivial, trivial, by omega, trivial, trivial, fun v15 ev => ⟨by decide, ?_⟩⟩
    have eT' : v15.toInt = sumI (fun j => Ct j (σ j)) (j + 1) := by
      have t1 : (zL H3 (50 + j) (σ j)).toInt = Ct j (σ j) := by rw [kl, L2 _ _ (by omega), ctE]
      have s1 := sbd (j + 1) (by omega)
      have s2 : sumI (fun j => Ct j (σ j)) (j + 1) = sumI (fun j => Ct j (σ j)) j + Ct j (σ j) := rfl
      rw [ev, tL_add (by rw [t1, eT]; omega) (by rw [t1, eT]; omega), t1, eT, s2]
    have go : ∀ w, w = (if (if σ j < sl.1 then σ j else 12) = 12 then -6 else nI (if σ j < sl.1 then σ j else 12)) → Zt mX7_settle (zPV ψ) 0 0 22 [some (.ref 35), some (.long v15), none, some (.int (nI (j + 1))), none] [] (zsI H3 39 j w) := fun w hw' => by
      refine ih _ v15 kk kn kr kl (fun a' i q => by rw [zI_sIa q]; exact ki a' i q) eT' (fun j' hj' => ?_)
      by_cases e' : j' = j
      · subst e'; rw [zI_sIs, hw']
      · rw [zI_sIj e']; exact g j' (by omega)
    refine ⟨fun z => ⟨trivial, trivial, go _ ?_⟩, fun z => ⟨trivial, trivial, go _ ?_⟩⟩
    · have : ¬ σ j < sl.1 := fun q => absurd z (cnt_le (by omega) q)
      rw [if_neg this, if_pos rfl]
    · have : σ j < sl.1 := Classical.not_not.mp (fun q => z (nI_le (by omega) (by omega)))
      rw [if_pos this, if_neg (by omega)]
end SETTLE
