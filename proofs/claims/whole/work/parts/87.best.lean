section BEST
variable {h : ZH} {np nm nh : Nat} {i L : Nat} {xs : Nat → Int32}
/-- only the table of the least has changed -/
def FL (H H1 : ZH) : Prop := zK H1 = zK H ∧ zN H1 = zN H ∧ zR H1 = zR H ∧ ∀ a j, ¬ (150 ≤ a ∧ a ≤ 158) → zI H1 a j = zI H a j
theorem FL.rfl' {H : ZH} : FL H H := ⟨rfl, rfl, rfl, fun _ _ _ => rfl⟩
theorem FL.sI {H H1 : ZH} {a j : Nat} {v : Int32} (k : FL H H1) (q : 150 ≤ a ∧ a ≤ 158) : FL H (zsI H1 a j v) := ⟨k.1, k.2.1, k.2.2.1, fun b i z => by rw [zI_sIa (by omega)]; exact k.2.2.2 b i z⟩
theorem FL.PT {H H1 : ZH} (k : FL H H1) (P : PT h H np) (hn : np ≤ 8) : PT h H1 np := P.fr hn k.1 k.2.1 k.2.2.1 (fun a j x1 x2 x3 x4 => k.2.2.2 a j (by omega))
theorem lst5 (Q : PQ h np nm nh) {k : Nat} : lst h k ≤ 5 := by
  unfold lst
  by_cases o : oN h k
  · rw [if_pos o]; exact Q.2.2.2.2.2.2.1.2.2
  · rw [if_neg o]; omega
set_option maxHeartbeats 4000000 in
theorem s_X6_least {ψ : ZH → Prop} {H : ZH} (Q : PQ h np nm nh) (P : PT h H np) (k : ∀ H1, FL H H1 → (∀ q r, q ≤ np → r < 3 → zI H1 (150 + q) r = nI (lea h r (np - q) q)) → ψ H1) : ZcV mX6_fillLeast [.ref 80] H ψ := by
  have h8 := Q.2.1
  refine wX6_fillLeast ?_
  have main := down (n := 3) (I := fun r => ∀ H1, FL H H1 → (∀ q r', q ≤ np → r' < r → zI H1 (150 + q) r' = nI (lea h r' (np - q) q)) → Zt mX6_fillLeast (zPV ψ) 0 0 2 [some (.ref 80), some (.int (nI r)), none, none, none] [] H1) ?_ ?_
  · exact main H FL.rfl' (fun q r' _ hr' => absurd hr' (by omega))
  · intro H1 F g
    exact wX6_fillLeast_2 ⟨fun _ => k H1 F g, fun z => absurd (by decide) z⟩
  · intro r hr ih H1 F g
    have P1 := F.PT P h8
    have S1 := P1.1.Sh Q.1
    have e1 := nI_clamp (n := r) (by omega)
    have v1 : vp_in (nI r) 3 := vp_in_nI (by omega) (by omega)
    have e2 := nI_clamp (n := np) (by omega)
    have v2 : vp_in (nI np) 9 := vp_in_nI (by omega) (by omega)
    refine wX6_fillLeast_2 ⟨fun z => absurd z (cnt_le (n := 3) (by omega) hr), fun _ => ?_⟩
    simp only [shPl S1, shRow85 S1 (j := np) (by omega), P1.2.1, e1, v1, e2, v2, ne_eq]
    refine ⟨trivial, by decide, trivial, trivial, by omega, trivial, trivial, fun a1 ea => ?_⟩
    have F1 : FL H a1 := by rw [ea]; exact F.sI (by omega)
    have g1 : ∀ q r', q ≤ np → r' < r → zI a1 (150 + q) r' = nI (lea h r' (np - q) q) := fun q r' hq hr' => by rw [ea, zI_sIn (by omega)]; exact g q r' hq hr'
    have g2 : ∀ q, np ≤ q → q ≤ np → zI a1 (150 + q) r = nI (lea h r (np - q) q) := fun q hq hq' => by
      rw [show q = np by omega, ea, zI_sIs, Nat.sub_self]; rfl
    clear ea
    have P2 := F1.PT P h8
    rw [(shPl (P2.1.Sh Q.1)).1, P2.2.1]
    refine ⟨rfl, ?_⟩
    have inner : ∀ j, j ≤ np → ∀ H2, FL H H2 → (∀ q r', q ≤ np → r' < r → zI H2 (150 + q) r' = nI (lea h r' (np - q) q)) → (∀ q, j ≤ q → q ≤ np → zI H2 (150 + q) r = nI (lea h r (np - q) q)) → Zt mX6_fillLeast (zPV ψ) 0 0 26 [some (.ref 80), some (.int (nI r)), some (.int (nI j - 1)), none, none] [] H2 := by
      intro j
      induction j with
      | zero =>
        intro _ H2 F2 g3 g4
        refine wX6_fillLeast_26 ⟨fun _ => ?_, fun z => absurd n1_lt z⟩
        rw [nI_1]
        refine ih H2 F2 (fun q r' hq hr' => ?_)
        by_cases er : r' = r
        · subst er; exact g4 q (by omega) hq
        · exact g3 q r' hq (by omega)
      | succ j ihj =>
        intro hj H2 F2 g3 g4
        have P3 := F2.PT P h8
        have S3 := P3.1.Sh Q.1
        have ej := nI_clamp (n := j) (by omega)
        have vj : vp_in (nI j) 9 := vp_in_nI (by omega) (by omega)
        have ej1 := nI_clamp (n := j + 1) (by omega)
        have vj1 : vp_in (nI (j + 1)) 9 := vp_in_nI (by omega) (by omega)
        have b6 : nI j * 6 = nI (6 * j + 0) := by rw [show (6 : Int32) = nI 6 from rfl, nI_mul, Nat.mul_comm]; rfl
        have e6 := nI_clamp (n := 6 * j + 0) (by omega)
        have v6 : vp_in (nI (6 * j + 0)) 48 := vp_in_nI (by omega) (by omega)
        have l5 := lst5 (k := j) Q
        rw [nI_pred]
        refine wX6_fillLeast_26 ⟨fun z => absurd z (nI_pos (by omega)), fun _ => ?_⟩
        rw [b6]
        simp only [shPl S3, shRow84 S3 (j := 6 * j + 0) (by omega), e1, v1, e6, v6, (P3.2.2.2.2.2 j (by omega)).2.2 0 r (by omega) hr, ne_eq]
        refine ⟨trivial, by decide, trivial, trivial, by omega, trivial, trivial, fun v ev => ?_⟩
        subst ev
        refine down (n := lst h j) (I := fun y => Zt mX6_fillLeast (zPV ψ) 0 0 45 [some (.ref 80), some (.int (nI r)), some (.int (nI j)), some (.int (nI (mnu h j r y))), some (.int (nI (y + 1)))] [] H2) ?_ (fun y hy q => ?_)
        · refine wX6_fillLeast_45 ⟨(shPl S3).1, s_X6_last Q P3 (by omega) ⟨fun _ => ?_, fun z => absurd (nI_lt (by omega) (by omega)) z⟩⟩
          simp only [shPl S3, shRow85 S3 (j := j) (by omega), shRow85 S3 (j := j + 1) (by omega), nI_1, e1, v1, ej, vj, ej1, vj1, g4 (j + 1) (by omega) (by omega), nI_add, ne_eq]
          refine ⟨trivial, by decide, trivial, trivial, by omega, trivial, by omega, trivial, trivial, trivial, trivial, ?_⟩
          rw [nI_dec]
          refine ihj (by omega) _ (F2.sI (by omega)) (fun q r' hq hr' => by rw [zI_sIn (by omega)]; exact g3 q r' hq hr') (fun q hq hq' => ?_)
          by_cases eq : q = j
          · subst eq
            rw [zI_sIs, show np - q = (np - (q + 1)) + 1 by omega]
            rfl
          · rw [zI_sIn (by omega)]; exact g4 q (by omega) hq'
        · have b7 : nI j * 6 + nI (y + 1) = nI (6 * j + (y + 1)) := by rw [show (6 : Int32) = nI 6 from rfl, nI_mul, nI_add, Nat.mul_comm]
          have e7 := nI_clamp (n := 6 * j + (y + 1)) (by omega)
          have v7 : vp_in (nI (6 * j + (y + 1))) 48 := vp_in_nI (by omega) (by omega)
          have m1 := mnu_le (h := h) (p := j) (r := r) (n := y) (d := 0) (by omega)
          have m2 := cst_bd (d := 0) (r := r) Q (show j < np by omega)
          have m3 := cst_bd (d := y + 1) (r := r) Q (show j < np by omega)
          refine wX6_fillLeast_45 ⟨(shPl S3).1, s_X6_last Q P3 (by omega) ⟨fun z => ?_, fun _ => ?_⟩⟩
          · rw [tI_lt, nI_toInt (by omega), nI_toInt (by omega)] at z
            omega
          · rw [b7]
            simp only [shPl S3, shRow84 S3 (j := 6 * j + (y + 1)) (by omega), e1, v1, e7, v7, (P3.2.2.2.2.2 j (by omega)).2.2 (y + 1) r (by omega) hr, nI_1, ne_eq]
            refine ⟨trivial, by decide, trivial, trivial, by omega, trivial, trivial, fun v ev => ?_⟩
            have : v = nI (mnu h j r (y + 1)) := by
              have em : mnu h j r (y + 1) = if cst h j (y + 1) r < mnu h j r y then cst h j (y + 1) r else mnu h j r y := rfl
              rw [ev, em]
              have lt : (nI (cst h j (y + 1) r) < nI (mnu h j r y)) ↔ cst h j (y + 1) r < mnu h j r y := by rw [tI_lt, nI_toInt (by omega), nI_toInt (by omega)]; omega
              by_cases c : cst h j (y + 1) r < mnu h j r y
              · rw [if_pos (lt.mpr c), if_pos c]
              · rw [if_neg (fun x => c (lt.mp x)), if_neg c]
            rw [this]
            exact q
    exact inner np (Nat.le_refl _) a1 F1 g1 g2
theorem s_X6_find {ψ : Int32 → ZH → Prop} {H : ZH} {π : Nat → Nat} (Q : PQ h np nm nh) (P : PT h H np) (k1 : owN h ≤ wonP h np π 0 → ∀ H', CH h H' np π 0 (scn h np np 0 π none) → ψ 1 H') (k0 : ¬ owN h ≤ wonP h np π 0 → ∀ H', PT h H' np → ψ 0 H') : ZcI mX6_findBest [.ref 80] H ψ := by
  have h8 := Q.2.1
  have S := P.1.Sh Q.1
  refine wX6_findBest ⟨(shPl S).1, s_X6_start (π := π) Q P (fun H1 F1 C1 => ?_)⟩
  have P1 := F1.PT P h8
  have S1 := P1.1.Sh Q.1
  have wb := wonP_bd (π := π) (k := 0) Q
  have ob := Q.2.2.2.2.2.2.2.2.1.2
  have le : (nI (owN h) ≤ nI (wonP h np π 0)) ↔ owN h ≤ wonP h np π 0 := by rw [tI_le, nI_toInt (by omega), nI_toInt (by omega)]; omega
  rw [P1.2.2.2.1, C1.2, le]
  refine ⟨(shPl S1).1, fun z => ?_, fun z => k0 z H1 P1⟩
  have P2 : PT h (zsI H1 80 13 1000000000) np := P1.fr h8 (by rw [zK_sI]) (by rw [zN_sI]) (by rw [zR_sI]) (fun a j x1 x2 x3 x4 => zI_sIn (by omega))
  refine s_X6_least Q P2 (fun H3 F3 g3 => ?_)
  have lb : ∀ r, tot h 0 π r + lea h r np 0 < 1000000000 := fun r => by
    have x2 := lea_bd (r := r) Q (n := np) (k := 0) (by omega)
    have x4 : np * 1000000 ≤ 8 * 1000000 := Nat.mul_le_mul_right _ (by omega)
    have x5 : tot h 0 π r = 0 := rfl
    omega
  have E3 : ∀ a j, ¬ (150 ≤ a ∧ a ≤ 158) → ¬ (a = 80 ∧ j = 13) → zI H3 a j = zI H1 a j := fun a j x1 x2 => by rw [F3.2.2.2 a j x1, zI_sIn x2]
  have m3 : zI H3 80 13 = 1000000000 := by rw [F3.2.2.2 _ _ (by omega), zI_sIs]
  have rows := down (n := 3) (I := fun r => ∀ H4, FR H3 H4 160 → (∀ r', r' < r → zI H4 160 r' = 0) → Zt mX6_findBest (zPI ψ) 0 0 29 [some (.ref 80), some (.int (nI r))] [] H4) ?_ ?_
  · exact rows H3 FR.rfl' (fun r' hr' => absurd hr' (by omega))
  · intro H4 F4 g4
    have E4 := F4.2.2.2
    have P4 : PT h H4 np := (F3.PT P2 h8).fr h8 F4.1 F4.2.1 F4.2.2.1 (fun a j x1 x2 x3 x4 => E4 a j (by omega))
    refine wX6_findBest_29 ⟨fun _ => ?_, fun z => absurd (by decide) z⟩
    refine s_X6_choose Q np 0 (by omega) 9 (by omega) H4 π none _ ⟨P4, fun p hp => absurd hp (by omega), ⟨fun y hy => ?_, ?_⟩, fun q r hq hr => ?_, fun q r hq hr => ?_, ⟨?_, by decide⟩, fun b hb => by cases hb⟩ (fun p hp => absurd hp (by omega)) (fun p hp => absurd hp (by omega)) z (fun r _ => lb r) (fun H' c => k1 z H' c)
    · rw [E4 _ _ (by omega), E3 _ _ (by omega) (by omega)]; exact C1.1 y hy
    · rw [E4 _ _ (by omega), E3 _ _ (by omega) (by omega)]; exact C1.2
    · rw [show q = 0 by omega, g4 r hr]; rfl
    · rw [E4 _ _ (by omega)]; exact g3 q r hq hr
    · rw [E4 _ _ (by omega), m3]; rfl
  · intro r hr ih H4 F4 g4
    have E4 := F4.2.2.2
    have P4 : PT h H4 np := (F3.PT P2 h8).fr h8 F4.1 F4.2.1 F4.2.2.1 (fun a j x1 x2 x3 x4 => E4 a j (by omega))
    have S4 := P4.1.Sh Q.1
    have e1 := nI_clamp (n := r) (by omega)
    have v1 : vp_in (nI r) 3 := vp_in_nI (by omega) (by omega)
    refine wX6_findBest_29 ⟨fun z => absurd z (cnt_le (n := 3) (by omega) hr), fun _ => ?_⟩
    simp only [shPl S4, shRow86 S4 (j := 0) (by omega), e1, v1, nI_1, ne_eq]
    refine ⟨trivial, by decide, trivial, by decide, by decide, trivial, trivial, ih _ F4.sI (fun r' hr' => ?_)⟩
    by_cases er : r' = r
    · subst er; rw [zI_sIs]
    · rw [zI_sIj er]; exact g4 r' (by omega)
/-! the model's search -/
def bsM (B : OB) : Int32 := B.elim (-5) (fun b => nI b.2)
def leM (B : OB) : Int32 := B.elim 1000000000 (fun b => nI b.1)
def vB (B : OB) : Prop := ∀ b, B = some b → b.1 < 2 ^ 31 ∧ b.2 < 2 ^ 31
def mxL (h : ZH) (k : Nat) (π : Nat → Nat) : Nat → Nat := fun p => if p < k then π p else lst h p
def G1 (h : ZH) (np : Nat) (w : Int32) (Φ : Int32 → ZH → Prop) (π : Nat → Nat) (B : OB) : Prop := vB B → ∀ H, zsame h H → MY H π np → Zt mX11_best (zPI Φ) 0 0 49 [some (.ref 200), some (.int w), some (.int (bsM B)), some (.int (leM B)), some (.int 1), none] [] H
def G2 (h : ZH) (np : Nat) (w : Int32) (Φ : Int32 → ZH → Prop) (π : Nat → Nat) (B : OB) : Prop := vB B → ∀ H, zsame h H → MY H π np → ZcI mX11_nextPlan [.ref 200] H (fun x h4 => Zt mX11_best (zPI Φ) 0 0 49 [some (.ref 200), some (.int w), some (.int (bsM B)), some (.int (leM B)), some (.int x), none] [] h4)
theorem digs_bd {π : Nat → Nat} : ∀ {n : Nat}, (∀ p, p < n → π p ≤ 5) → digs π n < 10 ^ n
  | 0, _ => by unfold digs; decide
  | n + 1, e => by
    have := digs_bd (π := π) (n := n) (fun p hp => e p (by omega))
    have := e n (by omega)
    unfold digs
    rw [Nat.pow_succ]
    omega
theorem s_X11_digitsOf {ψ : Int32 → ZH → Prop} {H : ZH} {π : Nat → Nat} (Q : PQ h np nm nh) (e : zsame h H) (Y : MY H π np) (k : ψ (nI (digs π np)) H) : ZcI mX11_digitsOf [.ref 200] H ψ := by
  have h8 := Q.2.1
  have S := e.Sh Q.1
  have cn : zI H 200 9 = nI np := by rw [e.2.2.2 _ _ (by unfold scr; omega)]; exact Q.2.2.1.1
  refine wX11_digitsOf (down (n := np) (I := fun p => Zt mX11_digitsOf (zPI ψ) 0 0 4 [some (.ref 200), some (.int (nI (digs π p))), some (.int (nI p))] [] H) ?_ (fun p hp q => ?_))
  · exact wX11_digitsOf_4 ⟨(shM S).1, fun _ => k, fun z => absurd (by rw [cn]; exact Int32.le_refl _) z⟩
  · have e1 := nI_clamp (n := p) (by omega)
    have v1 : vp_in (nI p) 8 := vp_in_nI (by omega) (by omega)
    refine wX11_digitsOf_4 ?_
    simp only [shM S, cn, e1, v1, Y p hp, nI_1, ne_eq]
    refine ⟨trivial, Bf (cnt_le (by omega) hp) ⟨by decide, trivial, trivial, fun v ev => ?_⟩⟩
    have : v = nI (digs π (p + 1)) := by
      rw [ev, show (10 : Int32) = nI 10 from rfl, nI_mul, nI_add, Nat.mul_comm]
      rfl
    rw [this]
    exact q
theorem g_leaf {w : Int32} {Φ : Int32 → ZH → Prop} {π : Nat → Nat} {B : OB} (Q : PQ h np nm nh) (h5 : ∀ p, p < np → π p ≤ 5) (hc : ∀ p, p < np → ¬ oN h p → π p = 0) (g : G2 h np w Φ π (leaf h np π B)) : G1 h np w Φ π B := by
  intro vb H e Y
  have h8 := Q.2.1
  have wb := wst_bd (π := π) Q
  have db := digs_bd h5
  have d8 : digs π np < 2 ^ 31 := by
    have : (10 : Nat) ^ np ≤ 10 ^ 8 := Nat.pow_le_pow_right (by omega) h8
    omega
  have M200 := fun {H' : ZH} (e' : zsame h H') => (shM (e'.Sh Q.1)).1
  have cmpL : (¬ leM B ≤ nI (wst h np π)) ↔ wst h np π < lim B := by
    cases B with
    | none =>
      refine ⟨fun _ => ?_, fun _ => ?_⟩
      · show wst h np π < 1000000000
        omega
      · show ¬ (1000000000 : Int32) ≤ nI (wst h np π)
        rw [tI_le, nI_toInt (by omega)]
        have : (1000000000 : Int32).toInt = 1000000000 := by decide
        omega
    | some b =>
      have := (vb b rfl).1
      show (¬ nI b.1 ≤ nI (wst h np π)) ↔ wst h np π < b.1
      rw [tI_le, nI_toInt (by omega), nI_toInt (by omega)]
      omega
  unfold leaf at g
  refine wX11_best_49 ⟨fun z => absurd z (by decide), fun _ => ⟨M200 e, s_X11_isKept Q e Y h5 (zb_if (fun kp => ?_) (fun kp => ?_))⟩⟩
  · refine ⟨M200 e, s_X11_worst Q e Y h5 hc (fun H1 kk kn kr ki kw => ?_)⟩
    have e1 : zsame h H1 := e.trans ⟨kk, kn, kr, fun a j z => ki a j (fun x => z (by unfold scr; omega))⟩
    have Y1 : MY H1 π np := fun p hp => by rw [ki _ _ (by omega)]; exact Y p hp
    refine ⟨fun z => ⟨M200 e1, ?_⟩, fun z => ⟨M200 e1, s_X11_digitsOf Q e1 Y1 ⟨M200 e1, ?_⟩⟩⟩
    · rw [if_neg (fun x => cmpL.mpr x.2 z)] at g
      exact g vb H1 e1 Y1
    · rw [if_pos ⟨kp, cmpL.mp z⟩] at g
      exact g (fun b hb => by cases hb; exact ⟨by show wst h np π < 2 ^ 31; omega, d8⟩) H1 e1 Y1
  · rw [if_neg (fun x => kp x.1)] at g
    exact ⟨M200 e, g vb H e Y⟩
set_option maxHeartbeats 1000000 in
theorem s_X11_next {Φ : Int32 → ZH → Prop} {H : ZH} {π : Nat → Nat} (Q : PQ h np nm nh) (e : zsame h H) (Y : MY H π np) (h5 : ∀ p, p < np → π p ≤ 5)
    (k : (∃ q, q < np ∧ π q < lst h q ∧ (∀ p, q < p → p < np → π p = lst h p) ∧ ∀ H', zsame h H' → MY H' (fun p => if p = q then π q + 1 else if q < p then 0 else π p) np → Φ 1 H') ∨ ((∀ p, p < np → π p = lst h p) ∧ ∀ H', zsame h H' → Φ 0 H')) : ZcI mX11_nextPlan [.ref 200] H Φ := by
  have h8 := Q.2.1
  have S := e.Sh Q.1
  have cn : zI H 200 9 = nI np := by rw [e.2.2.2 _ _ (by unfold scr; omega)]; exact Q.2.2.1.1
  have s5 := Q.2.2.2.2.2.2.1
  refine wX11_nextPlan ⟨(shM S).1, ?_⟩
  rw [cn]
  have main : ∀ j, j ≤ np → (∀ p, j ≤ p → p < np → π p = lst h p) → ∀ H1, zsame h H1 → (∀ p, p < np → zI H1 246 p = if j ≤ p then 0 else nI (π p)) → Zt mX11_nextPlan (zPI Φ) 0 0 7 [some (.ref 200), some (.int (nI j - 1))] [] H1 := by
    intro j
    induction j with
    | zero =>
      intro _ hl H1 e1 g
      rcases k with ⟨q, hq, hlt, _⟩ | ⟨_, k0⟩
      · have := hl q (by omega) hq
        omega
      · exact wX11_nextPlan_7 ⟨fun _ => k0 H1 e1, fun z => absurd n1_lt z⟩
    | succ j ih =>
      intro hj hl H1 e1 g
      have S1 := e1.Sh Q.1
      have ej := nI_clamp (n := j) (by omega)
      have vj : vp_in (nI j) 8 := vp_in_nI (by omega) (by omega)
      have gj : zI H1 246 j = nI (π j) := by rw [g j (by omega), if_neg (by omega)]
      have cs : zI H1 219 5 = nI (spN h) := by rw [e1.2.2.2 _ _ (by unfold scr; omega)]; exact s5.1
      have co : zI H1 208 j = zI h 208 j := e1.2.2.2 _ _ (by unfold scr; omega)
      have h5j := h5 j (by omega)
      have down1 : π j = lst h j → Zt mX11_nextPlan (zPI Φ) 0 0 7 [some (.ref 200), some (.int (nI j + (-1)))] [] (zsI H1 246 j 0) := fun ej2 => by
        rw [nI_dec]
        refine ih (by omega) (fun p h1 h2 => ?_) _ (e1.trans (zsame.sI (by unfold scr; omega))) (fun p hp => ?_)
        · by_cases ep : p = j
          · subst ep; exact ej2
          · exact hl p (by omega) h2
        · by_cases ep : p = j
          · subst ep; rw [zI_sIs, if_pos (Nat.le_refl _)]
          · rw [zI_sIj ep, g p hp]
            by_cases c : j + 1 ≤ p
            · rw [if_pos c, if_pos (by omega)]
            · rw [if_neg c, if_neg (by omega)]
      rw [nI_pred]
      refine wX11_nextPlan_7 ⟨fun z => absurd z (nI_pos (by omega)), fun _ => ?_⟩
      simp only [shM S1, ej, vj, gj, cs, co, nI_1, ne_eq]
      have pl : π j ≤ lst h j := by
        rcases k with ⟨q, hq, hlt, hr, _⟩ | ⟨hr, _⟩
        · by_cases c : q < j
          · rw [hr j c (by omega)]; exact Nat.le_refl _
          · by_cases c2 : q = j
            · subst c2; omega
            · have := hl q (by omega) hq
              omega
        · rw [hr j (by omega)]; exact Nat.le_refl _
      refine ⟨trivial, by decide, trivial, trivial, fun z => ⟨by decide, trivial, trivial, down1 ?_⟩, fun z => ⟨by decide, trivial, trivial, by decide, trivial, by decide, fun w => down1 ?_, fun w => ?_⟩⟩
      · unfold lst at pl ⊢
        rw [if_neg (fun x => x z)] at pl ⊢
        omega
      · unfold lst at pl ⊢
        rw [if_pos z] at pl ⊢
        rw [tI_le, nI_toInt (by omega), nI_toInt (by omega)] at w
        omega
      · have lt : π j < spN h := Classical.not_not.mp (fun x => w (nI_le (by omega) (by omega)))
        have ll : lst h j = spN h := by unfold lst; rw [if_pos z]
        rcases k with ⟨q, hq, hlt, hr, kk⟩ | ⟨hr, _⟩
        · have eq : q = j := by
            by_cases c : q < j
            · have := hr j c (by omega); omega
            · by_cases c2 : q = j
              · exact c2
              · have := hl q (by omega) hq
                omega
          subst eq
          refine kk _ (e1.trans (zsame.sI (by unfold scr; omega))) (fun p hp => ?_)
          show _ = nI (if p = q then π q + 1 else if q < p then 0 else π p)
          by_cases ep : p = q
          · subst ep; rw [zI_sIs, if_pos rfl]
          · rw [zI_sIj ep, g p hp, if_neg ep]
            by_cases c : q + 1 ≤ p
            · rw [if_pos c, if_pos (by omega)]; rfl
            · rw [if_neg c, if_neg (by omega)]
        · have := hr j (by omega); omega
  exact main np (Nat.le_refl _) (fun p h1 h2 => absurd h2 (by omega)) H e (fun p hp => by rw [if_neg (by omega)]; exact Y p hp)
theorem lst_o {p : Nat} (o : ¬ oN h p) : lst h p = 0 := by unfold lst; rw [if_neg o]
theorem g_scan {w : Int32} {Φ : Int32 → ZH → Prop} (Q : PQ h np nm nh) : ∀ (n k : Nat), k + n = np → ∀ (π : Nat → Nat) (B : OB), (∀ p, k ≤ p → π p = 0) → (∀ p, p < k → π p ≤ lst h p) → G2 h np w Φ (mxL h k π) (scn h np n k π B) → G1 h np w Φ π B
  | 0, k, e, π, B, hz, hl, g => by
    have hall : ∀ p, p < np → π p ≤ lst h p := fun p hp => hl p (by omega)
    refine g_leaf Q (fun p hp => Nat.le_trans (hall p hp) (lst5 Q)) (fun p hp o => by have := hall p hp; rw [lst_o o] at this; omega) ?_
    intro vb H e1 Y
    refine g vb H e1 (fun p hp => ?_)
    unfold mxL
    rw [if_pos (by omega)]
    exact Y p hp
  | n + 1, k, e, π, B, hz, hl, g => by
    have hk : k < np := by omega
    have p0 : ps π k 0 = π := by
      funext p
      unfold ps
      by_cases c : p = k
      · rw [if_pos c, c, hz k (Nat.le_refl _)]
      · rw [if_neg c]
    have zk : ∀ y p, k + 1 ≤ p → ps π k y p = 0 := fun y p hp => by rw [ps_n (by omega)]; exact hz p (by omega)
    have lk : ∀ y, y ≤ lst h k → ∀ p, p < k + 1 → ps π k y p ≤ lst h p := fun y hy p hp => by
      by_cases c : p = k
      · subst c; rw [ps_s]; exact hy
      · rw [ps_n c]; exact hl p (by omega)
    have := down (n := lst h k) (I := fun y => G1 h np w Φ (ps π k y) (itr (fun y b => scn h np n (k + 1) (ps π k y) b) y B)) ?_ (fun y hy q => ?_)
    · rw [p0] at this
      exact this
    · refine g_scan Q n (k + 1) (by omega) _ _ (zk _) (lk _ (Nat.le_refl _)) ?_
      have em : mxL h (k + 1) (ps π k (lst h k)) = mxL h k π := by
        funext p
        unfold mxL
        by_cases c : p < k
        · rw [if_pos c, if_pos (by omega), ps_n (by omega)]
        · rw [if_neg c]
          by_cases c2 : p = k
          · subst c2; rw [if_pos (by omega), ps_s]
          · rw [if_neg (by omega)]
      rw [em]
      exact g
    · refine g_scan Q n (k + 1) (by omega) _ _ (zk _) (lk _ (by omega)) ?_
      intro vb H e1 Y
      refine s_X11_next Q e1 Y (fun p hp => ?_) (Or.inl ⟨k, hk, ?_, fun p h1 h2 => ?_, fun H' e2 Y2 => q vb H' e2 (fun p hp => ?_)⟩)
      · unfold mxL
        by_cases c : p < k + 1
        · rw [if_pos c]; exact Nat.le_trans (lk y (by omega) p c) (lst5 Q)
        · rw [if_neg c]; exact lst5 Q
      · unfold mxL; rw [if_pos (by omega), ps_s]; exact hy
      · unfold mxL; rw [if_neg (by omega)]
      · rw [Y2 p hp]
        show nI (if p = k then _ else _) = _
        by_cases c : p = k
        · subst c; rw [if_pos rfl, ps_s]; unfold mxL; rw [if_pos (by omega), ps_s]
        · rw [if_neg c, ps_n c]
          by_cases c2 : k < p
          · rw [if_pos c2, hz p (by omega)]
          · rw [if_neg c2]; unfold mxL; rw [if_pos (by omega), ps_n c]
theorem kept_some (Q : PQ h np nm nh) {π : Nat → Nat} (z : owN h ≤ wonP h np π 0) : scn h np np 0 π none ≠ none := by
  refine scn_ex (fun π' => by have := wst_bd (π := π') Q; omega) (by omega) ⟨lst h, ⟨fun p hp => absurd hp (by omega), fun p _ _ => Nat.le_refl _⟩, ?_⟩
  have nc : ∀ k, ¬ (oN h k ∧ lst h k < spN h) := fun k x => by
    have := x.2
    unfold lst at this
    rw [if_pos x.1] at this
    omega
  refine (kept_iff Q).mpr ⟨fun k _ => Or.inl (nc k), ?_⟩
  have : ∀ k, k ≤ np → wonP h np (lst h) k = wonP h np (lst h) 0 := by
    intro k
    induction k with
    | zero => intro _; rfl
    | succ k ih =>
      intro hk
      have ws := wonP_step (h := h) (π := lst h) (show k < np by omega)
      rw [if_neg (nc k), Nat.add_zero] at ws
      rw [← ws]
      exact ih (by omega)
  rw [this np (Nat.le_refl _), wonP_congr (π' := π) (fun p hp => absurd hp (by omega))]
  exact z
theorem kept_no (Q : PQ h np nm nh) {π : Nat → Nat} (z : ¬ owN h ≤ wonP h np π 0) : scn h np np 0 π none = none := by
  refine scn_none (by omega) (fun π' _ x => z ?_)
  have h1 := ((kept_iff Q).mp x.1).2
  have h2 := wonP_anti (h := h) (np := np) (π := π') (k := 0) (j := np) (by omega)
  have h3 : wonP h np π' 0 = wonP h np π 0 := wonP_congr (fun p hp => absurd hp (by omega))
  omega
theorem scn_vB (Q : PQ h np nm nh) : ∀ (n k : Nat), k + n = np → ∀ (π : Nat → Nat) (B : OB), (∀ p, p < k → π p ≤ 5) → vB B → vB (scn h np n k π B)
  | 0, k, e, π, B, hl, v => by
    show vB (leaf h np π B)
    unfold leaf
    by_cases c : kept h np π ∧ wst h np π < lim B
    · rw [if_pos c]
      intro b hb
      cases hb
      have wb := wst_bd (π := π) Q
      have db := digs_bd (π := π) (n := np) (fun p hp => hl p (by omega))
      have : (10 : Nat) ^ np ≤ 10 ^ 8 := Nat.pow_le_pow_right (by omega) Q.2.1
      exact ⟨by show wst h np π < 2 ^ 31; omega, by show digs π np < 2 ^ 31; omega⟩
    · rw [if_neg c]; exact v
  | n + 1, k, e, π, B, hl, v => by
    show vB (itr (fun y b => scn h np n (k + 1) (ps π k y) b) (lst h k + 1) B)
    have l5 := lst5 (k := k) Q
    have : ∀ c, c ≤ lst h k + 1 → vB (itr (fun y b => scn h np n (k + 1) (ps π k y) b) c B) := by
      intro c
      induction c with
      | zero => intro _; exact v
      | succ c ih =>
        intro hc
        refine scn_vB Q n (k + 1) (by omega) _ _ (fun p hp => ?_) (ih (by omega))
        by_cases ep : p = k
        · subst ep; rw [ps_s]; omega
        · rw [ps_n ep]; exact hl p (by omega)
    exact this _ (Nat.le_refl _)
/-- the model's answer -/
theorem s_X11_best {Φ : Int32 → ZH → Prop} {H : ZH} {w : Int32} (Q : PQ h np nm nh) (e : zsame h H) (c1 : 0 ≤ w ∧ w ≤ 1) (k : ∀ H', zsame h H' → Φ ((scn h np np 0 (fun _ => 0) none).elim (-5) (fun b => if w = 0 then nI b.2 else nI b.1)) H') : ZcI mX11_best [.ref 200, .int w] H Φ := by
  have h8 := Q.2.1
  refine wX11_best (X11_in_t c1 rfl rfl (N1 ?_))
  have main := down (n := np) (I := fun p => ∀ H1, zsame h H1 → (∀ p', p' < p → zI H1 246 p' = 0) → Zt mX11_best (zPI Φ) 0 0 23 [some (.ref 200), some (.int w), some (.int (-5)), some (.int 1000000000), some (.int (nI p)), none] [] H1) ?_ ?_
  · exact main H e (fun p' hp' => absurd hp' (by omega))
  · intro H1 e1 g
    have cn : zI H1 200 9 = nI np := by rw [e1.2.2.2 _ _ (by unfold scr; omega)]; exact Q.2.2.1.1
    refine wX11_best_23 ⟨(shM (e1.Sh Q.1)).1, fun _ => ?_, fun z => absurd (by rw [cn]; exact Int32.le_refl _) z⟩
    refine g_scan (w := w) (Φ := Φ) Q np 0 (by omega) (fun _ => 0) none (fun _ _ => rfl) (fun p hp => absurd hp (by omega)) ?_ (fun b hb => by cases hb) H1 e1 (fun p hp => g p hp)
    intro vb H2 e2 Y2
    refine s_X11_next Q e2 Y2 (fun p hp => ?_) (Or.inr ⟨fun p hp => ?_, fun H3 e3 => ?_⟩)
    · unfold mxL; rw [if_neg (by omega)]; exact lst5 Q
    · unfold mxL; rw [if_neg (by omega)]
    · have k3 := k H3 e3
      revert vb k3
      cases scn h np np 0 (fun _ => 0) none with
      | none =>
        intro vb k3
        exact wX11_best_49 (Bt rfl ⟨fun z => absurd z (by decide), fun _ => k3⟩)
      | some b =>
        intro vb k3
        have k4 : Φ (if w = 0 then nI b.2 else nI b.1) H3 := k3
        refine wX11_best_49 (Bt rfl ⟨fun _ => ⟨fun z => ?_, fun z => ?_⟩, fun z => absurd (nI_pos' (vb b rfl).2) z⟩)
        · rw [if_neg z] at k4; exact k4
        · rw [if_pos z] at k4; exact k4
  · intro p hp ih H1 e1 g
    have S1 := e1.Sh Q.1
    have cn : zI H1 200 9 = nI np := by rw [e1.2.2.2 _ _ (by unfold scr; omega)]; exact Q.2.2.1.1
    have ep := nI_clamp (n := p) (by omega)
    have vp : vp_in (nI p) 8 := vp_in_nI (by omega) (by omega)
    refine wX11_best_23 ?_
    simp only [shM S1, cn, ep, vp, nI_1, ne_eq]
    refine ⟨trivial, Bf (cnt_le (by omega) hp) ⟨by decide, trivial, trivial, ih _ (e1.trans (zsame.sI (by unfold scr; omega))) (fun p' hp' => ?_)⟩⟩
    by_cases ec : p' = p
    · subst ec; rw [zI_sIs]
    · rw [zI_sIj ec]; exact g p' (by omega)
set_option maxHeartbeats 4000000 in
theorem op_best {l1 : Int32} (J : Jx h i L xs) : ZcI mX10_best [.ref 10, .int l1] h (fun v h1 => ZcI mX11_best [.ref 200, .int l1] h1 (fun v' h2 => v = v' ∧ Jx h2 (i + 1) L xs)) := by
  have J0 := J
  obtain ⟨np, nm, nh, nw, ns, mo, ⟨S, C, T, P, M, St, G, R, W, V, X⟩, q1, q2⟩ := J
  have kX : zK h 10 = 11 := (shX S).1
  have kM : zK h 200 = 12 := (shM S).1
  have cp := C.1
  have cm := C.2.1
  have ch := C.2.2.1
  have cw := C.2.2.2.1
  have cs := C.2.2.2.2.1
  have b1 : np < 2 ^ 31 := by omega
  have b2 : nm < 2 ^ 31 := by omega
  have b3 : nh < 2 ^ 31 := by omega
  have Q : PQ h np nm nh := PQ.of ⟨S, C, T, P, M, St, G, R, W, V, X⟩
  by_cases c1 : 0 ≤ l1 ∧ l1 ≤ 1
  rotate_left
  · exact wX10_best (X10_within_f c1 (N0 (wX11_best (X11_in_f c1 rfl rfl (N0 ⟨rfl, J0.up⟩)))))
  refine wX10_best (X10_within_t c1 (N1 ?_))
  simp only [shX S, shPl S, cp.2.1, ne_eq]
  refine ⟨trivial, by decide, by decide, by decide, trivial, s_X6_prepare Q (fun H0 P0 => ?_)⟩
  have S0 := P0.1.Sh Q.1
  simp only [shX S0, shPl S0, ne_eq]
  refine ⟨trivial, by decide, trivial, s_X6_find (π := fun _ => 0) Q P0 (fun z H1 c => N1 ?_) (fun z H1 P1 => N0 ?_)⟩
  · have S1 := c.1.1.Sh Q.1
    have e1 := c.1.1
    obtain ⟨b, eb⟩ : ∃ b, scn h np np 0 (fun _ => 0) none = some b := by
      cases hs : scn h np np 0 (fun _ => 0) none with
      | none => exact absurd hs (kept_some Q z)
      | some b => exact ⟨b, rfl⟩
    have g1 := c.2.2.2.2.2.1.1
    have g2 := c.2.2.2.2.2.2 b eb
    rw [eb] at g1
    have g1' : zI H1 80 13 = nI b.1 := g1
    simp only [shX S1, shPl S1, g1', g2, ne_eq]
    refine ⟨fun y => ⟨trivial, by decide, trivial, s_X11_best Q e1 c1 (fun H2 e2 => ⟨?_, J0.up.same e2⟩)⟩, fun y => ⟨trivial, by decide, trivial, s_X11_best Q e1 c1 (fun H2 e2 => ⟨?_, J0.up.same e2⟩)⟩⟩
    · rw [eb]
      show nI b.1 = if l1 = 0 then nI b.2 else nI b.1
      rw [if_neg y]
    · rw [eb]
      show nI b.2 = if l1 = 0 then nI b.2 else nI b.1
      rw [if_pos y]
  · refine s_X11_best Q P1.1 c1 (fun H2 e2 => ⟨?_, J0.up.same e2⟩)
    rw [kept_no Q z]
    rfl
end BEST
