theorem zb_fi {p : Prop} [Decidable p] {A B : Prop} (t : p → A) (f : ¬ p → B) : (¬ zb p = 0 → A) ∧ (zb p = 0 → B) := ⟨(zb_if t f).2, (zb_if t f).1⟩
section HUNG3
variable {h0 : ZH} {np nm nh : Nat}
def Ctt (h0 : ZH) (r c : Nat) : Int := (zL h0 (50 + r) c).toInt
/-- what the costs keep to -/
def CF (h0 : ZH) (N n : Nat) : Prop := Sh h0 np nm nh ∧ zI h0 40 7 = nI N ∧ 9 ≤ N ∧ N ≤ 21 ∧ n ≤ 9 ∧ (∀ r c, r < n → c < N → 0 ≤ Ctt h0 r c ∧ Ctt h0 r c ≤ 100000000000000000) ∧ ∀ r c, r < n → N - 9 ≤ c → c < N → Ctt h0 r c ≤ 300000000000000
/-- the heap while a row seeks its column -/
def PH (h0 H : ZH) (N s : Nat) (ro cf T : Nat → Nat) : Prop := zK H = zK h0 ∧ zN H = zN h0 ∧ zR H = zR h0 ∧ (∀ a j, ¬ (45 ≤ a ∧ a ≤ 47) → zI H a j = zI h0 a j) ∧ (∀ a j, ¬ (42 ≤ a ∧ a ≤ 44) → zL H a j = zL h0 a j) ∧
  (∀ c, c ≤ N → zI H 45 c = nI (ro c) ∧ zI H 46 c = nI (cf c) ∧ zI H 47 c = zb (T c < s))
theorem shCost {H : ZH} (S1 : Sh H np nm nh) {q : Nat} (hq : q < 9) : zR H 41 q = 50 + q ∧ zK H (50 + q) = 22 ∧ zN H (50 + q) = 21 := by
  have row := S1.2.2.1 41 q
  have e : cR 41 q = 50 + q := by
    show (if q < 9 then 50 + q else 0) = _
    rw [if_pos hq]
  have a1 : ∀ q, q < 9 → cK (50 + q) = 22 := by decide
  have a2 : ∀ q, q < 9 → cN (50 + q) = 21 := by decide
  exact ⟨by rw [row (by rw [e]; omega), e], by rw [S1.1 _ (by omega)]; exact a1 q hq, by rw [S1.2.1 _ (by omega) (by omega)]; exact a2 q hq⟩
set_option maxHeartbeats 4000000 in
theorem s_X2_reach {ψ : Int32 → ZH → Prop} {H : ZH} {N n s x f : Nat} {ro cf T : Nat → Nat} (F : CF (np := np) (nm := nm) (nh := nh) h0 N n) (P : PH h0 H N s ro cf T) (E : SE (Ctt h0) N n s x (uH H) (vH H) (sH H) ro cf T) (hs : s < 1000) (hx : ro x ≠ 0) (hf : N - 9 < f ∧ f ≤ N ∧ ro f = 0) (z0 : 0 < s → T 0 < s) (b0 : -10000000000000000 ≤ vH H 0 ∧ vH H 0 ≤ 10000000000000000)
    (k : ∀ H' y cf', PH h0 H' N (s + 1) ro cf' (ps T x s) → SE (Ctt h0) N n (s + 1) y (uH H') (vH H') (sH H') ro cf' (ps T x s) → vH H' 0 + uH H' n = vH H 0 + uH H n → ψ (nI y) H') : ZcI mX2_reachNext [.ref 40, .int (nI x)] H ψ := by
  obtain ⟨S0, cN, N9, N21, n9, cb, cw⟩ := F
  obtain ⟨p1, p2, p3, p4, p5, p6⟩ := P
  have S : Sh H np nm nh := S0.same p1 p2 p3
  have hxN : x ≤ N := E.2.2.2.2.2.1.1
  have rx := E.row hxN hx
  have rall : ∀ c, c ≤ N → ro c ≤ 9 := fun c hc => by
    by_cases e : ro c = 0
    · omega
    · have := E.row hc e; omega
  obtain ⟨ub, vb⟩ := E.bd (W := 300000000000000) (f := f) (by omega) hf.2.1 hf.2.2 (fun r hr => cw r (f - 1) hr (by omega) (by omega)) (fun r c hr hc => (cb r c hr hc).1)
  have ul := E.2.2.1
  have vl : ∀ c, 1 ≤ c → c ≤ N → vH H c ≤ 0 := fun c h1 h2 => (E.2.1 c h1 h2).1
  have e1 := nI_clamp (n := x) (by omega)
  have v1 : vp_in (nI x) 22 := vp_in_nI (by omega) (by omega)
  -- who is reached from now on
  have Rd : ∀ c, c ≤ N → (ps T x s c < s + 1 ↔ c = x ∨ T c < s) := fun c hc => by
    by_cases e : c = x
    · subst e; rw [ps_s]; exact ⟨fun _ => Or.inl rfl, fun _ => by omega⟩
    · rw [ps_n e]
      have := (E.2.2.2.2.1 c hc).1
      constructor
      · intro q; right; omega
      · intro q
        rcases q with q | q
        · exact absurd q e
        · omega
  refine wX2_reachNext ?_
  simp only [shPa S, e1, v1, ne_eq]
  refine ⟨trivial, by decide, trivial, trivial, by decide, fun Ha ea => ?_⟩
  have A1 : zK Ha = zK h0 ∧ zN Ha = zN h0 ∧ zR Ha = zR h0 := by rw [ea]; exact ⟨p1, p2, p3⟩
  have A2 : ∀ a j, a ≠ 47 → zI Ha a j = zI H a j := fun a j q => by rw [ea, zI_sIa q]
  have A3 : zL Ha = zL H := by rw [ea]; rfl
  have A4 : ∀ c, c ≤ N → zI Ha 47 c = zb (ps T x s c < s + 1) := fun c hc => by
    rw [ea]
    by_cases e : c = x
    · subst e; rw [zI_sIs, zb_t ((Rd c hc).mpr (Or.inl rfl))]
    · rw [zI_sIj e, (p6 c hc).2.2]
      exact zb_congr ⟨fun q => (Rd c hc).mpr (Or.inr q), fun q => ((Rd c hc).mp q).resolve_left e⟩
  clear ea
  have Sa : Sh Ha np nm nh := S0.same A1.1 A1.2.1 A1.2.2
  have sa := shPa Sa
  rw [sa.2.2.2.2.2.2.2.2.2.2.2.2.2.2.2.2.2.2.2.2.2.2.2.2.2.1, sa.2.2.2.2.2.2.2.2.2.2.2.2.2.2.2.2.2.2.2.2.2.2.2.2.2.2.1, A2 45 x (by decide), (p6 x hxN).1]
  refine ⟨rfl, v1, fun v47 ev => ?_⟩
  subst ev
  clear sa
  -- the spare of a column
  have spd : ∀ c, 1 ≤ c → c ≤ N → ((zL H (50 + (ro x - 1)) (c - 1) - zL H 42 (ro x)) - zL H 43 c).toInt = Ctt h0 (ro x - 1) (c - 1) - uH H (ro x) - vH H c ∧ 0 ≤ Ctt h0 (ro x - 1) (c - 1) - uH H (ro x) - vH H c ∧ Ctt h0 (ro x - 1) (c - 1) - uH H (ro x) - vH H c ≤ 200000000000000000 := fun c h1 h2 => by
    have q1 := cb (ro x - 1) (c - 1) (by omega) (by omega)
    have q2 := ul (ro x) rx.1 rx.2
    have q3 := ub (ro x) rx.1 rx.2
    have q4 := vb c h1 h2
    have q5 := vl c h1 h2
    have q6 := E.1 (ro x) c rx.1 rx.2 h1 h2
    have eC : zL H (50 + (ro x - 1)) (c - 1) = zL h0 (50 + (ro x - 1)) (c - 1) := p5 _ _ (by omega)
    unfold Ctt uH vH at *
    rw [eC]
    have w1 : (zL h0 (50 + (ro x - 1)) (c - 1) - zL H 42 (ro x)).toInt = (zL h0 (50 + (ro x - 1)) (c - 1)).toInt - (zL H 42 (ro x)).toInt := tL_sub (by omega) (by omega)
    refine ⟨?_, by omega, by omega⟩
    rw [tL_sub (by rw [w1]; omega) (by rw [w1]; omega), w1]
  have main := down (n := N) (I := fun j => ∀ (H1 : ZH) (y : Nat) (cf' : Nat → Nat), zK H1 = zK h0 → zN H1 = zN h0 → zR H1 = zR h0 → (∀ a i, a ≠ 46 → zI H1 a i = zI Ha a i) → (∀ a i, a ≠ 44 → zL H1 a i = zL H a i) → (∀ c, c ≤ N → zI H1 46 c = nI (cf' c)) →
      (∀ c, 1 ≤ c → c ≤ j → s + 1 ≤ ps T x s c → Ctt h0 (ro x - 1) (c - 1) - uH H (ro x) - vH H c < sH H c → sH H1 c = Ctt h0 (ro x - 1) (c - 1) - uH H (ro x) - vH H c ∧ cf' c = x) →
      (∀ c, 1 ≤ c → c ≤ j → s + 1 ≤ ps T x s c → ¬ Ctt h0 (ro x - 1) (c - 1) - uH H (ro x) - vH H c < sH H c → sH H1 c = sH H c ∧ cf' c = cf c) →
      (∀ c, c ≤ N → (ps T x s c < s + 1 ∨ j < c) → sH H1 c = sH H c ∧ cf' c = cf c) →
      ((y = 0 ∧ ∀ c, 1 ≤ c → c ≤ j → ps T x s c < s + 1) ∨ (1 ≤ y ∧ y ≤ j ∧ s + 1 ≤ ps T x s y ∧ ∀ c, 1 ≤ c → c ≤ j → s + 1 ≤ ps T x s c → sH H1 y ≤ sH H1 c)) →
      Zt mX2_reachNext (zPI ψ) 0 0 19 [some (.ref 40), some (.int (nI x)), some (.int (nI (ro x))), some (.int (nI y)), some (.int (nI (j + 1))), none, none] [] H1) ?_ ?_
  · exact main Ha 0 cf A1.1 A1.2.1 A1.2.2 (fun _ _ _ => rfl) (fun _ _ _ => by rw [A3]) (fun c hc => by rw [A2 _ _ (by decide)]; exact (p6 c hc).2.1) (fun c h1 h2 => absurd h2 (by omega)) (fun c h1 h2 => absurd h2 (by omega)) (fun c hc _ => ⟨by unfold sH; rw [A3], rfl⟩) (Or.inl ⟨rfl, fun c h1 h2 => absurd h2 (by omega)⟩)
  · intro H1 y cf' kk kn kr ki kl kc g1 g2 g3 g4
    have S1 : Sh H1 np nm nh := S0.same kk kn kr
    have cN1 : zI H1 40 7 = nI N := by rw [ki _ _ (by decide), A2 _ _ (by decide), p4 _ _ (by omega), cN]
    have fu : s + 1 ≤ ps T x s f := by
      have : ¬ ps T x s f < s + 1 := fun q => by
        rcases (Rd f hf.2.1).mp q with e | e
        · rw [← e] at hx; exact hx hf.2.2
        · exact ((E.2.2.2.2.1 f hf.2.1).2 e).1 hf.2.2
      omega
    rcases g4 with ⟨_, g4⟩ | ⟨y1, y2, y3, y4⟩
    · have := g4 f (by omega) hf.2.1; omega
    have ey := nI_clamp (n := y) (by omega)
    have vy : vp_in (nI y) 22 := vp_in_nI (by omega) (by omega)
    -- the shift is small
    have dn : 0 ≤ sH H1 y ∧ sH H1 y ≤ 300000000000000 := by
      have w1 := y4 f (by omega) hf.2.1 fu
      have w2 : sH H1 f ≤ Ctt h0 (ro x - 1) (f - 1) - uH H (ro x) - vH H f := by
        by_cases e : Ctt h0 (ro x - 1) (f - 1) - uH H (ro x) - vH H f < sH H f
        · rw [(g1 f (by omega) hf.2.1 fu e).1]; exact Int.le_refl _
        · rw [(g2 f (by omega) hf.2.1 fu e).1]; omega
      have w3 := cw (ro x - 1) (f - 1) (by omega) (by omega) (by omega)
      have w4 := ul (ro x) rx.1 rx.2
      have w5 := (E.2.1 f (by omega) hf.2.1).2.2.1 hf.2.2
      refine ⟨?_, by omega⟩
      by_cases e : Ctt h0 (ro x - 1) (y - 1) - uH H (ro x) - vH H y < sH H y
      · rw [(g1 y y1 y2 y3 e).1]; exact (spd y y1 y2).2.1
      · rw [(g2 y y1 y2 y3 e).1]
        refine (E.2.2.2.2.2.2 y y1 y2 ?_).1
        have : ¬ (y = x ∨ T y < s) := fun q => by have := (Rd y y2).mpr q; omega
        have : ¬ T y < s := fun q => this (Or.inr q)
        omega
    refine wX2_reachNext_19 ⟨(shPa S1).1, fun _ => ?_, fun z => absurd ?_ z⟩
    rotate_left
    · rw [cN1]; exact nI_lt (by omega) (by omega)
    simp only [shPa S1, ey, vy, ne_eq]
    have uE : ∀ r, uH H1 r = uH H r := fun r => by unfold uH; rw [kl _ _ (by decide)]
    have vE : ∀ r, vH H1 r = vH H r := fun r => by unfold vH; rw [kl _ _ (by decide)]
    have fl : ∀ c, c ≤ N → zI H1 47 c = zb (ps T x s c < s + 1) := fun c hc => by rw [ki _ _ (by decide), A4 c hc]
    have fl0 : ∀ c, c ≤ N → (zI H1 47 c = 0 ↔ ¬ ps T x s c < s + 1) := fun c hc => by rw [fl c hc, zb_eq0]
    have rn0 : ∀ c, c ≤ N → ps T x s c < s + 1 → ro c ≠ 0 := fun c hc q => by
      rcases (Rd c hc).mp q with e | e
      · rw [e]; exact hx
      · exact ((E.2.2.2.2.1 c hc).2 e).1
    refine ⟨by decide, trivial, trivial, s_X2_shift (N := N) (ro := ro) S1 N21 cN1 (fun c hc => ⟨by rw [ki _ _ (by decide), A2 _ _ (by decide), (p6 c hc).1], rall c hc⟩) (fun c c' hc hc' q _ e => ?_) (fun c hc q => ?_) (fun c hc1 hc q => ?_) (fun H2 kk2 kn2 kr2 ki2 kl2 q1 q2 q3 => ?_)⟩
    · refine E.2.2.2.1.2.2 c c' hc hc' e (rn0 c hc ?_)
      exact Classical.not_not.mp (fun x => q ((fl0 c hc).mpr x))
    · have w := E.row hc (rn0 c hc (Classical.not_not.mp (fun x => q ((fl0 c hc).mpr x))))
      have w1 := ub _ w.1 w.2
      have w2 := ul _ w.1 w.2
      rw [uE, vE]
      show _ ≤ uH H (ro c) + sH H1 y ∧ uH H (ro c) + sH H1 y < _ ∧ _ ≤ vH H c - sH H1 y ∧ vH H c - sH H1 y < _
      by_cases e : c = 0
      · subst e; omega
      · have w3 := vb c (by omega) hc
        have w4 := vl c (by omega) hc
        omega
    · show _ ≤ sH H1 c - sH H1 y ∧ sH H1 c - sH H1 y < _
      have u1 : s + 1 ≤ ps T x s c := by have := (fl0 c hc).mp q; omega
      have u2 : s ≤ T c := by
        have : ¬ T c < s := fun z => by have := (Rd c hc).mpr (Or.inr z); omega
        omega
      have u3 := E.2.2.2.2.2.2 c hc1 hc u2
      have u4 : 0 ≤ sH H1 c ∧ sH H1 c ≤ 4000000000000000000 := by
        by_cases e : Ctt h0 (ro x - 1) (c - 1) - uH H (ro x) - vH H c < sH H c
        · rw [(g1 c hc1 hc u1 e).1]
          have := spd c hc1 hc
          omega
        · rw [(g2 c hc1 hc u1 e).1]; exact ⟨u3.1, u3.2.1⟩
      omega
    · refine k H2 y cf' ⟨kk2.trans kk, kn2.trans kn, kr2.trans kr, fun a j q => ?_, fun a j q => ?_, fun c hc => ⟨?_, ?_, ?_⟩⟩ ?_ ?_
      · rw [ki2, ki _ _ (by omega), A2 _ _ (by omega)]; exact p4 a j q
      · rw [kl2 a j q, kl a j (by omega)]; exact p5 a j q
      · rw [ki2, ki _ _ (by decide), A2 _ _ (by decide)]; exact (p6 c hc).1
      · rw [ki2]; exact kc c hc
      · rw [ki2]; exact fl c hc
      · refine E.step (sl' := sH H1) (δ := sH H1 y) hs hx (fun c h1 h2 => by have := spd c h1 h2; omega) ⟨y1, y2, y3⟩ g1 g2 (fun c hc q => (g3 c hc (Or.inl q)).2) y4 rfl (fun c hc q => ?_) (fun r q => ?_) (fun c hc q => ?_) (fun c hc q => ?_) (fun c h1 hc q => ?_)
        · have := (q1 c hc (fun z => (fl0 c hc).mp z q)).1
          rw [uE] at this; exact this
        · have := q2 r (fun c hc z => q c hc (Classical.not_not.mp (fun x => z ((fl0 c hc).mpr x))))
          rw [uE] at this; exact this
        · have := (q1 c hc (fun z => (fl0 c hc).mp z q)).2
          rw [vE] at this; exact this
        · have := (q3 c hc ((fl0 c hc).mpr (by omega))).1
          rw [vE] at this; exact this
        · exact (q3 c hc ((fl0 c hc).mpr (by omega))).2 h1
      · have r0 : ps T x s 0 < s + 1 := by
          refine (Rd 0 (by omega)).mpr ?_
          by_cases e : s = 0
          · left; exact (E.2.2.2.2.2.1.2.2.1 e).symm
          · right; exact z0 (by omega)
        have := q1 0 (by omega) (fun z => (fl0 0 (by omega)).mp z r0)
        rw [E.2.2.2.1.2.1, uE, vE] at this
        rw [this.1, this.2]
        omega
  · intro j hj ih H1 y cf' kk kn kr ki kl kc g1 g2 g3 g4
    have S1 : Sh H1 np nm nh := S0.same kk kn kr
    have cN1 : zI H1 40 7 = nI N := by rw [ki _ _ (by decide), A2 _ _ (by decide), p4 _ _ (by omega), cN]
    have ej := nI_clamp (n := j + 1) (by omega)
    have vj : vp_in (nI (j + 1)) 22 := vp_in_nI (by omega) (by omega)
    have hy21 : y ≤ N := by
      rcases g4 with ⟨q, _⟩ | ⟨_, q, _⟩
      · omega
      · omega
    have ey := nI_clamp (n := y) (by omega)
    have vy : vp_in (nI y) 22 := vp_in_nI (by omega) (by omega)
    have pr : nI (ro x) - 1 = nI (ro x - 1) := by
      obtain ⟨d, hd⟩ : ∃ d, ro x = d + 1 := ⟨ro x - 1, by omega⟩
      rw [hd, nI_pred]; rfl
    have er := nI_clamp (n := ro x - 1) (by omega)
    have vr : vp_in (nI (ro x - 1)) 9 := vp_in_nI (by omega) (by omega)
    have er2 := nI_clamp (n := ro x) (by omega)
    have vr2 : vp_in (nI (ro x)) 10 := vp_in_nI (by omega) (by omega)
    have ej2 := nI_clamp (n := j) (by omega)
    have vj2 : vp_in (nI j) 21 := vp_in_nI (by omega) (by omega)
    obtain ⟨rowR, rowK, rowN⟩ := shCost S1 (q := ro x - 1) (by omega)
    have nl : ¬ nI N < nI (j + 1) := by rw [nI_lt' (by omega) (by omega)]; omega
    have flj : zI H1 47 (j + 1) = zb (ps T x s (j + 1) < s + 1) := by rw [ki _ _ (by decide), A4 _ (by omega)]
    have eC : zL H1 (50 + (ro x - 1)) j = zL H (50 + (ro x - 1)) (j + 1 - 1) := kl _ _ (by omega)
    have eU : zL H1 42 (ro x) = zL H 42 (ro x) := kl _ _ (by omega)
    have eV : zL H1 43 (j + 1) = zL H 43 (j + 1) := kl _ _ (by omega)
    have sj := (g3 (j + 1) (by omega) (Or.inr (by omega)))
    obtain ⟨sp1, sp2, sp3⟩ := spd (j + 1) (by omega) (by omega)
    refine wX2_reachNext_19 ⟨(shPa S1).1, fun z => absurd z (by rw [cN1]; exact nl), fun _ => ?_⟩
    simp only [shPa S1, nI_pred, pr, ej, vj, er, vr, er2, vr2, ej2, vj2, ey, vy, rowR, rowK, rowN, flj, eC, eU, eV, lgc_ge, tL_lt, nI_1, ne_eq]
    refine ⟨by decide, trivial, trivial, ?_⟩
    refine zb_fi (fun q => ?_) (fun q => ?_)
    · refine ih H1 y cf' kk kn kr ki kl kc (fun c h1 h2 h3 => ?_) (fun c h1 h2 h3 => ?_) (fun c h1 h2 => g3 c h1 (by omega)) ?_
      · exact g1 c h1 (by by_cases e : c = j + 1
                          · subst e; omega
                          · omega) h3
      · exact g2 c h1 (by by_cases e : c = j + 1
                          · subst e; omega
                          · omega) h3
      · rcases g4 with ⟨w1, w2⟩ | ⟨w1, w2, w3, w4⟩
        · exact Or.inl ⟨w1, fun c h1 h2 => by
            by_cases e : c = j + 1
            · subst e; exact q
            · exact w2 c h1 (by omega)⟩
        · exact Or.inr ⟨w1, by omega, w3, fun c h1 h2 h3 => w4 c h1 (by
            by_cases e : c = j + 1
            · subst e; omega
            · omega) h3⟩
    · have unr : s + 1 ≤ ps T x s (j + 1) := by omega
      have sc : (zL H1 44 (j + 1)).toInt = sH H (j + 1) := sj.1
      refine ⟨by decide, trivial, trivial, by omega, trivial, trivial, by decide, trivial, trivial, by decide, trivial, trivial, fun v21 ev => ⟨by decide, trivial, trivial, ?_⟩⟩
      have evI : v21.toInt = Ctt h0 (ro x - 1) (j + 1 - 1) - uH H (ro x) - vH H (j + 1) := by rw [ev, sp1]
      clear ev
      -- the next round, with a new nearest or the old one
      have go : ∀ (H2 : ZH) (cf2 : Nat → Nat) (y2 : Nat), zK H2 = zK H1 → zN H2 = zN H1 → zR H2 = zR H1 → (∀ a i, ¬ (a = 46 ∧ i = j + 1) → zI H2 a i = zI H1 a i) → (∀ a i, ¬ (a = 44 ∧ i = j + 1) → zL H2 a i = zL H1 a i) → zI H2 46 (j + 1) = nI (cf2 (j + 1)) → (∀ c, c ≠ j + 1 → cf2 c = cf' c) →
          (Ctt h0 (ro x - 1) (j + 1 - 1) - uH H (ro x) - vH H (j + 1) < sH H (j + 1) → sH H2 (j + 1) = Ctt h0 (ro x - 1) (j + 1 - 1) - uH H (ro x) - vH H (j + 1) ∧ cf2 (j + 1) = x) → (¬ Ctt h0 (ro x - 1) (j + 1 - 1) - uH H (ro x) - vH H (j + 1) < sH H (j + 1) → sH H2 (j + 1) = sH H (j + 1) ∧ cf2 (j + 1) = cf (j + 1)) →
          ((y2 = j + 1 ∧ (y = 0 ∨ sH H2 (j + 1) < sH H2 y)) ∨ (y2 = y ∧ y ≠ 0 ∧ ¬ sH H2 (j + 1) < sH H2 y)) → Zt mX2_reachNext (zPI ψ) 0 0 19 [some (.ref 40), some (.int (nI x)), some (.int (nI (ro x))), some (.int (nI y2)), some (.int (nI (j + 1 + 1))), none, none] [] H2 := fun H2 cf2 y2 lk ln lr li ll lc lo t1 t2 t3 => by
        have so : ∀ c, c ≠ j + 1 → sH H2 c = sH H1 c := fun c e => by unfold sH; rw [ll _ _ (by omega)]
        refine ih H2 y2 cf2 (lk.trans kk) (ln.trans kn) (lr.trans kr) (fun a i q => by rw [li a i (by omega)]; exact ki a i q) (fun a i q => by rw [ll a i (by omega)]; exact kl a i q) (fun c hc => ?_) (fun c h1 h2 h3 h4 => ?_) (fun c h1 h2 h3 h4 => ?_) (fun c h1 h2 => ?_) ?_
        · by_cases e : c = j + 1
          · subst e; exact lc
          · rw [li _ _ (by omega), lo c e]; exact kc c hc
        · by_cases e : c = j + 1
          · subst e; exact t1 h4
          · rw [so c e, lo c e]; exact g1 c h1 (by omega) h3 h4
        · by_cases e : c = j + 1
          · subst e; exact t2 h4
          · rw [so c e, lo c e]; exact g2 c h1 (by omega) h3 h4
        · have e : c ≠ j + 1 := fun z => by subst z; omega
          rw [so c e, lo c e]
          exact g3 c h1 (by omega)
        · right
          rcases t3 with ⟨w1, w2⟩ | ⟨w1, w2, w3⟩
          · subst w1
            refine ⟨by omega, Nat.le_refl _, unr, fun c h1 h2 h3 => ?_⟩
            by_cases e : c = j + 1
            · subst e; exact Int.le_refl _
            · rcases g4 with ⟨z1, z2⟩ | ⟨z1, z2, z3, z4⟩
              · have := z2 c h1 (by omega); omega
              · have a1 := z4 c h1 (by omega) h3
                rcases w2 with w2 | w2
                · omega
                · rw [so y (by omega)] at w2
                  rw [so c e]
                  omega
          · subst w1
            rcases g4 with ⟨z1, z2⟩ | ⟨z1, z2, z3, z4⟩
            · exact absurd z1 w2
            · refine ⟨z1, by omega, z3, fun c h1 h2 h3 => ?_⟩
              by_cases e : c = j + 1
              · subst e; omega
              · rw [so _ (by omega), so c e]; exact z4 c h1 (by omega) h3
      have y0 : (nI y = 0) ↔ y = 0 := ⟨fun q => nI_inj' (b := 0) (by omega) (by omega) q, fun q => by rw [q]; rfl⟩
      rw [sc, evI, y0]
      refine ⟨fun z => ⟨fun w => ?_, fun w => ⟨trivial, fun t => ?_, fun t => ?_⟩⟩, fun z => ⟨by decide, trivial, trivial, fun w => ?_, fun w h30 e30 => ?_⟩⟩
      · exact go H1 cf' (j + 1) rfl rfl rfl (fun _ _ _ => rfl) (fun _ _ _ => rfl) (kc _ (by omega)) (fun _ _ => rfl) (fun q => absurd q z) (fun _ => sj) (Or.inl ⟨rfl, Or.inl w⟩)
      · exact go H1 cf' y rfl rfl rfl (fun _ _ _ => rfl) (fun _ _ _ => rfl) (kc _ (by omega)) (fun _ _ => rfl) (fun q => absurd q z) (fun _ => sj) (Or.inr ⟨rfl, w, by rw [sj.1]; exact t⟩)
      · exact go H1 cf' (j + 1) rfl rfl rfl (fun _ _ _ => rfl) (fun _ _ _ => rfl) (kc _ (by omega)) (fun _ _ => rfl) (fun q => absurd q z) (fun _ => sj) (Or.inl ⟨rfl, Or.inr (by rw [sj.1]; exact Classical.not_not.mp t)⟩)
      · have z' := Classical.not_not.mp z
        refine go _ (ps cf' (j + 1) x) (j + 1) rfl rfl rfl (fun a i q => zI_sIn q) (fun a i q => zL_sLn q) (by rw [zI_sIs, ps_s]) (fun c e => ps_n e) (fun _ => ⟨?_, ps_s⟩) (fun q => absurd z' q) (Or.inl ⟨rfl, Or.inl w⟩)
        show (zL (zsL H1 44 (j + 1) v21) 44 (j + 1)).toInt = _
        rw [zL_sLs, evI]
      · have z' := Classical.not_not.mp z
        have B1 : zK h30 = zK H1 ∧ zN h30 = zN H1 ∧ zR h30 = zR H1 := by rw [e30]; exact ⟨rfl, rfl, rfl⟩
        have B2 : ∀ a i, ¬ (a = 46 ∧ i = j + 1) → zI h30 a i = zI H1 a i := fun a i q => by rw [e30, zI_sIn q]; rfl
        have B3 : ∀ a i, ¬ (a = 44 ∧ i = j + 1) → zL h30 a i = zL H1 a i := fun a i q => by rw [e30, zL_sI', zL_sLn q]
        have B4 : zI h30 46 (j + 1) = nI (ps cf' (j + 1) x (j + 1)) := by rw [e30, zI_sIs, ps_s]
        have B5 : sH h30 (j + 1) = Ctt h0 (ro x - 1) (j + 1 - 1) - uH H (ro x) - vH H (j + 1) := by unfold sH; rw [e30, zL_sI', zL_sLs, evI]
        clear e30
        have S3 : Sh h30 np nm nh := S1.same B1.1 B1.2.1 B1.2.2
        simp only [shPa S3, vj, vy, ne_eq]
        refine ⟨trivial, trivial, trivial, by decide, trivial, trivial, fun t => ?_, fun t => ?_⟩
        · exact go h30 (ps cf' (j + 1) x) y B1.1 B1.2.1 B1.2.2 B2 B3 B4 (fun c e => ps_n e) (fun _ => ⟨B5, ps_s⟩) (fun q => absurd z' q) (Or.inr ⟨rfl, w, t⟩)
        · exact go h30 (ps cf' (j + 1) x) (j + 1) B1.1 B1.2.1 B1.2.2 B2 B3 B4 (fun c e => ps_n e) (fun _ => ⟨B5, ps_s⟩) (fun q => absurd z' q) (Or.inl ⟨rfl, Or.inr (Classical.not_not.mp t)⟩)
end HUNG3
