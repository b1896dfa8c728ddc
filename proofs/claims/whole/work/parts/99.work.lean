section WORK
variable {h : ZH} {np nm nh : Nat}
/-- what the move needs of the state -/
def MQ' (h : ZH) (np nm nh : Nat) : Prop := LV h np nm nh ∧ NEk h ∧ zI h 10 13 = nI nm ∧ zI h 200 17 = nI nm ∧ zI h 200 9 = nI np
theorem MQ'.of {i nw ns mo : Nat} (J : Jn h i np nm nh nw ns mo) : MQ' h np nm nh := ⟨LV.of J, NEk.of J, J.2.1.2.1.2.1, J.2.1.2.1.1, J.2.1.1.1⟩
theorem MQ'.post (Q : MQ' h np nm nh) {p t : Nat} (hp : p < np) (ht : t < 3) : zI h (302 + 3 * p) t = nI (pnN h p t) ∧ zI h 209 (3 * p + t) = nI (pnN h p t) ∧ pnN h p t ≤ 9 := by
  have w := Q.1.2.2.2.2.2.1.2.1 p t hp ht
  have := nv_of (c := 9) (b := 9) (by decide) w.2
  exact ⟨by rw [w.1]; exact this.1, this.1, this.2⟩
theorem MQ'.way (Q : MQ' h np nm nh) {pit j s : Nat} (hj : j < (mvs h pit nm).1) (hs : s < (sls h pit np).1) : wyJ h (sls h pit np) (mvs h pit nm).2.1 j s ≤ 198 := by
  have hm := ((mvs_I (h := h) (pit := pit) (m := nm)).2.2.1 j hj).1
  have hp := (sls_I (h := h) (np := np) (pit := pit) (Nat.le_refl np) s hs).1
  exact (wyN_bd Q.1.2.2.2.2.1 Q.1.2.2.2.2.2.1 (twN_of Q.1 hm).1 hp).2
set_option maxHeartbeats 4000000 in
theorem s_X10_work {ψ : Int32 → ZH → Prop} {pit : Nat} (Q : MQ' h np nm nh) (hpit : pit < np) (k1 : (mvs h pit nm).1 ≤ 9 → ∀ H, C4 h H (sls h pit np) (mvs h pit nm) → ψ 1 H) (k0 : 9 < (mvs h pit nm).1 → ∀ H, zsame h H → ψ 0 H) : ZcI mX10_workOutMove [.ref 10, .int (nI pit)] h ψ := by
  obtain ⟨K, ne, cm, cmM, cpM⟩ := Q
  have Q : MQ' h np nm nh := ⟨K, ne, cm, cmM, cpM⟩
  have S := K.1
  have cp := K.2.1
  have h8 := K.2.2.1
  have h24 := K.2.2.2.1
  have P := K.2.2.2.2.2.1
  have M := K.2.2.2.2.2.2.1
  -- the offers
  have third : ∀ H, (mvs h pit nm).1 ≤ 9 → zsame h H → SCl H (sls h pit np) → zI H 35 4 = nI (mvs h pit nm).1 → (∀ j, j < (mvs h pit nm).1 → zI H 38 j = nI ((mvs h pit nm).2.1 j)) → zI H 35 7 = nI (mvs h pit nm).2.2 → (∀ j, j < (mvs h pit nm).1 → rowV H (sls h pit np).1 j (fun _ => BAR)) → Zt mX10_workOutMove (zPI ψ) 0 0 131 [some (.ref 10), none, some (.int 0)] [] H := by
    intro H n9 e C c4 cl c7 R
    have I := sls_I (h := h) (np := np) (pit := pit) (Nat.le_refl np)
    have MI := mvs_I (h := h) (pit := pit) (m := nm)
    have way : ∀ j s, j < (mvs h pit nm).1 → s < (sls h pit np).1 → wyJ h (sls h pit np) (mvs h pit nm).2.1 j s ≤ 198 := fun j s hj hs => Q.way hj hs
    have kk1 := k1 n9
    revert C c4 cl c7 R I MI way kk1 n9
    generalize sls h pit np = sl
    generalize mvs h pit nm = mv
    intro n9 C c4 cl c7 R I MI way kk1
    have main := down (n := mv.1) (I := fun j => ∀ H1, zsame h H1 → SCl H1 sl → zI H1 35 4 = nI mv.1 → (∀ j, j < mv.1 → zI H1 38 j = nI (mv.2.1 j)) → zI H1 35 7 = nI mv.2.2 → (∀ j', j' < j → rowV H1 sl.1 j' (vJ h sl mv.2.1 j')) → (∀ j', j ≤ j' → j' < mv.1 → rowV H1 sl.1 j' (fun _ => BAR)) → Zt mX10_workOutMove (zPI ψ) 0 0 131 [some (.ref 10), none, some (.int (nI j))] [] H1) ?_ ?_
    · exact main H e C c4 cl c7 (fun j' hj' => absurd hj' (by omega)) (fun j' _ hj' => R j' hj')
    · intro H1 e1 C1 c41 cl1 c71 g1 g2
      have S1 := e1.Sh S
      refine wX10_workOutMove_131 ?_
      simp only [shX S1, shRe S1, c41, ne_eq]
      exact ⟨trivial, by decide, trivial, fun _ => s_X7_settle S way e1 C1 c41 n9 cl1 c71 g1 (fun H2 c => kk1 H2 c), fun z => absurd (Int32.le_refl _) z⟩
    · intro j hj ih H1 e1 C1 c41 cl1 c71 g1 g2
      have S1 := e1.Sh S
      have ej := nI_clamp (n := j) (by omega)
      have vj : vp_in (nI j) 9 := vp_in_nI (by omega) (by omega)
      have hm := (MI.2.2.1 j hj).1
      have em := nI_clamp (n := mv.2.1 j) (by omega)
      have vm : vp_in (nI (mv.2.1 j)) 24 := vp_in_nI (by omega) (by omega)
      refine wX10_workOutMove_131 ?_
      simp only [shX S1, shRe S1, shMan S1 hm, c41, cl1 j hj, ej, vj, em, vm, nI_1, ne_eq]
      refine ⟨trivial, by decide, trivial, Bf (cnt_le (by omega) hj) ⟨by decide, by decide, trivial, trivial, trivial, trivial, by omega, s_X10_offer K ne e1 C1 I (by omega) hm (g2 j (Nat.le_refl _) hj) (fun H2 e2 i2 l2 r2 => ih H2 e2 (C1.fr (fun a i q => i2 a i (by omega))) (by rw [i2 _ _ (by omega)]; exact c41) (fun j' hj' => by rw [i2 _ _ (by omega)]; exact cl1 j' hj') (by rw [i2 _ _ (by omega)]; exact c71) (fun j' hj' => ?_) (fun j' h1 h2 => ?_))⟩⟩
      · by_cases ee : j' = j
        · subst ee; exact r2
        · exact (g1 j' (by omega)).fr (fun c => l2 _ _ (by omega))
      · exact (g2 j' (by omega) h2).fr (fun c => l2 _ _ (by omega))
  -- the men
  have second : ∀ H, zsame h H → SCl H (sls h pit np) → zI H 35 4 = 0 → zI H 35 7 = 0 → Zt mX10_workOutMove (zPI ψ) 0 0 59 [some (.ref 10), some (.int (nI pit)), some (.int 0)] [] H := by
    intro H e C c4 c7
    have main := down (n := nm) (I := fun m => ∀ H1, (mvs h pit m).1 ≤ 9 → zsame h H1 → SCl H1 (sls h pit np) → zI H1 35 4 = nI (mvs h pit m).1 → (∀ j, j < (mvs h pit m).1 → zI H1 38 j = nI ((mvs h pit m).2.1 j)) → zI H1 35 7 = nI (mvs h pit m).2.2 → (∀ j, j < (mvs h pit m).1 → rowV H1 (sls h pit np).1 j (fun _ => BAR)) → Zt mX10_workOutMove (zPI ψ) 0 0 59 [some (.ref 10), some (.int (nI pit)), some (.int (nI m))] [] H1) ?_ ?_
    · exact main H (Nat.zero_le _) e C c4 (fun j hj => absurd hj (Nat.not_lt_zero j)) c7 (fun j hj => absurd hj (Nat.not_lt_zero j))
    · intro H1 n9 e1 C1 c41 cl1 c71 R1
      have S1 := e1.Sh S
      have cm1 : zI H1 10 13 = nI nm := by rw [e1.2.2.2 _ _ (by unfold scr; omega)]; exact cm
      exact wX10_workOutMove_59 ⟨(shX S1).1, fun _ => third H1 n9 e1 C1 c41 cl1 c71 R1, fun z => absurd (by rw [cm1]; exact Int32.le_refl _) z⟩
    · intro m hm ih H1 n9 e1 C1 c41 cl1 c71 R1
      have K1 := K.same e1
      have S1 := K1.1
      have cm1 : zI H1 10 13 = nI nm := by rw [e1.2.2.2 _ _ (by unfold scr; omega)]; exact cm
      have em := nI_clamp (n := m) (by omega)
      have vm : vp_in (nI m) 24 := vp_in_nI (by omega) (by omega)
      have m5 : zI H1 (400 + m) 4 = zI h 215 m := by rw [e1.2.2.2 _ _ (by unfold scr; omega)]; exact (M m hm).2.2.2.2.1
      rw [mvs_s] at ih
      refine wX10_workOutMove_59 ?_
      simp only [shX S1, shMan S1 hm, cm1, m5, em, vm, nI_1, ne_eq]
      refine ⟨trivial, Bf (cnt_le (by omega) hm) ⟨by decide, trivial, trivial, by omega, trivial, fun z => ?_, fun z => s_X10_isTrue (r := 0) K1 hm (by omega) (fun H2 sc => ?_)⟩⟩
      · rw [if_neg z] at ih
        exact ih H1 n9 e1 C1 c41 cl1 c71 R1
      · rw [if_pos z] at ih
        have e2 := e1.trans sc.same
        have S2 := e2.Sh S
        have E2 := sc.2.2.2.2
        have C2 := C1.fr (H1 := H2) (fun a i q => E2 a i (by omega))
        have c42 : zI H2 35 4 = nI (mvs h pit m).1 := by rw [E2 _ _ (by omega)]; exact c41
        have c72 : zI H2 35 7 = nI (mvs h pit m).2.2 := by rw [E2 _ _ (by omega)]; exact c71
        refine zb_if (fun t => ?_) (fun t => ?_)
        · rw [if_pos ((truM_same e1).mp t)] at ih
          simp only [shX S2, shRe S2, c72, nI_1, ne_eq]
          refine ⟨trivial, by decide, trivial, ih _ n9 (e2.trans (zsame.sI (by unfold scr; omega))) (C2.fr (fun a i q => zI_sIn (by omega))) (by rw [zI_sIj (by decide)]; exact c42) (fun j hj => by rw [zI_sIa (by decide), E2 _ _ (by omega)]; exact cl1 j hj) (by rw [zI_sIs]) (fun j hj => (R1 j hj).fr (fun c => by rw [zL_sI', sc.2.2.2.1]))⟩
        · have nt : ¬ truM h 0 m := fun x => t ((truM_same e1).mpr x)
          have nx : (mvs h pit (m + 1)).1 = (mvs h pit m).1 + 1 := by rw [mvs_s, if_pos z, if_neg nt]
          rw [if_neg nt] at ih
          simp only [shX S2, shRe S2, ne_eq]
          refine ⟨trivial, by decide, trivial, s_X7_addMan (m := m) S2 c42 C2.1 C2.2.1 n9 (fun n9' => N0 (k0 ?_ H2 e2)) (fun n9' H3 kk kn kr ki k38 k354 kl rr => N1 ?_)⟩
          · have mo := mvs_mono (h := h) (pit := pit) (m := m + 1) (d := nm - (m + 1))
            rw [show m + 1 + (nm - (m + 1)) = nm by omega, nx] at mo
            omega
          · refine ih H3 ?_ (e2.trans ⟨kk, kn, kr, fun a i q => ki a i (fun w => q (by unfold scr; omega))⟩) (C2.fr (fun a i q => ki a i (by omega))) k354 (fun j hj => ?_) (by rw [ki _ _ (by omega)]; exact c72) (fun j hj => ?_)
            · show (mvs h pit m).1 + 1 ≤ 9
              omega
            · have hj' : j < (mvs h pit m).1 + 1 := hj
              show zI H3 38 j = nI (ps (mvs h pit m).2.1 (mvs h pit m).1 m j)
              by_cases ee : j = (mvs h pit m).1
              · subst ee; rw [k38, ps_s]
              · rw [ki _ _ (by omega), ps_n ee, E2 _ _ (by omega)]; exact cl1 j (by omega)
            · have hj' : j < (mvs h pit m).1 + 1 := hj
              by_cases ee : j = (mvs h pit m).1
              · subst ee; exact rr
              · exact (R1 j (by omega)).fr (fun c => by rw [kl _ _ (by omega), sc.2.2.2.1])
  -- the slots
  have first := down (n := np) (I := fun p => ∀ H, zsame h H → SCl H (sls h pit p) → zI H 35 4 = 0 → zI H 35 7 = 0 → Zt mX10_workOutMove (zPI ψ) 0 0 9 [some (.ref 10), some (.int (nI pit)), some (.int (nI p))] [] H) ?_ ?_
  · refine wX10_workOutMove ?_
    simp only [shX S, shRe S, ne_eq]
    refine ⟨trivial, by decide, trivial, wX7_clear ⟨(shRe S).1, first _ ((zsame.sI (by unfold scr; omega)).trans ((zsame.sI (by unfold scr; omega)).trans (zsame.sI (by unfold scr; omega)))) ⟨?_, Nat.zero_le _, fun i hi => absurd hi (Nat.not_lt_zero i)⟩ ?_ ?_⟩⟩
    · rw [zI_sIj (by decide), zI_sIj (by decide), zI_sIs]; rfl
    · rw [zI_sIj (by decide), zI_sIs]
    · rw [zI_sIs]
  · intro H e C c4 c7
    have S1 := e.Sh S
    have cp1 : zI H 10 12 = nI np := by rw [e.2.2.2 _ _ (by unfold scr; omega)]; exact cp
    exact wX10_workOutMove_9 ⟨(shX S1).1, fun _ => second H e C c4 c7, fun z => absurd (by rw [cp1]; exact Int32.le_refl _) z⟩
  · intro p hp ih H e C c4 c7
    have S1 := e.Sh S
    have cp1 : zI H 10 12 = nI np := by rw [e.2.2.2 _ _ (by unfold scr; omega)]; exact cp
    have ep := nI_clamp (n := p) (by omega)
    have vp : vp_in (nI p) 8 := vp_in_nI (by omega) (by omega)
    have p5 : zI H (300 + 3 * p) 5 = zI h 208 p := by rw [e.2.2.2 _ _ (by unfold scr; omega)]; exact (P.1 p hp).2.2.2.2.2.1
    have st : sls h pit (p + 1) = if p ≠ pit ∧ oN h p then adP h p 3 (sls h pit p) else sls h pit p := rfl
    rw [st] at ih
    refine wX10_workOutMove_9 ?_
    simp only [shX S1, shRe S1, shPit S1 hp, cp1, p5, ep, vp, nI_1, ne_eq]
    refine ⟨trivial, Bf (cnt_le (by omega) hp) ⟨fun z => ?_, fun z => ⟨by decide, trivial, trivial, by omega, trivial, fun w => ?_, fun w => ⟨by decide, by omega, trivial, s_X7_addSlots (h := h) S1 hp h8 (fun t ht => ?_) C (fun H2 F2 C2 => ?_)⟩⟩⟩⟩
    · rw [if_neg (fun x => x.1 (nI_inj' (by omega) (by omega) z))] at ih
      exact ih H e C c4 c7
    · rw [if_neg (fun x => x.2 w)] at ih
      exact ih H e C c4 c7
    · have := Q.post hp ht
      exact ⟨by rw [e.2.2.2 _ _ (by unfold scr; omega)]; exact this.1, this.2.2⟩
    · rw [if_pos ⟨fun x => z (by rw [x]), w⟩] at ih
      exact ih H2 (e.trans F2.same) C2 (by rw [F2.2.2.2.2 _ _ (by omega)]; exact c4) (by rw [F2.2.2.2.2 _ _ (by omega)]; exact c7)
end WORK
