section FIND
variable {h : ZH} {np nm nh : Nat}
/-- the model's slots and movers -/
def SMl (H : ZH) (s : SLt) : Prop := zI H 200 28 = nI s.1 ∧ s.1 ≤ 12 ∧ ∀ i, i < s.1 → zI H 227 i = nI (s.2.1 i) ∧ zI H 228 i = nI (s.2.2 i)
theorem SMl.fr {H H1 : ZH} {s : SLt} (k : SMl H s) (E : ∀ a j, (a = 200 ∧ j = 28) ∨ a = 227 ∨ a = 228 → zI H1 a j = zI H a j) : SMl H1 s := ⟨by rw [E _ _ (by omega)]; exact k.1, k.2.1, fun i hi => by rw [E _ _ (by omega), E _ _ (by omega)]; exact k.2.2 i hi⟩
def MMl (H : ZH) (mv : MVt) : Prop := zI H 200 24 = nI mv.1 ∧ (∀ j, j < mv.1 → zI H 224 j = nI (mv.2.1 j)) ∧ zI H 200 25 = nI mv.2.2
theorem MMl.fr {H H1 : ZH} {mv : MVt} (k : MMl H mv) (E : ∀ a j, (a = 200 ∧ (j = 24 ∨ j = 25)) ∨ a = 224 → zI H1 a j = zI H a j) : MMl H1 mv := ⟨by rw [E _ _ (by omega)]; exact k.1, fun j hj => by rw [E _ _ (by omega)]; exact k.2.1 j hj, by rw [E _ _ (by omega)]; exact k.2.2⟩
/-- only the model's slots have changed -/
def FM (H H1 : ZH) : Prop := zK H1 = zK H ∧ zN H1 = zN H ∧ zR H1 = zR H ∧ ∀ a j, ¬ ((a = 200 ∧ j = 28) ∨ a = 227 ∨ a = 228) → zI H1 a j = zI H a j
theorem FM.rfl' {H : ZH} : FM H H := ⟨rfl, rfl, rfl, fun _ _ _ => rfl⟩
theorem FM.trans {a b c : ZH} (k : FM a b) (q : FM b c) : FM a c := ⟨q.1.trans k.1, q.2.1.trans k.2.1, q.2.2.1.trans k.2.2.1, fun x j z => (q.2.2.2 x j z).trans (k.2.2.2 x j z)⟩
theorem FM.same {H H1 : ZH} (k : FM H H1) : zsame H H1 := ⟨k.1, k.2.1, k.2.2.1, fun a j z => k.2.2.2 a j (fun e => z (by unfold scr; omega))⟩
set_option maxHeartbeats 4000000 in
theorem s_X11_findMovers {ψ : ZH → Prop} {g : ZH} {pit : Nat} (Q : MQ' h np nm nh) (hpit : pit < np) (e0 : zsm h g) (k : ∀ H, ZR g h H → SMl H (sls h pit np) → MMl H (mvs h pit nm) → ψ H) : ZcV mX11_findMovers [.ref 200, .int (nI pit)] g ψ := by
  obtain ⟨K, ne, cm, cmM, cpM⟩ := Q
  have Q : MQ' h np nm nh := ⟨K, ne, cm, cmM, cpM⟩
  have S := K.1
  have h8 := K.2.2.1
  have h24 := K.2.2.2.1
  -- the slots
  have second : ∀ H, ZR g h H → zI H 200 28 = 0 → MMl H (mvs h pit nm) → Zt mX11_findMovers (zPV ψ) 0 0 85 [some (.ref 200), some (.int (nI pit)), some (.int 0), none, none] [] H := by
    intro H e c28 MM
    have pits := down (n := np) (I := fun p => ∀ H1, FM H H1 → SMl H1 (sls h pit p) → Zt mX11_findMovers (zPV ψ) 0 0 85 [some (.ref 200), some (.int (nI pit)), some (.int (nI p)), none, none] [] H1) ?_ ?_
    · exact pits H FM.rfl' ⟨c28, Nat.zero_le _, fun i hi => absurd hi (Nat.not_lt_zero i)⟩
    · intro H1 F1 C1
      have e1 := e.trans F1.same
      have cn : zI H1 200 9 = nI np := by rw [e1.2.2.2.2 _ _ (by unfold scx scr; omega)]; exact cpM
      exact wX11_findMovers_85 ⟨(shM (e1.Sh S)).1, fun _ => k H1 e1 C1 (MM.fr (fun a j q => F1.2.2.2 a j (by omega))), fun z => absurd (by rw [cn]; exact Int32.le_refl _) z⟩
    · intro p hp ih H1 F1 C1
      have e1 := e.trans F1.same
      have S1 := e1.Sh S
      have cn : zI H1 200 9 = nI np := by rw [e1.2.2.2.2 _ _ (by unfold scx scr; omega)]; exact cpM
      have ep := nI_clamp (n := p) (by omega)
      have vp : vp_in (nI p) 8 := vp_in_nI (by omega) (by omega)
      have co : ∀ H2, FM H H2 → zI H2 208 p = zI h 208 p := fun H2 F2 => by rw [F2.2.2.2 _ _ (by omega), e.2.2.2.2 _ _ (by unfold scx scr; omega)]
      have st : sls h pit (p + 1) = if p ≠ pit ∧ oN h p then adP h p 3 (sls h pit p) else sls h pit p := rfl
      rw [st] at ih
      refine wX11_findMovers_85 ⟨(shM S1).1, fun z => absurd z (by rw [cn]; exact cnt_le (by omega) hp), fun _ => ?_⟩
      have eqp : (nI p = nI pit) ↔ p = pit := ⟨fun z => nI_inj' (by omega) (by omega) z, fun z => by rw [z]⟩
      by_cases cc : p ≠ pit ∧ oN h p
      · rw [if_pos cc] at ih
        have trades := down (n := 3) (I := fun t => ∀ H2, FM H H2 → SMl H2 (adP h p t (sls h pit p)) → Zt mX11_findMovers (zPV ψ) 0 0 95 [some (.ref 200), some (.int (nI pit)), some (.int (nI p)), some (.int (nI t)), none] [] H2) ?_ ?_
        · exact trades H1 F1 C1
        · intro H2 F2 C2
          refine wX11_findMovers_95 ⟨fun _ => ?_, fun z => absurd (by decide) z⟩
          rw [nI_1]
          exact ih H2 F2 C2
        · intro t ht ih2 H2 F2 C2
          have S2 := (e.trans F2.same).Sh S
          refine wX11_findMovers_95 ⟨fun z => absurd z (cnt_le (n := 3) (by omega) ht), fun _ => ?_⟩
          simp only [shM S2, ep, vp, co H2 F2, ne_eq]
          refine ⟨trivial, by decide, trivial, trivial, fun z => absurd z cc.2, fun _ => ⟨fun z => absurd (eqp.mp z) cc.1, fun _ => ?_⟩⟩
          obtain ⟨_, c1, c2⟩ := Q.post hp ht
          have b3 : 3 * nI p + nI t = nI (3 * p + t) := by rw [nI_lit3, nI_mul, nI_add]
          have e3 := nI_clamp (n := 3 * p + t) (by omega)
          have v3 : vp_in (nI (3 * p + t)) 24 := vp_in_nI (by omega) (by omega)
          have inner := down (n := pnN h p t) (I := fun i => ∀ H3, FM H H3 → SMl H3 (adN p t i (adP h p t (sls h pit p))) → Zt mX11_findMovers (zPV ψ) 0 0 117 [some (.ref 200), some (.int (nI pit)), some (.int (nI p)), some (.int (nI t)), some (.int (nI i))] [] H3) ?_ ?_
          · exact inner H2 F2 C2
          · intro H3 F3 C3
            have S3 := (e.trans F3.same).Sh S
            have cp3 : zI H3 209 (3 * p + t) = nI (pnN h p t) := by rw [F3.2.2.2 _ _ (by omega), e.2.2.2.2 _ _ (by unfold scx scr; omega), c1]
            refine wX11_findMovers_117 ?_
            simp only [shM S3, b3, e3, v3, cp3, nI_1, ne_eq]
            exact ⟨trivial, by decide, trivial, trivial, fun _ => ih2 H3 F3 C3, fun z => absurd (Int32.le_refl _) z⟩
          · intro i hi ih3 H3 F3 C3
            have S3 := (e.trans F3.same).Sh S
            have cp3 : zI H3 209 (3 * p + t) = nI (pnN h p t) := by rw [F3.2.2.2 _ _ (by omega), e.2.2.2.2 _ _ (by unfold scx scr; omega), c1]
            obtain ⟨s1, s2, s3⟩ := C3
            refine wX11_findMovers_117 ?_
            simp only [shM S3, b3, e3, v3, cp3, nI_1, ne_eq]
            refine ⟨trivial, by decide, trivial, trivial, Bf (cnt_le (by omega) hi) ?_⟩
            by_cases full : 12 ≤ (adN p t i (adP h p t (sls h pit p))).1
            · refine ⟨fun _ => ih2 H3 F3 ?_, fun z => absurd (by rw [s1]; exact nI_le (a := 12) full (by omega)) z⟩
              show SMl H3 (adN p t (pnN h p t) (adP h p t (sls h pit p)))
              rw [show pnN h p t = i + (pnN h p t - i) by omega, adN_full full]
              exact ⟨s1, s2, s3⟩
            · generalize hs : adN p t i (adP h p t (sls h pit p)) = s at s1 s2 s3 full
              have ee : adN p t (i + 1) (adP h p t (sls h pit p)) = (s.1 + 1, ps s.2.1 s.1 p, ps s.2.2 s.1 t) := by
                show ad1 p t (adN p t i (adP h p t (sls h pit p))) = _
                rw [hs]
                unfold ad1
                rw [if_pos (by omega)]
              rw [ee] at ih3
              have es := nI_clamp (n := s.1) (by omega)
              have vs : vp_in (nI s.1) 12 := vp_in_nI (by omega) (by omega)
              refine ⟨fun z => absurd z (by rw [s1]; exact cnt_le (n := 12) (by omega) (by omega)), fun _ => ?_⟩
              simp only [s1, es, vs]
              refine ⟨by decide, trivial, trivial, by decide, fun a1 ea1 => ?_⟩
              have A1 : zI a1 200 28 = nI s.1 := by rw [ea1, zI_sIa (by decide)]; exact s1
              have A2 : FM H3 a1 := by rw [ea1]; exact ⟨rfl, rfl, rfl, fun a j q => zI_sIa (by omega)⟩
              have A3 : ∀ a j, ¬ (a = 227 ∧ j = s.1) → zI a1 a j = zI H3 a j := fun a j q => by rw [ea1, zI_sIn q]
              have A4 : zI a1 227 s.1 = nI p := by rw [ea1, zI_sIs]
              clear ea1
              simp only [shM (A2.same.Sh S3), A1, es, vs]
              refine ⟨trivial, trivial, trivial, fun a2 ea2 => ?_⟩
              have B1 : zI a2 200 28 = nI s.1 := by rw [ea2, zI_sIa (by decide)]; exact A1
              have B2 : FM H3 a2 := by rw [ea2]; exact A2.trans ⟨rfl, rfl, rfl, fun a j q => zI_sIa (by omega)⟩
              have B3 : ∀ a j, ¬ (a = 227 ∧ j = s.1) → ¬ (a = 228 ∧ j = s.1) → zI a2 a j = zI H3 a j := fun a j q q2 => by rw [ea2, zI_sIn q2]; exact A3 a j q
              have B4 : zI a2 227 s.1 = nI p := by rw [ea2, zI_sIa (by decide)]; exact A4
              have B5 : zI a2 228 s.1 = nI t := by rw [ea2, zI_sIs]
              clear ea2
              rw [(shM (B2.same.Sh S3)).1, B1, nI_1]
              refine ⟨rfl, ih3 _ (F3.trans (B2.trans ⟨rfl, rfl, rfl, fun a j q => zI_sIn (by omega)⟩)) ⟨by rw [zI_sIs], by show s.1 + 1 ≤ 12; omega, fun j hj => ?_⟩⟩
              rw [zI_sIa (by decide), zI_sIa (by decide)]
              show zI a2 227 j = nI (ps s.2.1 s.1 p j) ∧ zI a2 228 j = nI (ps s.2.2 s.1 t j)
              by_cases ej : j = s.1
              · subst ej; rw [ps_s, ps_s]; exact ⟨B4, B5⟩
              · have hj' : j < s.1 + 1 := hj
                rw [ps_n ej, ps_n ej, B3 _ _ (by omega) (by omega), B3 _ _ (by omega) (by omega)]
                exact s3 j (by omega)
      · rw [if_neg cc] at ih
        have nx := ih H1 F1 C1
        refine wX11_findMovers_95 ⟨fun z => absurd z (by decide), fun _ => ?_⟩
        simp only [shM S1, ep, vp, co H1 F1, nI_1, ne_eq]
        exact ⟨trivial, by decide, trivial, trivial, fun _ => nx, fun z => ⟨fun _ => nx, fun w => absurd ⟨fun x => w (eqp.mpr x), z⟩ cc⟩⟩
  -- the movers
  have first := down (n := nm) (I := fun m => ∀ H, ZR g h H → MMl H (mvs h pit m) → Zt mX11_findMovers (zPV ψ) 0 0 12 [some (.ref 200), some (.int (nI pit)), some (.int (nI m)), none, none] [] H) ?_ ?_
  · refine wX11_findMovers ⟨(shM (e0.Sh S)).1, first _ ((ZR.start e0).trans ((zsame.sI (by unfold scr; omega)).trans (zsame.sI (by unfold scr; omega)))) ⟨?_, fun j hj => absurd hj (Nat.not_lt_zero j), ?_⟩⟩
    · rw [zI_sIj (by decide), zI_sIs]; rfl
    · rw [zI_sIs]; rfl
  · intro H e MM
    have cn : zI H 200 17 = nI nm := by rw [e.2.2.2.2 _ _ (by unfold scx scr; omega)]; exact cmM
    refine wX11_findMovers_12 ⟨(shM (e.Sh S)).1, fun _ => second _ (e.trans (zsame.sI (by unfold scr; omega))) (by rw [zI_sIs]) (MM.fr (fun a j q => zI_sIn (by omega))), fun z => absurd (by rw [cn]; exact Int32.le_refl _) z⟩
  · intro m hm ih H e MM
    have K1 := K.m.same e.2
    have S1 := K1.1
    have cn : zI H 200 17 = nI nm := by rw [e.2.2.2.2 _ _ (by unfold scx scr; omega)]; exact cmM
    have em := nI_clamp (n := m) (by omega)
    have vm : vp_in (nI m) 24 := vp_in_nI (by omega) (by omega)
    have c5 : zI H 215 m = zI h 215 m := e.2.2.2.2 _ _ (by unfold scx scr; omega)
    rw [mvs_s] at ih
    refine wX11_findMovers_12 ?_
    simp only [shM S1, cn, em, vm, c5, nI_1, ne_eq]
    refine ⟨trivial, Bf (cnt_le (by omega) hm) ⟨by decide, trivial, trivial, fun z => ?_, fun z => s_X11_isSo' (r := 0) K1 hm (by omega) (fun H2 sc => ?_)⟩⟩
    · rw [if_neg z] at ih; exact ih H e MM
    · rw [if_pos z] at ih
      have e2 := e.trans sc.same
      have S2 := e2.Sh S
      have E2 := sc.2.2.2.2
      have MM2 := MM.fr (H1 := H2) (fun a j q => E2 a j (by omega))
      refine zb_if (fun t => ?_) (fun t => ?_)
      · rw [if_pos ((truM_sm e.2).mp t)] at ih
        rw [(shM S2).1, MM2.2.2, nI_1]
        refine ⟨rfl, ih _ (e2.trans (zsame.sI (by unfold scr; omega))) ⟨?_, fun j hj => ?_, by rw [zI_sIs]⟩⟩
        · rw [zI_sIj (by decide)]; exact MM2.1
        · rw [zI_sIa (by decide)]; exact MM2.2.1 j hj
      · rw [if_neg (fun x => t ((truM_sm e.2).mpr x))] at ih
        have mb := (mvs_I (h := h) (pit := pit) (m := m)).1
        generalize mvs h pit m = mv at ih MM2 mb
        have en := nI_clamp (n := mv.1) (by omega)
        have vn : vp_in (nI mv.1) 24 := vp_in_nI (by omega) (by omega)
        simp only [shM S2, MM2.1, en, vn, ne_eq]
        refine ⟨trivial, by decide, trivial, trivial, fun a1 ea1 => ?_⟩
        have A1 : zsame H2 a1 := by rw [ea1]; exact zsame.sI (by unfold scr; omega)
        have A2 : ∀ a j, ¬ (a = 224 ∧ j = mv.1) → zI a1 a j = zI H2 a j := fun a j q => by rw [ea1, zI_sIn q]
        have A3 : zI a1 224 mv.1 = nI m := by rw [ea1, zI_sIs]
        clear ea1
        rw [(shM (A1.Sh S2)).1, A2 _ _ (by omega), MM2.1, nI_1]
        refine ⟨rfl, ih _ (e2.trans (A1.trans (zsame.sI (by unfold scr; omega)))) ⟨by rw [zI_sIs], fun j hj => ?_, ?_⟩⟩
        · show zI (zsI a1 200 24 _) 224 j = nI (ps mv.2.1 mv.1 m j)
          have hj' : j < mv.1 + 1 := hj
          rw [zI_sIa (by decide)]
          by_cases ej : j = mv.1
          · subst ej; rw [ps_s, A3]
          · rw [ps_n ej, A2 _ _ (by omega)]; exact MM2.2.1 j (by omega)
        · rw [zI_sIj (by decide), A2 _ _ (by omega)]; exact MM2.2.2
end FIND
