section CLOSE3
variable {g h : ZH} {np nm nh : Nat}
theorem s_X4_shut {ψ : ZH → Prop} {H : ZH} {p : Nat} (S : Sh H np nm nh) (hp : p < np) (h8 : np ≤ 8) (k : ∀ H1, zK H1 = zK H → zN H1 = zN H → zR H1 = zR H → (∀ a i, ¬ (a = 300 + 3 * p ∧ i = 5) → ¬ a = 302 + 3 * p → zI H1 a i = zI H a i) → zI H1 (300 + 3 * p) 5 = 0 → (∀ t, t < 3 → zI H1 (302 + 3 * p) t = 0) → ψ H1) : ZcV mX4_shut [.ref (300 + 3 * p)] H ψ := by
  have main := down (n := 3) (I := fun t => ∀ H1, zK H1 = zK H → zN H1 = zN H → zR H1 = zR H → (∀ a i, ¬ (a = 300 + 3 * p ∧ i = 5) → ¬ a = 302 + 3 * p → zI H1 a i = zI H a i) → zI H1 (300 + 3 * p) 5 = 0 → (∀ t', t' < t → zI H1 (302 + 3 * p) t' = 0) → Zt mX4_shut (zPV ψ) 0 0 7 [some (.ref (300 + 3 * p)), some (.int (nI t))] [] H1) ?_ ?_
  · exact wX4_shut ⟨(shPit S hp).2.1, main _ rfl rfl rfl (fun a i q1 q2 => zI_sIn q1) (by rw [zI_sIs]) (fun t' ht' => absurd ht' (by omega))⟩
  · intro H1 kk kn kr E c5 g
    exact wX4_shut_7 ⟨fun _ => k H1 kk kn kr E c5 g, fun z => absurd (by decide) z⟩
  · intro t ht ih H1 kk kn kr E c5 g
    have S1 : Sh H1 np nm nh := S.same kk kn kr
    have et := nI_clamp (n := t) (by omega)
    have vt : vp_in (nI t) 3 := vp_in_nI (by omega) (by omega)
    refine wX4_shut_7 ⟨fun z => absurd z (cnt_le (n := 3) (by omega) ht), fun _ => ?_⟩
    simp only [shPit S1 hp, et, vt, nI_1, ne_eq]
    refine ⟨trivial, by omega, trivial, trivial, ih _ kk kn kr (fun a i q1 q2 => by rw [zI_sIa q2]; exact E a i q1 q2) (by rw [zI_sIa (by omega)]; exact c5) (fun t' ht' => ?_)⟩
    by_cases e : t' = t
    · subst e; rw [zI_sIs]
    · rw [zI_sIj e]; exact g t' (by omega)
theorem s_X11_isMover {ψ : Int32 → ZH → Prop} {H : ZH} {mv : MVt} {m : Nat} (S : Sh H np nm nh) (MM : MMl H mv) (n9 : mv.1 ≤ 9) (hl : ∀ j, j < mv.1 → mv.2.1 j < 24) (hm : m < 24) (k1 : (∃ j, j < mv.1 ∧ mv.2.1 j = m) → ψ 1 H) (k0 : (∀ j, j < mv.1 → mv.2.1 j ≠ m) → ψ 0 H) : ZcI mX11_isMover [.ref 200, .int (nI m)] H ψ := by
  have main := down (n := mv.1) (I := fun j => ∀ f : Int32, ((f = 0 ∧ ∀ j', j' < j → mv.2.1 j' ≠ m) ∨ (f = 1 ∧ ∃ j', j' < mv.1 ∧ mv.2.1 j' = m)) → Zt mX11_isMover (zPI ψ) 0 0 4 [some (.ref 200), some (.int (nI m)), some (.int f), some (.int (nI j))] [] H) (fun f q => ?_) (fun j hj ih f q => ?_)
  · exact wX11_isMover (main 0 (Or.inl ⟨rfl, fun j' hj' => absurd hj' (by omega)⟩))
  · refine wX11_isMover_4 ⟨(shM S).1, fun _ => ?_, fun z => absurd (by rw [MM.1]; exact Int32.le_refl _) z⟩
    rcases q with ⟨rfl, q⟩ | ⟨rfl, q⟩
    · exact ⟨Or.inl rfl, k0 q⟩
    · exact ⟨Or.inr rfl, k1 q⟩
  · have ej := nI_clamp (n := j) (by omega)
    have vj : vp_in (nI j) 24 := vp_in_nI (by omega) (by omega)
    have hlj := hl j hj
    refine wX11_isMover_4 ⟨(shM S).1, fun z => absurd z (by rw [MM.1]; exact cnt_le (by omega) hj), fun _ => ?_⟩
    rw [nI_1]
    rcases q with ⟨rfl, q⟩ | ⟨rfl, q⟩
    · refine ⟨fun z => absurd rfl z, fun _ => ?_⟩
      simp only [shM S, ej, vj, MM.2.1 j hj, ne_eq]
      refine ⟨by decide, trivial, trivial, fun z => ih 0 (Or.inl ⟨rfl, fun j' hj' e => ?_⟩), fun z => ih 1 (Or.inr ⟨rfl, j, hj, nI_inj' (by omega) (by omega) z⟩)⟩
      by_cases ee : j' = j
      · subst ee; exact z (by rw [e])
      · exact q j' (by omega) e
    · exact ⟨fun _ => ih 1 (Or.inr ⟨rfl, q⟩), fun z => absurd z (by decide)⟩
/-- what the model's closing has changed -/
def FMc (H H1 : ZH) : Prop := zK H1 = zK H ∧ zN H1 = zN H ∧ zR H1 = zR H ∧ ∀ a i, ¬ (a = 215 ∨ a = 217 ∨ a = 209 ∨ a = 208) → zI H1 a i = zI H a i
set_option maxHeartbeats 4000000 in
theorem s_X11_closeL {ψ : Int32 → ZH → Prop} {H : ZH} {pit : Nat} {sl : SLt} {mv : MVt} {w : Int32} (Q : MQ' h np nm nh) (I : CI h np nm pit sl mv) (C : C5 g h H sl mv) (hpit : pit < np)
    (k : ∀ H1, FMc H H1 → MV1 h nm pit sl mv (fun m => zI H1 215 m) (fun m => zI H1 217 m) mv.1 → (∀ p t, p < np → t < 3 → p ≠ pit → zI H1 209 (3 * p + t) = nI (pnN h p t - cgS sl (chi h sl mv) mv.1 p t)) → (∀ t, t < 3 → zI H1 209 (3 * pit + t) = 0) → (∀ i, 3 * np ≤ i → zI H1 209 i = zI H 209 i) → zI H1 208 pit = 0 → (∀ p, p ≠ pit → zI H1 208 p = zI H 208 p) → ψ w H1) :
    Zt mX11_close (zPI ψ) 0 0 52 [some (.ref 200), some (.int (nI pit)), some (.int w), some (.int 0)] [] H := by
  have K := Q.1
  have h8 := K.2.2.1
  have h24 := K.2.2.2.1
  obtain ⟨zr, SS, MM, c31, cL⟩ := C
  have S := zr.Sh K.1
  have E := zr.2.2.2.2
  have I0 := I
  obtain ⟨i1, i2, i3, i4, i5, i6, i7, i8⟩ := I
  have hl : ∀ j, j < mv.1 → mv.2.1 j < 24 := fun j hj => by have := (i4 j hj).1; omega
  have ep := nI_clamp (n := pit) (by omega)
  have vpp : vp_in (nI pit) 8 := vp_in_nI (by omega) (by omega)
  have ofFM : ∀ H1, FMc H H1 → Sh H1 np nm nh ∧ SMl H1 sl ∧ MMl H1 mv ∧ zI H1 200 17 = nI nm ∧ ∀ j, j < mv.1 → zI H1 231 j = if chi h sl mv j = 12 then -6 else nI (chi h sl mv j) := fun H1 F => by
    refine ⟨S.same F.1 F.2.1 F.2.2.1, SS.fr (fun a i q => F.2.2.2 a i (by omega)), MM.fr (fun a i q => F.2.2.2 a i (by omega)), ?_, fun j hj => ?_⟩
    · rw [F.2.2.2 _ _ (by omega), E _ _ (by unfold scx scr; omega)]; exact Q.2.2.2.1
    · rw [F.2.2.2 _ _ (by omega)]; exact c31 j hj
  -- the pit itself
  have third : ∀ H1, FMc H H1 → MV1 h nm pit sl mv (fun m => zI H1 215 m) (fun m => zI H1 217 m) mv.1 → PV1 h np sl mv (fun p t => zI H1 209 (3 * p + t)) mv.1 → (∀ i, 3 * np ≤ i → zI H1 209 i = zI H 209 i) → zI H1 208 pit = 0 → (∀ p, p ≠ pit → zI H1 208 p = zI H 208 p) → Zt mX11_close (zPI ψ) 0 0 194 [some (.ref 200), some (.int (nI pit)), some (.int w), some (.int 0)] [] H1 := by
    intro H1 F1 M1 P1 T1 O1 O2
    have main := down (n := 3) (I := fun t => ∀ H2, FMc H H2 → MV1 h nm pit sl mv (fun m => zI H2 215 m) (fun m => zI H2 217 m) mv.1 → (∀ p t, p < np → t < 3 → p ≠ pit → zI H2 209 (3 * p + t) = nI (pnN h p t - cgS sl (chi h sl mv) mv.1 p t)) → (∀ t', t' < t → zI H2 209 (3 * pit + t') = 0) → (∀ i, 3 * np ≤ i → zI H2 209 i = zI H 209 i) → zI H2 208 pit = 0 → (∀ p, p ≠ pit → zI H2 208 p = zI H 208 p) → Zt mX11_close (zPI ψ) 0 0 194 [some (.ref 200), some (.int (nI pit)), some (.int w), some (.int (nI t))] [] H2) ?_ ?_
    · exact main H1 F1 M1 (fun p t hp ht _ => P1 p t hp ht) (fun t' ht' => absurd ht' (by omega)) T1 O1 O2
    · intro H2 F2 M2 P2 Z2 T2 O3 O4
      exact wX11_close_194 ⟨fun _ => k H2 F2 M2 P2 Z2 T2 O3 O4, fun z => absurd (by decide) z⟩
    · intro t ht ih H2 F2 M2 P2 Z2 T2 O3 O4
      have S2 := (ofFM H2 F2).1
      have b3 : 3 * nI pit + nI t = nI (3 * pit + t) := by rw [nI_lit3, nI_mul, nI_add]
      have e3 := nI_clamp (n := 3 * pit + t) (by omega)
      have v3 : vp_in (nI (3 * pit + t)) 24 := vp_in_nI (by omega) (by omega)
      refine wX11_close_194 ⟨fun z => absurd z (cnt_le (n := 3) (by omega) ht), fun _ => ?_⟩
      simp only [shM S2, b3, e3, v3, nI_1, ne_eq]
      refine ⟨trivial, by decide, trivial, trivial, ih _ ⟨F2.1, F2.2.1, F2.2.2.1, fun a i q => by rw [zI_sIa (by omega)]; exact F2.2.2.2 a i q⟩ ?_ (fun p t' hp ht' ne => by rw [zI_sIj (by omega)]; exact P2 p t' hp ht' ne) (fun t' ht' => ?_) (fun i hi => by rw [zI_sIj (by omega)]; exact T2 i hi) (by rw [zI_sIa (by decide)]; exact O3) (fun p hp => by rw [zI_sIa (by decide)]; exact O4 p hp)⟩
      · have e1 : (fun m => zI (zsI H2 209 (3 * pit + t) 0) 215 m) = (fun m => zI H2 215 m) := funext fun m => zI_sIa (by decide)
        have e2 : (fun m => zI (zsI H2 209 (3 * pit + t) 0) 217 m) = (fun m => zI H2 217 m) := funext fun m => zI_sIa (by decide)
        rw [e1, e2]; exact M2
      · by_cases e : t' = t
        · subst e; rw [zI_sIs]
        · rw [zI_sIj (by omega)]; exact Z2 t' (by omega)
  -- the movers
  have second : ∀ H1, FMc H H1 → MV1 h nm pit sl mv (fun m => zI H1 215 m) (fun m => zI H1 217 m) 0 → PV1 h np sl mv (fun p t => zI H1 209 (3 * p + t)) 0 → (∀ i, 3 * np ≤ i → zI H1 209 i = zI H 209 i) → (∀ p, zI H1 208 p = zI H 208 p) → Zt mX11_close (zPI ψ) 0 0 92 [some (.ref 200), some (.int (nI pit)), some (.int w), some (.int 0)] [] H1 := by
    intro H1 F1 M1 P1 T1 O1
    have main := down (n := mv.1) (I := fun j => ∀ H2, FMc H H2 → MV1 h nm pit sl mv (fun m => zI H2 215 m) (fun m => zI H2 217 m) j → PV1 h np sl mv (fun p t => zI H2 209 (3 * p + t)) j → (∀ i, 3 * np ≤ i → zI H2 209 i = zI H 209 i) → (∀ p, zI H2 208 p = zI H 208 p) → Zt mX11_close (zPI ψ) 0 0 92 [some (.ref 200), some (.int (nI pit)), some (.int w), some (.int (nI j))] [] H2) ?_ ?_
    · exact main H1 F1 M1 P1 T1 O1
    · intro H2 F2 M2 P2 T2 O2
      obtain ⟨S2, SS2, MM2, _⟩ := ofFM H2 F2
      refine wX11_close_92 ⟨(shM S2).1, fun _ => ?_, fun z => absurd (by rw [MM2.1]; exact Int32.le_refl _) z⟩
      simp only [shM S2, ep, vpp, ne_eq]
      refine ⟨by decide, trivial, trivial, third _ ⟨F2.1, F2.2.1, F2.2.2.1, fun a i q => by rw [zI_sIa (by omega)]; exact F2.2.2.2 a i q⟩ ?_ (fun p t hp ht => ?_) (fun i hi => by rw [zI_sIa (by decide)]; exact T2 i hi) (by rw [zI_sIs]) (fun p hp => by rw [zI_sIj hp]; exact O2 p)⟩
      · have e1 : (fun m => zI (zsI H2 208 pit 0) 215 m) = (fun m => zI H2 215 m) := funext fun m => zI_sIa (by decide)
        have e2 : (fun m => zI (zsI H2 208 pit 0) 217 m) = (fun m => zI H2 217 m) := funext fun m => zI_sIa (by decide)
        rw [e1, e2]; exact M2
      · show zI (zsI H2 208 pit 0) 209 (3 * p + t) = _
        rw [zI_sIa (by decide)]; exact P2 p t hp ht
    · intro j hj ih H2 F2 M2 P2 T2 O2
      obtain ⟨S2, SS2, MM2, _, c312⟩ := ofFM H2 F2
      obtain ⟨hm, hmp, hmt⟩ := i4 j hj
      have ej := nI_clamp (n := j) (by omega)
      have vj : vp_in (nI j) 24 := vp_in_nI (by omega) (by omega)
      have vj9 : vp_in (nI j) 9 := vp_in_nI (by omega) (by omega)
      have em := nI_clamp (n := mv.2.1 j) (by omega)
      have vm : vp_in (nI (mv.2.1 j)) 24 := vp_in_nI (by omega) (by omega)
      have at_ := M2.at I0 hj
      have cj := c312 j hj
      refine wX11_close_92 ⟨(shM S2).1, fun z => absurd z (by rw [MM2.1]; exact cnt_le (by omega) hj), fun _ => ?_⟩
      simp only [shM S2, ej, vj, vj9, MM2.2.1 j hj, em, vm, nI_1, ne_eq]
      rw [cj]
      by_cases c : chi h sl mv j = 12
      · rw [if_pos c]
        refine ⟨by decide, trivial, trivial, fun z => absurd z (by decide), fun _ => ⟨by decide, trivial, trivial, wX11_become ?_⟩⟩
        simp only [shM S2, em, vm, ne_eq]
        refine ⟨trivial, by decide, trivial, trivial, by decide, trivial, trivial, ih _ ⟨F2.1, F2.2.1, F2.2.2.1, fun a i q => by rw [zI_sIa (by omega), zI_sIa (by omega)]; exact F2.2.2.2 a i q⟩ (M2.next I0 hj (fun m q => ?_) (fun m q => ?_) ?_ ?_) (fun p t hp ht => ?_) (fun i hi => by rw [zI_sIa (by decide), zI_sIa (by decide)]; exact T2 i hi) (fun p => by rw [zI_sIa (by decide), zI_sIa (by decide)]; exact O2 p)⟩
        · show zI (zsI (zsI H2 217 (mv.2.1 j) 3) 215 (mv.2.1 j) (-6)) 215 m = _
          rw [zI_sIj q, zI_sIa (by decide)]
        · show zI (zsI (zsI H2 217 (mv.2.1 j) 3) 215 (mv.2.1 j) (-6)) 217 m = _
          rw [zI_sIa (by decide), zI_sIj q]
        · show zI (zsI (zsI H2 217 (mv.2.1 j) 3) 215 (mv.2.1 j) (-6)) 215 (mv.2.1 j) = _
          unfold vBm
          rw [zI_sIs, if_pos c]
        · show zI (zsI (zsI H2 217 (mv.2.1 j) 3) 215 (mv.2.1 j) (-6)) 217 (mv.2.1 j) = _
          unfold vBm
          rw [zI_sIa (by decide), zI_sIs, if_pos c]
        · show zI (zsI (zsI H2 217 (mv.2.1 j) 3) 215 (mv.2.1 j) (-6)) 209 (3 * p + t) = _
          rw [zI_sIa (by decide), zI_sIa (by decide), cgS_s, if_neg (fun q => q.1 c), Nat.add_zero]
          exact P2 p t hp ht
      · rw [if_neg c]
        obtain ⟨s1, s2⟩ := i7 j hj c
        obtain ⟨t1, t2, t3⟩ := i3 _ s1
        have ec := nI_clamp (n := chi h sl mv j) (by omega)
        have vc : vp_in (nI (chi h sl mv j)) 12 := vp_in_nI (by omega) (by omega)
        simp only [ec, vc, (SS2.2.2 _ s1).1]
        refine ⟨by decide, trivial, trivial, fun _ => ⟨by decide, by decide, trivial, trivial, by decide, trivial, trivial, trivial, trivial, by decide, fun h22 e22 => ?_⟩, fun z => absurd (nI_pos' (by omega)) z⟩
        have A1 : zK h22 = zK H2 ∧ zN h22 = zN H2 ∧ zR h22 = zR H2 := by rw [e22]; exact ⟨rfl, rfl, rfl⟩
        have A2 : ∀ a i, ¬ (a = 215 ∧ i = mv.2.1 j) → zI h22 a i = zI H2 a i := fun a i q => by rw [e22, zI_sIn q]
        have A3 : zI h22 215 (mv.2.1 j) = nI (sl.2.1 (chi h sl mv j)) := by rw [e22, zI_sIs]
        clear e22
        have S3 : Sh h22 np nm nh := S2.same A1.1 A1.2.1 A1.2.2
        have c31' : zI h22 231 j = nI (chi h sl mv j) := by rw [A2 _ _ (by omega), cj, if_neg c]
        have c27 : zI h22 227 (chi h sl mv j) = nI (sl.2.1 (chi h sl mv j)) := by rw [A2 _ _ (by omega)]; exact (SS2.2.2 _ s1).1
        have c28 : zI h22 228 (chi h sl mv j) = nI (sl.2.2 (chi h sl mv j)) := by rw [A2 _ _ (by omega)]; exact (SS2.2.2 _ s1).2
        have b3 : 3 * nI (sl.2.1 (chi h sl mv j)) + nI (sl.2.2 (chi h sl mv j)) = nI (3 * sl.2.1 (chi h sl mv j) + sl.2.2 (chi h sl mv j)) := by rw [nI_lit3, nI_mul, nI_add]
        have e3 := nI_clamp (n := 3 * sl.2.1 (chi h sl mv j) + sl.2.2 (chi h sl mv j)) (by omega)
        have v3 : vp_in (nI (3 * sl.2.1 (chi h sl mv j) + sl.2.2 (chi h sl mv j))) 24 := vp_in_nI (by omega) (by omega)
        have cg := i8 (sl.2.1 (chi h sl mv j)) (sl.2.2 (chi h sl mv j)) (j + 1) hj
        rw [cgS_s, if_pos ⟨c, rfl, rfl⟩] at cg
        have post : zI h22 209 (3 * sl.2.1 (chi h sl mv j) + sl.2.2 (chi h sl mv j)) = nI (pnN h (sl.2.1 (chi h sl mv j)) (sl.2.2 (chi h sl mv j)) - cgS sl (chi h sl mv) j (sl.2.1 (chi h sl mv j)) (sl.2.2 (chi h sl mv j))) := by rw [A2 _ _ (by omega)]; exact P2 _ _ t1 t2
        simp only [shM S3, ej, vj9, c31', ec, vc, c27, c28, b3, e3, v3, post, pn_dec cg]
        refine ⟨trivial, trivial, trivial, trivial, trivial, by decide, by decide, trivial, trivial, trivial, trivial, trivial, trivial, ih _ ⟨A1.1.trans F2.1, A1.2.1.trans F2.2.1, A1.2.2.trans F2.2.2.1, fun a i q => by rw [zI_sIa (by omega), A2 _ _ (by omega)]; exact F2.2.2.2 a i q⟩ (M2.next I0 hj (fun m q => ?_) (fun m q => ?_) ?_ ?_) (fun p t hp ht => ?_) (fun i hi => by rw [zI_sIj (by omega), A2 _ _ (by omega)]; exact T2 i hi) (fun p => by rw [zI_sIa (by decide), A2 _ _ (by omega)]; exact O2 p)⟩
        · show zI (zsI h22 209 _ _) 215 m = _
          rw [zI_sIa (by decide), A2 _ _ (fun z => q z.2)]
        · show zI (zsI h22 209 _ _) 217 m = _
          rw [zI_sIa (by decide), A2 _ _ (by omega)]
        · show zI (zsI h22 209 _ _) 215 (mv.2.1 j) = _
          unfold vBm
          rw [zI_sIa (by decide), A3, if_neg c]
        · show zI (zsI h22 209 _ _) 217 (mv.2.1 j) = _
          unfold vBm
          rw [zI_sIa (by decide), A2 _ _ (by omega), if_neg c]
          exact at_.2
        · show zI (zsI h22 209 _ _) 209 (3 * p + t) = _
          by_cases eq : p = sl.2.1 (chi h sl mv j) ∧ t = sl.2.2 (chi h sl mv j)
          · rw [eq.1, eq.2, zI_sIs, cgS_s, if_pos ⟨c, rfl, rfl⟩]
          · rw [zI_sIj (fun z => eq ⟨by omega, by omega⟩), A2 _ _ (by omega), cgS_s, if_neg (fun z => eq ⟨z.2.1.symm, z.2.2.symm⟩), Nat.add_zero]
            exact P2 p t hp ht
  -- those who are bridged
  have first := down (n := nm) (I := fun n => ∀ H1, FMc H H1 → (∀ i, zI H1 209 i = zI H 209 i) → (∀ p, zI H1 208 p = zI H 208 p) → (∀ m, m < n → zI H1 215 m = (vAm h pit m).1 ∧ zI H1 217 m = (vAm h pit m).2) → (∀ m, n ≤ m → m < nm → zI H1 215 m = zI h 215 m ∧ zI H1 217 m = zI h 217 m) → Zt mX11_close (zPI ψ) 0 0 52 [some (.ref 200), some (.int (nI pit)), some (.int w), some (.int (nI n))] [] H1) ?_ ?_
  · exact first H ⟨rfl, rfl, rfl, fun _ _ _ => rfl⟩ (fun _ => rfl) (fun _ => rfl) (fun m hm => absurd hm (by omega)) (fun m _ hm => ⟨E _ _ (by unfold scx scr; omega), E _ _ (by unfold scx scr; omega)⟩)
  · intro H1 F1 P1 O1 g1 g2
    obtain ⟨S1, _, _, cm1, _⟩ := ofFM H1 F1
    refine wX11_close_52 ⟨(shM S1).1, fun _ => second H1 F1 ⟨fun j hj => absurd hj (by omega), fun m hm _ => g1 m hm⟩ (fun p t hp ht => ?_) (fun i _ => P1 i) O1, fun z => absurd (by rw [cm1]; exact Int32.le_refl _) z⟩
    show zI H1 209 (3 * p + t) = nI (pnN h p t - 0)
    rw [P1, E _ _ (by unfold scx scr; omega), Nat.sub_zero]
    exact (Q.post hp ht).2.1
  · intro n hn ih H1 F1 P1 O1 g1 g2
    obtain ⟨S1, SS1, MM1, cm1, _⟩ := ofFM H1 F1
    have en := nI_clamp (n := n) (by omega)
    have vn : vp_in (nI n) 24 := vp_in_nI (by omega) (by omega)
    obtain ⟨w4, w6⟩ := g2 n (Nat.le_refl _) hn
    have stay : ¬ (zI h 215 n = nI pit ∧ truM h 0 n) → Zt mX11_close (zPI ψ) 0 0 52 [some (.ref 200), some (.int (nI pit)), some (.int w), some (.int (nI (n + 1)))] [] H1 := fun q => by
      refine ih H1 F1 P1 O1 (fun m hm => ?_) (fun m h1 h2 => g2 m (by omega) h2)
      by_cases em : m = n
      · subst em
        unfold vAm
        rw [if_neg q]
        exact ⟨w4, w6⟩
      · exact g1 m (by omega)
    refine wX11_close_52 ?_
    simp only [shM S1, cm1, w4, en, vn, nI_1, ne_eq]
    refine ⟨trivial, Bf (cnt_le (by omega) hn) ⟨by decide, trivial, trivial, fun z => stay (fun q => z q.1), fun z => s_X11_isMover S1 MM1 i2 hl (by omega) (fun ⟨j, hj, ej⟩ => N1 (stay (fun q => ?_))) (fun gg => N0 ⟨(shM S1).1, wX11_become ?_⟩)⟩⟩
    · rw [← ej] at q
      exact (i4 j hj).2.2 q.2
    · have tr : truM h 0 n := Classical.not_not.mp (fun q => by
        obtain ⟨i, hi, ei⟩ := i6 n hn z q
        exact gg i hi ei)
      simp only [shM S1, en, vn, ne_eq]
      refine ⟨trivial, by decide, trivial, trivial, by decide, trivial, trivial, ih _ ⟨F1.1, F1.2.1, F1.2.2.1, fun a i q => by rw [zI_sIa (by omega), zI_sIa (by omega)]; exact F1.2.2.2 a i q⟩ (fun i => by rw [zI_sIa (by decide), zI_sIa (by decide)]; exact P1 i) (fun p => by rw [zI_sIa (by decide), zI_sIa (by decide)]; exact O1 p) (fun m hm => ?_) (fun m h1 h2 => ?_)⟩
      · by_cases em : m = n
        · subst em
          unfold vAm
          rw [zI_sIs, zI_sIa (by decide), zI_sIs, if_pos ⟨z, tr⟩]
          exact ⟨rfl, rfl⟩
        · rw [zI_sIj em, zI_sIa (by decide), zI_sIa (by decide), zI_sIj em]; exact g1 m (by omega)
      · have em : m ≠ n := by omega
        rw [zI_sIj em, zI_sIa (by decide), zI_sIa (by decide), zI_sIj em]; exact g2 m (by omega) h2
end CLOSE3
