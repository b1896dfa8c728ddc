section CLOSE2
variable {h : ZH} {np nm nh : Nat}
theorem pn_dec {a c : Nat} (h : c + 1 ≤ a) : nI (a - c) - 1 = nI (a - (c + 1)) := by
  obtain ⟨d, rfl⟩ : ∃ d, a = c + 1 + d := ⟨a - (c + 1), by omega⟩
  rw [show c + 1 + d - c = d + 1 by omega, show c + 1 + d - (c + 1) = d by omega, nI_pred]
/-- what the class's closing has changed -/
def FCc (H H1 : ZH) : Prop := zK H1 = zK H ∧ zN H1 = zN H ∧ zR H1 = zR H ∧ ∀ a i, ¬ (400 ≤ a ∧ a < 424 ∧ (i = 4 ∨ i = 6)) → (∀ p, p < 8 → a ≠ 302 + 3 * p) → zI H1 a i = zI H a i
set_option maxHeartbeats 4000000 in
theorem s_X10_carry {ψ : ZH → Prop} {H : ZH} {pit : Nat} {sl : SLt} {mv : MVt} (Q : MQ' h np nm nh) (I : CI h np nm pit sl mv) (C : C4 h H sl mv) (hpit : pit < np) (k : ∀ H1, FCc H H1 → MV1 h nm pit sl mv (fun m => zI H1 (400 + m) 4) (fun m => zI H1 (400 + m) 6) mv.1 → PV1 h np sl mv (fun p t => zI H1 (302 + 3 * p) t) mv.1 → ψ H1) : ZcV mX10_carryOutMove [.ref 10, .int (nI pit)] H ψ := by
  have K := Q.1
  have h8 := K.2.2.1
  have h24 := K.2.2.2.1
  have M := K.2.2.2.2.2.2.1
  obtain ⟨e, SS, c4, n9, cl, c7, c39, _⟩ := C
  have S := e.Sh K.1
  have E := e.2.2.2
  have I0 := I
  obtain ⟨i1, i2, i3, i4, i5, i6, i7, i8⟩ := I
  have m4 : ∀ m, m < nm → zI H (400 + m) 4 = zI h 215 m ∧ zI H (400 + m) 6 = zI h 217 m ∧ zI H (400 + m) 1 = zI h 212 m := fun m hm => by
    have w := M m hm
    rw [E _ _ (by unfold scr; omega), E _ _ (by unfold scr; omega), E _ _ (by unfold scr; omega)]
    exact ⟨w.2.2.2.2.1, w.2.2.2.2.2.2.1, w.2.1⟩
  -- the movers
  have second : ∀ H1, FCc H H1 → MV1 h nm pit sl mv (fun m => zI H1 (400 + m) 4) (fun m => zI H1 (400 + m) 6) 0 → PV1 h np sl mv (fun p t => zI H1 (302 + 3 * p) t) 0 → Zt mX10_carryOutMove (zPV ψ) 0 0 54 [some (.ref 10), none, some (.int 0), none, none] [] H1 := by
    intro H1 F1 M1 P1
    have main := down (n := mv.1) (I := fun j => ∀ H2, FCc H H2 → MV1 h nm pit sl mv (fun m => zI H2 (400 + m) 4) (fun m => zI H2 (400 + m) 6) j → PV1 h np sl mv (fun p t => zI H2 (302 + 3 * p) t) j → Zt mX10_carryOutMove (zPV ψ) 0 0 54 [some (.ref 10), none, some (.int (nI j)), none, none] [] H2) ?_ ?_
    · exact main H1 F1 M1 P1
    · intro H2 F2 M2 P2
      have S2 := S.same F2.1 F2.2.1 F2.2.2.1
      have c42 : zI H2 35 4 = nI mv.1 := by rw [F2.2.2.2 _ _ (by omega) (fun p hp => by omega)]; exact c4
      refine wX10_carryOutMove_54 ?_
      simp only [shX S2, shRe S2, c42, ne_eq]
      exact ⟨trivial, by decide, trivial, fun _ => k H2 F2 M2 P2, fun z => absurd (Int32.le_refl _) z⟩
    · intro j hj ih H2 F2 M2 P2
      have S2 := S.same F2.1 F2.2.1 F2.2.2.1
      have E2 := F2.2.2.2
      have c42 : zI H2 35 4 = nI mv.1 := by rw [E2 _ _ (by omega) (fun p hp => by omega)]; exact c4
      have c38 : zI H2 38 j = nI (mv.2.1 j) := by rw [E2 _ _ (by omega) (fun p hp => by omega)]; exact cl j hj
      have c392 : zI H2 39 j = if chi h sl mv j = 12 then -6 else nI (chi h sl mv j) := by rw [E2 _ _ (by omega) (fun p hp => by omega)]; exact c39 j hj
      obtain ⟨hm, hmp, hmt⟩ := i4 j hj
      have ej := nI_clamp (n := j) (by omega)
      have vj : vp_in (nI j) 9 := vp_in_nI (by omega) (by omega)
      have em := nI_clamp (n := mv.2.1 j) (by omega)
      have vm : vp_in (nI (mv.2.1 j)) 24 := vp_in_nI (by omega) (by omega)
      have at_ := M2.at I0 hj
      refine wX10_carryOutMove_54 ?_
      simp only [shX S2, shRe S2, shMan S2 hm, c42, c38, c392, ej, vj, em, vm, nI_1, ne_eq]
      refine ⟨trivial, by decide, trivial, Bf (cnt_le (by omega) hj) ⟨by decide, by decide, trivial, trivial, trivial, trivial, by omega, by decide, trivial, trivial, fun v14 e14 => ?_⟩⟩
      subst e14
      by_cases c : chi h sl mv j = 12
      · rw [if_pos c]
        refine ⟨fun z => absurd rfl z, fun _ => ⟨trivial, wX1_quit ⟨(shMan S2 hm).2, ih _ ⟨F2.1, F2.2.1, F2.2.2.1, fun a i q1 q2 => ?_⟩ (M2.next I0 hj (fun m q => ?_) (fun m q => ?_) ?_ ?_) (fun p t hp ht => ?_)⟩⟩⟩
        · rw [zI_sIn (by omega), zI_sIn (by omega)]; exact E2 a i q1 q2
        · show zI (zsI (zsI H2 (400 + mv.2.1 j) 6 3) (400 + mv.2.1 j) 4 (-6)) (400 + m) 4 = _
          rw [zI_sIa (by omega), zI_sIa (by omega)]
        · show zI (zsI (zsI H2 (400 + mv.2.1 j) 6 3) (400 + mv.2.1 j) 4 (-6)) (400 + m) 6 = _
          rw [zI_sIa (by omega), zI_sIa (by omega)]
        · show zI (zsI (zsI H2 (400 + mv.2.1 j) 6 3) (400 + mv.2.1 j) 4 (-6)) (400 + mv.2.1 j) 4 = _
          unfold vBm
          rw [zI_sIs, if_pos c]
        · show zI (zsI (zsI H2 (400 + mv.2.1 j) 6 3) (400 + mv.2.1 j) 4 (-6)) (400 + mv.2.1 j) 6 = _
          unfold vBm
          rw [zI_sIj (by decide), zI_sIs, if_pos c]
        · show zI (zsI (zsI H2 (400 + mv.2.1 j) 6 3) (400 + mv.2.1 j) 4 (-6)) (302 + 3 * p) t = _
          rw [zI_sIa (by omega), zI_sIa (by omega), cgS_s, if_neg (fun q => q.1 c), Nat.add_zero]
          exact P2 p t hp ht
      · rw [if_neg c]
        obtain ⟨s1, s2⟩ := i7 j hj c
        obtain ⟨t1, t2, t3⟩ := i3 _ s1
        have c36 : zI H2 36 (chi h sl mv j) = nI (sl.2.1 (chi h sl mv j)) := by rw [E2 _ _ (by omega) (fun p hp => by omega)]; exact (SS.2.2 _ s1).1
        have ec := nI_clamp (n := chi h sl mv j) (by omega)
        have vc : vp_in (nI (chi h sl mv j)) 12 := vp_in_nI (by omega) (by omega)
        simp only [ec, vc, c36]
        refine ⟨fun _ => ⟨by decide, trivial, trivial, trivial, by decide, fun h21 e21 => ?_⟩, fun z => absurd z (nI_ne6 (by omega))⟩
        have A1 : zK h21 = zK H2 ∧ zN h21 = zN H2 ∧ zR h21 = zR H2 := by rw [e21]; exact ⟨rfl, rfl, rfl⟩
        have A2 : ∀ a i, ¬ (a = 400 + mv.2.1 j ∧ i = 4) → zI h21 a i = zI H2 a i := fun a i q => by rw [e21, zI_sIn q]
        have A3 : zI h21 (400 + mv.2.1 j) 4 = nI (sl.2.1 (chi h sl mv j)) := by rw [e21, zI_sIs]
        clear e21
        have S3 : Sh h21 np nm nh := S2.same A1.1 A1.2.1 A1.2.2
        have tr : zI h21 (400 + mv.2.1 j) 1 = nI (sl.2.2 (chi h sl mv j)) := by rw [A2 _ _ (by omega), E2 _ _ (by omega) (fun p hp => by omega), (m4 _ hm).2.2, s2]
        have ep := nI_clamp (n := sl.2.1 (chi h sl mv j)) (by omega)
        have vp : vp_in (nI (sl.2.1 (chi h sl mv j))) 8 := vp_in_nI (by omega) (by omega)
        have et := nI_clamp (n := sl.2.2 (chi h sl mv j)) (by omega)
        have vt : vp_in (nI (sl.2.2 (chi h sl mv j))) 3 := vp_in_nI (by omega) (by omega)
        have cg := i8 (sl.2.1 (chi h sl mv j)) (sl.2.2 (chi h sl mv j)) (j + 1) hj
        rw [cgS_s, if_pos ⟨c, rfl, rfl⟩] at cg
        have post : zI h21 (302 + 3 * sl.2.1 (chi h sl mv j)) (sl.2.2 (chi h sl mv j)) = nI (pnN h (sl.2.1 (chi h sl mv j)) (sl.2.2 (chi h sl mv j)) - cgS sl (chi h sl mv) j (sl.2.1 (chi h sl mv j)) (sl.2.2 (chi h sl mv j))) := by rw [A2 _ _ (by omega)]; exact P2 _ _ t1 t2
        have s3m := shMan S3 hm
        have s3p := shPit S3 t1
        simp only [shX S3, s3m, s3p, A3, tr, ep, vp, et, vt, post, pn_dec cg]
        refine ⟨trivial, trivial, trivial, by omega, trivial, by omega, trivial, trivial, ih _ ⟨A1.1.trans F2.1, A1.2.1.trans F2.2.1, A1.2.2.trans F2.2.2.1, fun a i q1 q2 => ?_⟩ (M2.next I0 hj (fun m q => ?_) (fun m q => ?_) ?_ ?_) (fun p t hp ht => ?_)⟩
        · have := q2 (sl.2.1 (chi h sl mv j)) (by omega)
          rw [zI_sIa this, A2 _ _ (by omega)]; exact E2 a i q1 q2
        · show zI (zsI h21 _ _ _) (400 + m) 4 = _
          rw [zI_sIa (by omega), A2 _ _ (by omega)]
        · show zI (zsI h21 _ _ _) (400 + m) 6 = _
          rw [zI_sIa (by omega), A2 _ _ (by omega)]
        · show zI (zsI h21 _ _ _) (400 + mv.2.1 j) 4 = _
          unfold vBm
          rw [zI_sIa (by omega), A3, if_neg c]
        · show zI (zsI h21 _ _ _) (400 + mv.2.1 j) 6 = _
          unfold vBm
          rw [zI_sIa (by omega), A2 _ _ (by omega), if_neg c]
          exact at_.2
        · show zI (zsI h21 _ _ _) (302 + 3 * p) t = _
          by_cases eq : p = sl.2.1 (chi h sl mv j) ∧ t = sl.2.2 (chi h sl mv j)
          · rw [eq.1, eq.2, zI_sIs, cgS_s, if_pos ⟨c, rfl, rfl⟩]
          · rw [zI_sIn (fun z => eq ⟨by omega, z.2⟩), A2 _ _ (by omega), cgS_s, if_neg (fun z => eq ⟨z.2.1.symm, z.2.2.symm⟩), Nat.add_zero]
            exact P2 p t hp ht
  -- those who are bridged
  have first := down (n := nm) (I := fun n => ∀ H1, FCc H H1 → (∀ p t, p < 8 → zI H1 (302 + 3 * p) t = zI H (302 + 3 * p) t) → (∀ m, m < n → zI H1 (400 + m) 4 = (vAm h pit m).1 ∧ zI H1 (400 + m) 6 = (vAm h pit m).2) → (∀ m, n ≤ m → m < nm → zI H1 (400 + m) 4 = zI h 215 m ∧ zI H1 (400 + m) 6 = zI h 217 m) → Zt mX10_carryOutMove (zPV ψ) 0 0 2 [some (.ref 10), some (.int (nI pit)), some (.int (nI n)), none, none] [] H1) ?_ ?_
  · exact wX10_carryOutMove (first H ⟨rfl, rfl, rfl, fun _ _ _ _ => rfl⟩ (fun _ _ _ => rfl) (fun m hm => absurd hm (by omega)) (fun m _ hm => ⟨(m4 m hm).1, (m4 m hm).2.1⟩))
  · intro H1 F1 P1 g1 g2
    have S1 := S.same F1.1 F1.2.1 F1.2.2.1
    have cm1 : zI H1 10 13 = nI nm := by rw [F1.2.2.2 _ _ (by omega) (fun p hp => by omega), E _ _ (by unfold scr; omega)]; exact Q.2.2.1
    refine wX10_carryOutMove_2 ⟨(shX S1).1, fun _ => second H1 F1 ⟨fun j hj => absurd hj (by omega), fun m hm _ => g1 m hm⟩ (fun p t hp ht => ?_), fun z => absurd (by rw [cm1]; exact Int32.le_refl _) z⟩
    show zI H1 (302 + 3 * p) t = nI (pnN h p t - 0)
    rw [P1 p t (by omega), E _ _ (by unfold scr; omega), Nat.sub_zero]
    exact (Q.post hp ht).1
  · intro n hn ih H1 F1 P1 g1 g2
    have S1 := S.same F1.1 F1.2.1 F1.2.2.1
    have E1 := F1.2.2.2
    have cm1 : zI H1 10 13 = nI nm := by rw [E1 _ _ (by omega) (fun p hp => by omega), E _ _ (by unfold scr; omega)]; exact Q.2.2.1
    have en := nI_clamp (n := n) (by omega)
    have vn : vp_in (nI n) 24 := vp_in_nI (by omega) (by omega)
    obtain ⟨w4, w6⟩ := g2 n (Nat.le_refl _) hn
    have stay : ¬ (zI h 215 n = nI pit ∧ truM h 0 n) → Zt mX10_carryOutMove (zPV ψ) 0 0 2 [some (.ref 10), some (.int (nI pit)), some (.int (nI (n + 1))), none, none] [] H1 := fun q => by
      refine ih H1 F1 P1 (fun m hm => ?_) (fun m h1 h2 => g2 m (by omega) h2)
      by_cases em : m = n
      · subst em
        unfold vAm
        rw [if_neg q]
        exact ⟨w4, w6⟩
      · exact g1 m (by omega)
    have c41 : zI H1 35 4 = nI mv.1 := by rw [E1 _ _ (by omega) (fun p hp => by omega)]; exact c4
    refine wX10_carryOutMove_2 ?_
    simp only [shX S1, shMan S1 hn, cm1, w4, en, vn, nI_1, ne_eq]
    refine ⟨trivial, Bf (cnt_le (by omega) hn) ⟨by decide, trivial, trivial, by omega, trivial, fun z => stay (fun q => z q.1), fun z => ⟨by decide, (shRe S1).1, s_X7_index S1 c41 n9 (fun j hj => ⟨by rw [E1 _ _ (by omega) (fun p hp => by omega)]; exact cl j hj, by have := (i4 j hj).1; omega⟩) (by omega) (fun j hj ej => ⟨fun _ => stay (fun q => ?_), fun w => absurd w (nI_ne6 (by omega))⟩) (fun g => ⟨fun w => absurd rfl w, fun _ => ?_⟩)⟩⟩⟩
    · rw [← ej] at q
      exact (i4 j hj).2.2 q.2
    · have tr : truM h 0 n := Classical.not_not.mp (fun q => by
        obtain ⟨i, hi, ei⟩ := i6 n hn z q
        exact g i hi ei)
      simp only [shX S1, shMan S1 hn, en, vn]
      refine ⟨trivial, by decide, trivial, trivial, by omega, trivial, wX1_quit ⟨(shMan S1 hn).2, ih _ ⟨F1.1, F1.2.1, F1.2.2.1, fun a i q1 q2 => ?_⟩ (fun p t hp8 => ?_) (fun m hm => ?_) (fun m h1 h2 => ?_)⟩⟩
      · rw [zI_sIn (by omega), zI_sIn (by omega)]; exact E1 a i q1 q2
      · rw [zI_sIa (by omega), zI_sIa (by omega)]; exact P1 p t hp8
      · by_cases em : m = n
        · subst em
          unfold vAm
          rw [zI_sIs, zI_sIj (by decide), zI_sIs, if_pos ⟨z, tr⟩]
          exact ⟨rfl, rfl⟩
        · rw [zI_sIa (by omega), zI_sIa (by omega), zI_sIa (by omega), zI_sIa (by omega)]; exact g1 m (by omega)
      · rw [zI_sIa (by omega), zI_sIa (by omega), zI_sIa (by omega), zI_sIa (by omega)]; exact g2 m (by omega) h2
end CLOSE2
