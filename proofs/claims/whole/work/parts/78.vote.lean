section VOTE
variable {h : ZH} {np nm nh : Nat} {i L : Nat} {xs : Nat → Int32}
theorem SC.rfl' : SC h h := ⟨rfl, rfl, rfl, rfl, fun _ _ _ => rfl⟩
theorem SM.rfl' : SM h h := ⟨rfl, rfl, rfl, rfl, fun _ _ _ => rfl⟩
theorem SC.trans {a b : ZH} (k : SC h a) (k2 : SC a b) : SC h b := ⟨k2.1.trans k.1, k2.2.1.trans k.2.1, k2.2.2.1.trans k.2.2.1, k2.2.2.2.1.trans k.2.2.2.1, fun x j q => (k2.2.2.2.2 x j q).trans (k.2.2.2.2 x j q)⟩
theorem SM.trans {a b : ZH} (k : SM h a) (k2 : SM a b) : SM h b := ⟨k2.1.trans k.1, k2.2.1.trans k.2.1, k2.2.2.1.trans k.2.2.1, k2.2.2.2.1.trans k.2.2.2.1, fun x j q => (k2.2.2.2.2 x j q).trans (k.2.2.2.2 x j q)⟩
/-- the class works a rule that is there -/
theorem s_X3_man {ψ : Int32 → ZH → Prop} {r m c : Nat} (k : LV h np nm nh) (hm : m < nm) (hr : r < 3) (h40 : c ≤ 40) (hc : zI h 221 r = nI c) (hc' : zI h (27 + 2 * r) 1 = nI c) (hs : ∀ i, i < c → zI h (28 + 2 * r) i = zI h 220 (40 * r + i)) (ok : okT (fun j => zI h 220 (40 * r + j)) c)
    (q : ∀ H, SC h H → ψ (evM h r m) H) : ZcI mX3_result [.ref 33, .ref (27 + 2 * r), .ref (400 + m), .int (wyM h m)] h ψ := by
  have S := k.1
  obtain ⟨m1, m2, m3, m4, m5, m6, m7, m8, m9, m10, m11, m12, m13, m14⟩ := k.2.2.2.2.2.2.1 m hm
  have hR := shRule S hr
  have a28 : 28 + 2 * r = 27 + 2 * r + 1 := by omega
  rw [a28] at hR hs
  have he : evM h r m = evR (fun j => zI h 220 (40 * r + j)) (fcM h m) c := by unfold evM; rw [hc, nI_clamp (by omega)]
  rw [he] at q
  refine s_X3_result (shPi S) (by omega) ⟨hR.2.1, hR.2.2.1, hR.2.2.2.1, hR.2.2.2.2, hc', h40, fun j hj => hs j hj⟩ ok (by omega) (shMan S hm).2 m1.symm m3.symm m2.symm m6.symm (by rw [m6]; exact m12) rfl q
theorem s_X10_isTrue {ψ : Int32 → ZH → Prop} {r m : Nat} (k : LV h np nm nh) (hm : m < nm) (hr : r < 3) (q : ∀ H, SC h H → ψ (zb (truM h r m)) H) : ZcI mX10_isTrue [.ref 10, .int (nI r), .ref (400 + m)] h ψ := by
  have S := k.1
  have e1 := nI_clamp (n := r) (by omega)
  have v1 : vp_in (nI r) 3 := vp_in_nI (by omega) (by omega)
  refine wX10_isTrue ?_
  simp only [shX S, shRule S hr, e1, v1, ne_eq]
  refine ⟨trivial, by decide, trivial, trivial, Nat.ne_of_gt (by omega), trivial, ?_⟩
  rcases k.2.2.2.2.2.2.2 r hr with ⟨x1, x2⟩ | ⟨c, y1, y2, y3, y4, y5, y6⟩
  · have f : ¬ truM h r m := fun z => z.1 (by rw [x1]; decide)
    have := q h SC.rfl'
    rw [zb_f f] at this
    exact ⟨fun _ => this, fun z => absurd (by rw [x2]; decide) z⟩
  · refine ⟨fun z => absurd z (by rw [y4]; exact cnt_le (n := c) (k := 0) (by omega) (by omega)), fun _ => ⟨by decide, s_X10_wayToWork k hm ⟨(shPi S).1, s_X3_man k hm hr y2 y3 y4 y5 y6 (fun H sc => ⟨fun z => ?_, fun z => ?_⟩)⟩⟩⟩
    · have := q H sc
      rw [zb_f (fun x => x.2 z)] at this
      exact this
    · have := q H sc
      rw [zb_t ⟨by rw [y3]; exact nI_pos (by omega), z⟩] at this
      exact this
theorem s_X11_isSo {ψ : Int32 → ZH → Prop} {r m : Nat} (k : LV h np nm nh) (hm : m < nm) (hr : r < 3) (q : ∀ H, SM h H → ψ (zb (truM h r m)) H) : ZcI mX11_isSo [.ref 200, .int (nI r), .int (nI m)] h ψ := by
  have S := k.1
  have e1 := nI_clamp (n := r) (by omega)
  have v1 : vp_in (nI r) 4 := vp_in_nI (by omega) (by omega)
  refine wX11_isSo ?_
  simp only [shM S, e1, v1, ne_eq]
  refine ⟨trivial, by decide, trivial, trivial, ?_⟩
  rcases k.2.2.2.2.2.2.2 r hr with ⟨x1, x2⟩ | ⟨c, y1, y2, y3, y4, y5, y6⟩
  · have f : ¬ truM h r m := fun z => z.1 (by rw [x1]; decide)
    have := q h SM.rfl'
    rw [zb_f f] at this
    exact ⟨fun _ => this, fun z => absurd (by rw [x1]; decide) z⟩
  · have n0 : ¬ zI h 221 r < 0 := by rw [y3]; exact nI_pos (by omega)
    refine ⟨fun z => absurd z n0, fun _ => s_X11_worthOf k hm hr y3 y2 y6 (fun H sm => ⟨fun z => ?_, fun z => ?_⟩)⟩
    · have := q H sm
      rw [zb_f (fun x => x.2 z)] at this
      exact this
    · have := q H sm
      rw [zb_t ⟨n0, z⟩] at this
      exact this
set_option maxHeartbeats 4000000 in
theorem op_worth {l1 l2 : Int32} (J : Jx h i L xs) : ZcI mX10_worth [.ref 10, .int l1, .int l2] h (fun v h1 => ZcI mX11_worth [.ref 200, .int l1, .int l2] h1 (fun v' h2 => v = v' ∧ Jx h2 (i + 1) L xs)) := by
  have J0 := J
  obtain ⟨np, nm, nh, nw, ns, mo, ⟨S, C, T, P, M, St, G, R, W, V, X⟩, q1, q2⟩ := J
  have kX : zK h 10 = 11 := (shX S).1
  have kM : zK h 200 = 12 := (shM S).1
  have cp := C.1
  have cm := C.2.1
  have ch := C.2.2.1
  have cw := C.2.2.2.1
  have cs := C.2.2.2.2.1
  have b1 : np < 2 ^ 31 := by omega
  have b2 : nm < 2 ^ 31 := by omega
  have b3 : nh < 2 ^ 31 := by omega
  have k : LV h np nm nh := ⟨S, C.1.2.1, C.1.2.2.2, C.2.1.2.2, T, P, M, R⟩
  by_cases c1 : 0 ≤ l2 ∧ l2 ≤ nI nm - 1
  rotate_left
  · exact wX10_worth ⟨kX, X10_man_f kX cm.2.1 c1 (N0 (wX11_worth ⟨kM, X11_man_f kM cm.1 c1 (N0 ⟨rfl, J0.up⟩)⟩))⟩
  obtain ⟨m, hm, rfl⟩ := in_cnt b2 c1
  by_cases c2 : 0 ≤ l1 ∧ l1 ≤ 2
  rotate_left
  · exact wX10_worth ⟨kX, X10_man_t kX cm.2.1 b2 hm (N1 (X10_rule_f c2 (N0 (wX11_worth ⟨kM, X11_man_t kM cm.1 b2 hm (N1 (X11_in_f c2 rfl rfl (N0 ⟨rfl, J0.up⟩)))⟩))))⟩
  obtain ⟨r, hr, rfl⟩ := in_nI (n := 2) (by decide) c2
  have hr3 : r < 3 := by omega
  have e1 := nI_clamp (n := r) (by omega)
  have v1 : vp_in (nI r) 3 := vp_in_nI (by omega) (by omega)
  have v4 : vp_in (nI r) 4 := vp_in_nI (by omega) (by omega)
  have e2 := nI_clamp (n := m) (by omega)
  have v2 : vp_in (nI m) 24 := vp_in_nI (by omega) (by omega)
  refine wX10_worth ⟨kX, X10_man_t kX cm.2.1 b2 hm (N1 (X10_rule_t c2 (N1 ?_)))⟩
  simp only [shX S, shRule S hr3, shMan S hm, e1, e2, v1, v2, ne_eq]
  refine ⟨trivial, by decide, trivial, trivial, Nat.ne_of_gt (by omega), trivial, ?_⟩
  rcases R r hr3 with ⟨x1, x2⟩ | ⟨c, y1, y2, y3, y4, y5, y6⟩
  · refine ⟨fun z => absurd x2 z, fun _ => wX11_worth ⟨kM, X11_man_t kM cm.1 b2 hm (N1 (X11_in_t c2 rfl rfl (N1 ?_)))⟩⟩
    simp only [shM S, e1, v4, ne_eq]
    exact ⟨trivial, by decide, trivial, trivial, fun z => absurd z (by rw [x1]; decide), fun _ => ⟨trivial, J0.up⟩⟩
  · refine ⟨fun _ => ⟨by decide, by decide, trivial, trivial, by omega, s_X10_wayToWork k hm ⟨(shPi S).1, s_X3_man k hm hr3 y2 y3 y4 y5 y6 (fun H sc => ?_)⟩⟩, fun z => absurd z ?_⟩
    · have k1 := k.same sc.same
      have kM1 : zK H 200 = 12 := by rw [sc.1]; exact kM
      have c1' : zI H 200 17 = nI nm := by rw [sc.2.2.2.2 200 17 (by omega)]; exact cm.1
      have y3' : zI H 221 r = nI c := by rw [sc.2.2.2.2 221 r (by omega)]; exact y3
      refine wX11_worth ⟨kM1, X11_man_t kM1 c1' b2 hm (N1 (X11_in_t c2 rfl rfl (N1 ?_)))⟩
      simp only [shM k1.1, e1, v4, y3', ne_eq]
      refine ⟨trivial, by decide, trivial, trivial, fun _ => s_X11_worthOf k1 hm hr3 y3' y2 ?_ (fun H2 sm => ⟨(evM_same sc.same).symm, ?_⟩), fun z => absurd (nI_pos' (by omega)) z⟩
      · exact (okT_congr (fun j hj => sc.2.2.2.2 220 _ (by omega))).mpr y6
      · exact (J0.up).same (sc.same.trans sm.same)
    · rw [y4]
      intro q
      have := nI_inj' (b := 0) (by omega) (by omega) q
      omega
def fVo (h : ZH) (pit : Int32) : Nat → Int32 → Int32 := fun m a => if zI h 215 m = pit ∧ truM h 2 m then a + 1 else a
theorem fVo_same {H : ZH} {pit : Int32} {n : Nat} (e : zsame h H) : fold (fVo H pit) n = fold (fVo h pit) n := by
  refine fold_congr (fun k hk a => ?_)
  unfold fVo
  simp only [truM_same e, e.2.2.2 215 k (by unfold scr; omega)]
theorem fAt_same {H : ZH} {pit : Int32} {n : Nat} (e : zsame h H) : fold (fAt H pit) n = fold (fAt h pit) n := by
  refine fold_congr (fun k hk a => ?_)
  unfold fAt
  simp only [e.2.2.2 215 k (by unfold scr; omega)]
theorem LMe.same {H : ZH} (k : LMe h np nm nh) (e : zsame h H) : LMe H np nm nh := by
  obtain ⟨S, a, b, c, M⟩ := k
  have q := e.2.2.2
  exact ⟨e.Sh S, by rw [q 10 13 (by unfold scr; omega)]; exact a, by rw [q 200 17 (by unfold scr; omega)]; exact b, c, M.congr (fun a j z => q a j (by unfold scr; omega)) c⟩
def voR (h : ZH) (pit w : Int32) (nm : Nat) : Int32 := if w = 0 then fold (fVo h pit) nm else if 2 * fold (fVo h pit) nm ≤ fold (fAt h pit) nm then 0 else 1
theorem voR_same {H : ZH} {pit w : Int32} {n : Nat} (e : zsame h H) : voR H pit w n = voR h pit w n := by unfold voR; rw [fVo_same e, fAt_same e]
set_option maxHeartbeats 1000000 in
theorem s_X10_vote42 {ψ : Int32 → ZH → Prop} {pit w : Int32} (k : LV h np nm nh) (lm : LMe h np nm nh) (q : ∀ H, SC h H → ψ (voR h pit w nm) H) : Zt mX10_vote (zPI ψ) 0 0 42 [some (.ref 10), some (.int pit), some (.int w), some (.int 0), some (.int 0)] [] h := by
  have := down (n := nm) (I := fun j => ∀ H, SC h H → Zt mX10_vote (zPI ψ) 0 0 42 [some (.ref 10), some (.int pit), some (.int w), some (.int (fold (fVo h pit) j)), some (.int (nI j))] [] H) ?_ ?_
  · exact this h SC.rfl'
  · intro H sc
    have l1 := lm.same sc.same
    have q' := q H sc
    unfold voR at q'
    refine wX10_vote_42 ⟨(shX l1.1).1, fun _ => ⟨fun z => s_X10_menAt l1 ?_, fun z => ?_⟩, fun z => absurd (by rw [l1.2.1]; exact Int32.le_refl _) z⟩
    · rw [if_neg z] at q'
      rw [fAt_same sc.same]
      refine ⟨fun y => s_X10_asOne (Or.inl rfl) ?_, fun y => s_X10_asOne (Or.inr rfl) ?_⟩
      · rw [if_pos y] at q'; exact q'
      · rw [if_neg y] at q'; exact q'
    · rw [if_pos z] at q'; exact q'
  · intro j hj ih H sc
    have l1 := lm.same sc.same
    have k1 := k.same sc.same
    have h24 := lm.2.2.2.1
    have e1 := nI_clamp (n := j) (by omega)
    have v1 : vp_in (nI j) 24 := vp_in_nI (by omega) (by omega)
    have m5 := (l1.2.2.2.2 j hj).2.2.2.2.1
    have e5 : zI H 215 j = zI h 215 j := sc.2.2.2.2 215 j (by omega)
    refine wX10_vote_42 ?_
    simp only [shX l1.1, shMan l1.1 hj, l1.2.1, e1, v1, m5, e5, ne_eq, nI_1]
    have st : fold (fVo h pit) (j + 1) = if zI h 215 j = pit ∧ truM h 2 j then fold (fVo h pit) j + 1 else fold (fVo h pit) j := rfl
    refine ⟨trivial, Bf (cnt_le (by omega) hj) ⟨by decide, trivial, trivial, by omega, trivial, fun z => ?_, fun z => s_X10_isTrue (r := 2) k1 hj (by omega) (fun H1 sc1 => ?_)⟩⟩
    · rw [if_neg (fun x => z x.1)] at st
      have := ih H sc
      rw [st] at this
      exact this
    · have := ih H1 (sc.trans sc1)
      refine zb_if (fun y => ?_) (fun y => ?_)
      · rw [if_pos ⟨z, (truM_same sc.same).mp y⟩] at st
        rw [st] at this
        exact this
      · rw [if_neg (fun x => y ((truM_same sc.same).mpr x.2))] at st
        rw [st] at this
        exact this
set_option maxHeartbeats 1000000 in
theorem s_X11_vote40 {ψ : Int32 → ZH → Prop} {pit w : Int32} (k : LV h np nm nh) (lm : LMe h np nm nh) (q : ∀ H, SM h H → ψ (voR h pit w nm) H) : Zt mX11_vote (zPI ψ) 0 0 40 [some (.ref 200), some (.int pit), some (.int w), some (.int 0), some (.int 0)] [] h := by
  have := down (n := nm) (I := fun j => ∀ H, SM h H → Zt mX11_vote (zPI ψ) 0 0 40 [some (.ref 200), some (.int pit), some (.int w), some (.int (fold (fVo h pit) j)), some (.int (nI j))] [] H) ?_ ?_
  · exact this h SM.rfl'
  · intro H sc
    have l1 := lm.same sc.same
    have q' := q H sc
    unfold voR at q'
    refine wX11_vote_40 ⟨(shM l1.1).1, fun _ => ⟨fun z => s_X11_menAt l1.1 l1.2.2.1 l1.2.2.2.1 ?_, fun z => ?_⟩, fun z => absurd (by rw [l1.2.2.1]; exact Int32.le_refl _) z⟩
    · rw [if_neg z] at q'
      rw [fAt_same sc.same]
      refine ⟨fun y => ?_, fun y => ?_⟩
      · rw [if_pos y] at q'; exact q'
      · rw [if_neg y] at q'; exact q'
    · rw [if_pos z] at q'; exact q'
  · intro j hj ih H sc
    have l1 := lm.same sc.same
    have k1 := k.same sc.same
    have h24 := lm.2.2.2.1
    have e1 := nI_clamp (n := j) (by omega)
    have v1 : vp_in (nI j) 24 := vp_in_nI (by omega) (by omega)
    have e5 : zI H 215 j = zI h 215 j := sc.2.2.2.2 215 j (by omega)
    refine wX11_vote_40 ?_
    simp only [shM l1.1, l1.2.2.1, e1, v1, e5, ne_eq, nI_1, i_add0]
    have st : fold (fVo h pit) (j + 1) = if zI h 215 j = pit ∧ truM h 2 j then fold (fVo h pit) j + 1 else fold (fVo h pit) j := rfl
    refine ⟨trivial, Bf (cnt_le (by omega) hj) ⟨by decide, trivial, trivial, fun z => ?_, fun z => s_X11_isSo (r := 2) k1 hj (by omega) (fun H1 sc1 => ?_)⟩⟩
    · rw [if_neg (fun x => z x.1)] at st
      have := ih H sc
      rw [st] at this
      exact this
    · have := ih H1 (sc.trans sc1)
      refine zb_if (fun y => ?_) (fun y => ?_)
      · rw [if_pos ⟨z, (truM_same sc.same).mp y⟩] at st
        rw [st] at this
        exact this
      · rw [if_neg (fun x => y ((truM_same sc.same).mpr x.2))] at st
        rw [st] at this
        exact this
set_option maxHeartbeats 4000000 in
theorem op_vote {l1 l2 : Int32} (J : Jx h i L xs) : ZcI mX10_vote [.ref 10, .int l1, .int l2] h (fun v h1 => ZcI mX11_vote [.ref 200, .int l1, .int l2] h1 (fun v' h2 => v = v' ∧ Jx h2 (i + 1) L xs)) := by
  have J0 := J
  obtain ⟨np, nm, nh, nw, ns, mo, ⟨S, C, T, P, M, St, G, R, W, V, X⟩, q1, q2⟩ := J
  have kX : zK h 10 = 11 := (shX S).1
  have kM : zK h 200 = 12 := (shM S).1
  have cp := C.1
  have cm := C.2.1
  have ch := C.2.2.1
  have cw := C.2.2.2.1
  have cs := C.2.2.2.2.1
  have b1 : np < 2 ^ 31 := by omega
  have b2 : nm < 2 ^ 31 := by omega
  have b3 : nh < 2 ^ 31 := by omega
  have k : LV h np nm nh := ⟨S, C.1.2.1, C.1.2.2.2, C.2.1.2.2, T, P, M, R⟩
  have lm : LMe h np nm nh := ⟨S, cm.2.1, cm.1, cm.2.2, M⟩
  by_cases c1 : 0 ≤ l1 ∧ l1 ≤ nI np - 1
  rotate_left
  · exact wX10_vote ⟨kX, X10_pit_f kX cp.2.1 c1 (N0 (wX11_vote ⟨kM, X11_pit_f kM cp.1 c1 (N0 ⟨rfl, J0.up⟩)⟩))⟩
  obtain ⟨p, hp, rfl⟩ := in_cnt b1 c1
  by_cases c2 : 0 ≤ l2 ∧ l2 ≤ 1
  rotate_left
  · exact wX10_vote ⟨kX, X10_pit_t kX cp.2.1 b1 hp (N1 (X10_within_f c2 (N0 (wX11_vote ⟨kM, X11_pit_t kM cp.1 b1 hp (N1 (X11_in_f c2 rfl rfl (N0 ⟨rfl, J0.up⟩)))⟩))))⟩
  have p6 := (P.1 p hp).2.2.2.2.2.1
  have e1 := nI_clamp (n := p) (by omega)
  have v1 : vp_in (nI p) 8 := vp_in_nI (by omega) (by omega)
  refine wX10_vote ⟨kX, X10_pit_t kX cp.2.1 b1 hp (N1 (X10_within_t c2 (N1 ?_)))⟩
  simp only [shX S, shPit S hp, e1, v1, p6, ne_eq]
  refine ⟨trivial, by decide, trivial, trivial, by omega, trivial, fun z => s_X10_vote42 k lm (fun H sc => ?_), fun z => ?_⟩
  · have k1 := k.same sc.same
    have l1 := lm.same sc.same
    have kM1 : zK H 200 = 12 := by rw [sc.1]; exact kM
    have c1' : zI H 200 9 = nI np := by rw [sc.2.2.2.2 200 9 (by omega)]; exact cp.1
    refine wX11_vote ⟨kM1, X11_pit_t kM1 c1' b1 hp (N1 (X11_in_t c2 rfl rfl (N1 ?_)))⟩
    simp only [shM k1.1, e1, v1, sc.2.2.2.2 208 p (by omega), ne_eq]
    refine ⟨trivial, by decide, trivial, trivial, fun _ => s_X11_vote40 k1 l1 (fun H2 sm => ⟨(voR_same sc.same).symm, (J0.up).same (sc.same.trans sm.same)⟩), fun y => absurd y z⟩
  · refine wX11_vote ⟨kM, X11_pit_t kM cp.1 b1 hp (N1 (X11_in_t c2 rfl rfl (N1 ?_)))⟩
    simp only [shM S, e1, v1, ne_eq]
    exact ⟨trivial, by decide, trivial, trivial, fun y => absurd z y, fun _ => ⟨trivial, J0.up⟩⟩
end VOTE
