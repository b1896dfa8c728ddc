section MONTH
variable {h0 H : ZH} {np nm nh nw : Nat} {f dr r : Nat → Int32} {pu sp mo : Int32}
theorem mx_le (ht y : Int32) : (if ht ≤ y then y else ht) = mx ht y := by
  unfold mx
  by_cases c : ht < y
  · rw [if_pos c, if_pos (Int32.le_of_lt c)]
  · rw [if_neg c]
    by_cases d : ht ≤ y
    · rw [if_pos d]; exact Int32.le_antisymm (Int32.not_lt.mp c) d
    · rw [if_neg d]
set_option maxHeartbeats 1000000 in
theorem s_X11_run {ψ : ZH → Prop} {x y : Nat} {ht : Int32} (S : Sh h0 np nm nh) (hn : np ≤ 8) (W : Wx H h0 234 236 200 40 np f pu sp dr mo) (hx : x < np) (hy : y < np) (xy : x ≠ y) (k : ∀ H', Wx H' h0 234 236 200 40 np (rn1 f x y ht) pu sp dr mo → ψ H') : ZcV mX11_run [.ref 200, .int (nI x), .int (nI y), .int ht] H ψ := by
  have fx : zI H 234 x = f x := W.2.2.2.2.1 x (by omega)
  have fy : zI H 234 y = f y := W.2.2.2.2.1 y (by omega)
  have e1 := nI_clamp (n := x) (by omega)
  have v1 : vp_in (nI x) 8 := vp_in_nI (by omega) (by omega)
  have e2 := nI_clamp (n := y) (by omega)
  have v2 : vp_in (nI y) 8 := vp_in_nI (by omega) (by omega)
  have SH := S.same W.1 W.2.1 W.2.2.1
  have fin : Zt mX11_run (zPV ψ) 0 0 20 [some (.ref 200), some (.int (nI x)), some (.int (nI y)), none, none, none] [.int (mx ht (f y))] H := by
    refine wX11_run_20 ?_
    simp only [shM SH, e1, v1, e2, v2, fx, fy, ne_eq, forall_eq, zK_sI, zN_sI, zI_sIj (Ne.symm xy)]
    refine ⟨trivial, by decide, trivial, trivial, fun z => k H ?_, fun z => ⟨trivial, trivial, k _ ?_⟩⟩
    · have e : rn1 f x y ht = f := if_neg (Int32.not_lt.mpr z)
      rw [e]; exact W
    · have e : rn1 f x y ht = upI (upI f x (f x - (f x - mx ht (f y)) / 2)) y (f y + (f x - mx ht (f y)) / 2) := if_pos (Int32.not_le.mp z)
      rw [e]
      exact Wx.setF (by omega) (Wx.setF (by omega) W)
  have em := mx_le ht (f y)
  refine wX11_run ?_
  simp only [shM SH, e2, v2, fy, ne_eq]
  refine ⟨trivial, by decide, trivial, trivial, fun z => ?_, fun z => ?_⟩
  · rw [if_pos z] at em; rw [em]; exact fin
  · rw [if_neg z] at em
    have : Zt mX11_run (zPV ψ) 0 0 20 [some (.ref 200), some (.int (nI x)), some (.int (nI y)), none, none, none] [.int ht] H := by
      rw [em]
      rw [← em]
      rw [← em] at fin
      exact fin
    exact this
set_option maxHeartbeats 2000000 in
theorem s_X11_monthOn {ψ : ZH → Prop} {st : Int32} (S : Sh h0 np nm nh) (c9 : zI h0 200 9 = nI np) (c39 : zI h0 200 39 = nI nw) (hr : ∀ p, p < np → (r p = 0 ↔ zI h0 235 p = 0 ∨ nI p = st)) (C : WC h0 np nw) (W : Wx H h0 234 236 200 40 np f pu sp dr mo)
    (k : ∀ H', Wx H' h0 234 236 200 40 np (wat3 h0 r (wat2 h0 (wat1 h0 f np) nw) np) (watP r (wat2 h0 (wat1 h0 f np) nw) pu np) (watS h0 r (wat2 h0 (wat1 h0 f np) nw) sp np) dr mo → ψ H') : ZcV mX11_monthOn [.ref 200, .int st] H ψ := by
  have hn := C.1
  have hn2 := C.2.1
  generalize eg1 : wat1 h0 f np = g1 at k
  generalize eg2 : wat2 h0 g1 nw = g2 at k
  have kM : ∀ H, Wx H h0 234 236 200 40 np f pu sp dr mo → zK H 200 = 12 := fun H W => (shM (S.same W.1 W.2.1 W.2.2.1)).1
  -- the last loop
  have l3 : ∀ H, Wx H h0 234 236 200 40 np g2 pu sp dr mo → Zt mX11_monthOn (zPV ψ) 0 0 128 [some (.ref 200), some (.int st), some (.int 0), none] [] H := by
    have := down (I := fun j => ∀ H, Wx H h0 234 236 200 40 np (wat3 h0 r g2 j) (watP r g2 pu j) (watS h0 r g2 sp j) dr mo → Zt mX11_monthOn (zPV ψ) 0 0 128 [some (.ref 200), some (.int st), some (.int (nI j)), none] [] H) (n := np) (fun H W => ?_) (fun p hp q H W => ?_)
    · intro H W
      refine this H (Wx.ext W (fun p _ => ?_))
      unfold wat3; rw [if_neg (by omega)]
    · have o9 : zI H 200 9 = nI np := (W.2.2.2.1 200 9 (by omega)).trans c9
      exact wX11_monthOn_128 ⟨(shM (S.same W.1 W.2.1 W.2.2.1)).1, fun _ => k H W, fun z => absurd (by rw [o9]; exact Int32.le_refl _) z⟩
    · have o9 : zI H 200 9 = nI np := (W.2.2.2.1 200 9 (by omega)).trans c9
      have o5 : zI H 235 p = zI h0 235 p := W.2.2.2.1 235 p (by omega)
      have o7 : zI H 207 p = zI h0 207 p := W.2.2.2.1 207 p (by omega)
      have eg : wat3 h0 r g2 p p = g2 p := by unfold wat3; rw [if_neg (by omega)]
      have l1 : zI H 234 p = g2 p := by rw [W.2.2.2.2.1 p (by omega), eg]
      have pu1 : zI H 200 41 = watP r g2 pu p := W.2.2.2.2.2.2.2.1
      have sp1 : zI H 200 42 = watS h0 r g2 sp p := W.2.2.2.2.2.2.2.2
      have e1 := nI_clamp (n := p) (by omega)
      have v1 : vp_in (nI p) 8 := vp_in_nI (by omega) (by omega)
      have SH := S.same W.1 W.2.1 W.2.2.1
      have st3 := wat3_s (h0 := h0) (r := r) (g := g2) (k := p)
      have eP : watP r g2 pu (p + 1) = if r p = 0 then watP r g2 pu p else watP r g2 pu p + g2 p := rfl
      have eS : watS h0 r g2 sp (p + 1) = if r p = 0 ∧ zI h0 207 p < g2 p then watS h0 r g2 sp p + (g2 p - zI h0 207 p) else watS h0 r g2 sp p := rfl
      have ed : dr1 h0 r (wat3 h0 r g2 p) p = if r p = 0 then (if zI h0 207 p < g2 p then zI h0 207 p else g2 p) else 0 := by unfold dr1; rw [eg]
      have no : r p = 0 → Zt mX11_monthOn (zPV ψ) 0 0 175 [some (.ref 200), some (.int st), some (.int (nI p)), none] [] H := by
        intro r0
        rw [if_pos r0] at ed eP
        have q1 : ∀ v : Int32, zI (zsI H 200 42 v) 207 p = zI h0 207 p := fun v => by rw [zI_sIa (by decide), o7]
        refine wX11_monthOn_175 ?_
        simp only [shM SH, e1, v1, l1, o7, sp1, ne_eq, forall_eq, zK_sI, zN_sI, q1, nI_1]
        refine ⟨trivial, by decide, trivial, trivial, by decide, trivial, trivial, fun z => q H ?_, fun z => ⟨trivial, trivial, trivial, trivial, q _ ?_⟩⟩
        · rw [if_neg (Int32.not_lt.mpr z)] at ed
          rw [if_neg (fun x => Int32.not_lt.mpr z x.2)] at eS
          rw [eP, eS, ← st3, ed]
          refine Wx.ext W (fun x _ => ?_)
          unfold upI
          by_cases c : x = p
          · rw [if_pos c, c, eg]
          · rw [if_neg c]
        · rw [if_pos (Int32.not_le.mp z)] at ed
          rw [if_pos ⟨r0, Int32.not_le.mp z⟩] at eS
          rw [eP, eS, ← st3, ed]
          exact Wx.setF (by omega) (Wx.setS (by omega) W)
      refine wX11_monthOn_128 ⟨(shM SH).1, fun z => absurd z (by rw [o9]; exact cnt_le (by omega) hp), fun _ => ?_⟩
      simp only [shM SH, e1, v1, o5, l1, pu1, ne_eq, nI_1]
      refine ⟨by decide, trivial, trivial, fun z => no ((hr p hp).mpr (Or.inl z)), fun z => ⟨fun y => no ((hr p hp).mpr (Or.inr y)), fun y => ⟨by decide, trivial, trivial, q _ ?_⟩⟩⟩
      have r1 : ¬ r p = 0 := fun x => ((hr p hp).mp x).elim z y
      rw [if_neg r1] at ed eP
      rw [if_neg (fun x => r1 x.1)] at eS
      rw [eP, eS, ← st3, ed]
      exact Wx.setF (by omega) (Wx.setP (by omega) W)
  -- the ways
  have l2 : ∀ H, Wx H h0 234 236 200 40 np g1 pu sp dr mo → Zt mX11_monthOn (zPV ψ) 0 0 33 [some (.ref 200), some (.int st), some (.int 0), none] [] H := by
    refine down (I := fun j => ∀ H, Wx H h0 234 236 200 40 np (wat2 h0 g1 j) pu sp dr mo → Zt mX11_monthOn (zPV ψ) 0 0 33 [some (.ref 200), some (.int st), some (.int (nI j)), none] [] H) (n := nw) (fun H W => ?_) (fun v hv q H W => ?_)
    · have o39 : zI H 200 39 = nI nw := (W.2.2.2.1 200 39 (by omega)).trans c39
      rw [eg2] at W
      exact wX11_monthOn_33 ⟨(shM (S.same W.1 W.2.1 W.2.2.1)).1, fun _ => l3 H W, fun z => absurd (by rw [o39]; exact Int32.le_refl _) z⟩
    · have o39 : zI H 200 39 = nI nw := (W.2.2.2.1 200 39 (by omega)).trans c39
      have o6 : zI H 237 v = zI h0 237 v := W.2.2.2.1 237 v (by omega)
      have o7 : zI H 238 v = zI h0 238 v := W.2.2.2.1 238 v (by omega)
      have o8 : zI H 239 v = zI h0 239 v := W.2.2.2.1 239 v (by omega)
      obtain ⟨⟨a, b, ha, hb, ab, ea, eb⟩, hh⟩ := C.2.2.2 v hv
      have e1 := nI_clamp (n := v) (by omega)
      have v1 : vp_in (nI v) 12 := vp_in_nI (by omega) (by omega)
      have e2 := nI_clamp (n := a) (by omega)
      have v2 : vp_in (nI a) 8 := vp_in_nI (by omega) (by omega)
      have e3 := nI_clamp (n := b) (by omega)
      have v3 : vp_in (nI b) 8 := vp_in_nI (by omega) (by omega)
      have fa : zI H 234 a = wat2 h0 g1 v a := W.2.2.2.2.1 a (by omega)
      have fb : zI H 234 b = wat2 h0 g1 v b := W.2.2.2.2.1 b (by omega)
      have SH := S.same W.1 W.2.1 W.2.2.1
      have e : wat2 h0 g1 (v + 1) = rnP (wat2 h0 g1 v) a b (zI h0 239 v) := by
        show rnP (wat2 h0 g1 v) (zI h0 237 v).toNatClampNeg (zI h0 238 v).toNatClampNeg (zI h0 239 v) = _
        rw [ea, eb, nI_clamp (by omega), nI_clamp (by omega)]
      refine wX11_monthOn_33 ⟨(shM SH).1, fun z => absurd z (by rw [o39]; exact cnt_le (by omega) hv), fun _ => ?_⟩
      simp only [shM SH, e1, v1, e2, v2, e3, v3, o6, o7, ea, eb, fa, fb, ne_eq]
      refine ⟨by decide, by decide, trivial, trivial, trivial, trivial, by decide, trivial, trivial, trivial, fun z => ?_, fun z => ?_⟩
      · refine wX11_monthOn_71 (Z0 ?_)
        simp only [shM SH, e1, v1, o6, o7, o8, ea, eb, ne_eq, nI_1]
        refine ⟨trivial, by decide, trivial, trivial, Bt trivial ⟨by decide, trivial, trivial, by decide, trivial, trivial, s_X11_run S hn W hb ha (Ne.symm ab) (fun H2 W2 => q H2 ?_)⟩⟩
        have e' : rnP (wat2 h0 g1 v) a b (zI h0 239 v) = rn1 (wat2 h0 g1 v) b a (zI h0 239 v) := if_neg (Int32.not_lt.mpr z)
        rw [e, e']; exact W2
      · refine wX11_monthOn_71 (Z1 ?_)
        simp only [shM SH, e1, v1, o6, o7, o8, ea, eb, ne_eq, nI_1]
        refine ⟨trivial, by decide, trivial, trivial, Z1 ⟨by decide, trivial, trivial, by decide, trivial, trivial, s_X11_run S hn W ha hb ab (fun H2 W2 => q H2 ?_)⟩⟩
        have e' : rnP (wat2 h0 g1 v) a b (zI h0 239 v) = rn1 (wat2 h0 g1 v) a b (zI h0 239 v) := if_pos (Int32.not_le.mp z)
        rw [e, e']; exact W2
  -- what flows in
  refine wX11_monthOn ?_
  have := down (I := fun j => ∀ H, Wx H h0 234 236 200 40 np (wat1 h0 f j) pu sp dr mo → Zt mX11_monthOn (zPV ψ) 0 0 2 [some (.ref 200), some (.int st), some (.int (nI j)), none] [] H) (n := np) (fun H W => ?_) (fun p hp q H W => ?_)
  · exact this H (Wx.ext W (fun p _ => by unfold wat1; rw [if_neg (by omega)]))
  · have o9 : zI H 200 9 = nI np := (W.2.2.2.1 200 9 (by omega)).trans c9
    rw [eg1] at W
    exact wX11_monthOn_2 ⟨(shM (S.same W.1 W.2.1 W.2.2.1)).1, fun _ => l2 H W, fun z => absurd (by rw [o9]; exact Int32.le_refl _) z⟩
  · have o9 : zI H 200 9 = nI np := (W.2.2.2.1 200 9 (by omega)).trans c9
    have o3 : zI H 233 p = zI h0 233 p := W.2.2.2.1 233 p (by omega)
    have l1 : zI H 234 p = f p := by
      rw [W.2.2.2.2.1 p (by omega)]
      unfold wat1
      rw [if_neg (by omega)]
    have e1 := nI_clamp (n := p) (by omega)
    have v1 : vp_in (nI p) 8 := vp_in_nI (by omega) (by omega)
    have SH := S.same W.1 W.2.1 W.2.2.1
    refine wX11_monthOn_2 ⟨(shM SH).1, fun z => absurd z (by rw [o9]; exact cnt_le (by omega) hp), fun _ => ?_⟩
    simp only [shM SH, e1, v1, o3, l1, ne_eq, nI_1]
    refine ⟨by decide, trivial, trivial, by decide, trivial, trivial, q _ (Wx.ext (Wx.setF (by omega) W) (fun x _ => ?_))⟩
    unfold upI wat1
    by_cases c : x = p
    · rw [if_pos c, if_pos (by omega), c]
    · rw [if_neg c]
      by_cases d : x < p
      · rw [if_pos d, if_pos (by omega)]
      · rw [if_neg d, if_neg (by omega)]
theorem s_X11_isDrowned {ψ : Int32 → ZH → Prop} {p : Nat} (S : Sh h0 np nm nh) (C : WC h0 np nw) (B : WB h0 np f) (W : Wx H h0 234 236 200 40 np f pu sp dr mo) (hp : p < np) (k : ψ (zb (zI h0 207 p / 3 < f p)) H) : ZcI mX11_isDrowned [.ref 200, .int (nI p)] H ψ := by
  have hn := C.1
  have e1 := nI_clamp (n := p) (by omega)
  have v1 : vp_in (nI p) 8 := vp_in_nI (by omega) (by omega)
  have l1 : zI H 234 p = f p := W.2.2.2.2.1 p (by omega)
  have o7 : zI H 207 p = zI h0 207 p := W.2.2.2.1 207 p (by omega)
  have SH := S.same W.1 W.2.1 W.2.2.1
  obtain ⟨c1, -⟩ := C.2.2.1 p hp
  obtain ⟨b1, b2⟩ := B p hp
  have h1 := c1.1; have h2 := c1.2
  have a1 : ((3 : Int32) * f p).toInt = 3 * (f p).toInt := by rw [tI_mul (by rw [tI_3]; omega) (by rw [tI_3]; omega), tI_3]
  have a2 : (zI h0 207 p / 3).toInt = (zI h0 207 p).toInt / 3 := by rw [tI_div (by omega) (by decide), tI_3]
  refine wX11_isDrowned ?_
  simp only [shM SH, e1, v1, l1, o7, ne_eq]
  refine ⟨trivial, by decide, trivial, trivial, by decide, trivial, trivial, fun z => ?_, fun z => ?_⟩
  · rw [zb_f (by rw [tI_lt, a2]; rw [tI_le, a1] at z; omega)] at k; exact k
  · rw [zb_t (by rw [tI_lt, a2]; rw [tI_le, a1] at z; omega)] at k; exact k
end MONTH
