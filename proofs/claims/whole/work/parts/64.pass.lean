section PASS
variable {h0 H : ZH} {np nm nh nw w : Nat} {f dr r : Nat → Int32} {pu sp mo : Int32}
theorem shWt {h : ZH} (S : Sh h np nm nh) (hw : w = 60 ∨ w = 70) : zK h w = 10 ∧ zR h w 0 = w + 1 ∧ zR h w 1 = w + 2 ∧ zR h w 2 = w + 3 ∧ zR h w 3 = w + 4 ∧ zR h w 4 = w + 5 ∧ zR h w 6 = w + 6 ∧ zR h w 7 = w + 7 ∧ zR h w 8 = w + 8 ∧ zK h (w + 1) = 20 ∧ zN h (w + 1) = 8 ∧ zK h (w + 2) = 20 ∧ zN h (w + 2) = 8 ∧ zK h (w + 3) = 20 ∧ zN h (w + 3) = 8 ∧ zK h (w + 4) = 21 ∧ zN h (w + 4) = 8 ∧ zK h (w + 5) = 20 ∧ zN h (w + 5) = 8 ∧ zK h (w + 6) = 20 ∧ zN h (w + 6) = 12 ∧ zK h (w + 7) = 20 ∧ zN h (w + 7) = 12 ∧ zK h (w + 8) = 20 ∧ zN h (w + 8) = 12 := by
  rcases hw with rfl | rfl
  · exact shW S
  · exact shT S
def WK (h0 : ZH) (w np nw : Nat) (r : Nat → Int32) : Prop := (w = 60 ∨ w = 70) ∧ zI h0 w 5 = nI np ∧ zI h0 w 9 = nI nw ∧ (∀ p, p < np → zI h0 (w + 1) p = zI h0 207 p ∧ zI h0 (w + 2) p = zI h0 233 p ∧ zI h0 (w + 4) p = r p) ∧ ∀ v, v < nw → zI h0 (w + 6) v = zI h0 237 v ∧ zI h0 (w + 7) v = zI h0 238 v ∧ zI h0 (w + 8) v = zI h0 239 v
set_option maxHeartbeats 1000000 in
theorem s_X9_run {ψ : ZH → Prop} {a b : Nat} {ht : Int32} (S : Sh h0 np nm nh) (hw : w = 60 ∨ w = 70) (hn : np ≤ 8) (W : Wx H h0 (w + 3) (w + 5) w 10 np f pu sp dr mo) (B : ∀ p, p < np → rg (f p) 0 1100) (ha : a < np) (hb : b < np) (ab : a ≠ b) (hh : rg ht 0 1100) (k : ∀ H', Wx H' h0 (w + 3) (w + 5) w 10 np (rnP f a b ht) pu sp dr mo → ψ H') : ZcV mX9_runThrough [.ref w, .int (nI a), .int (nI b), .int ht] H ψ := by
  have ff : ∀ p, p < np → zI H (w + 3) p = f p := fun p hp => W.2.2.2.2.1 p (by omega)
  have half : ∀ x y, x < np → y < np → x ≠ y → (∀ H', Wx H' h0 (w + 3) (w + 5) w 10 np (rn1 f x y ht) pu sp dr mo → ψ H') → Zt mX9_runThrough (zPV ψ) 0 0 33 [some (.ref w), none, none, some (.int ht), some (.int (nI x)), none, none] [.int (nI y)] H := by
    intro x y hx hy xy k
    have e1 := nI_clamp (n := x) (by omega)
    have v1 : vp_in (nI x) 8 := vp_in_nI (by omega) (by omega)
    have e2 := nI_clamp (n := y) (by omega)
    have v2 : vp_in (nI y) 8 := vp_in_nI (by omega) (by omega)
    have em : (if ht < f y then f y else ht) = mx ht (f y) := rfl
    have hm := mx_rg hh (B y hy)
    have bx := B x hx
    have h1 := hm.1; have h2 := hm.2; have h3 := bx.1; have h4 := bx.2
    have es : (f x - mx ht (f y)).toInt = (f x).toInt - (mx ht (f y)).toInt := tI_sub (by omega) (by omega)
    refine wX9_runThrough_33 ?_
    simp only [shWt (S.same W.1 W.2.1 W.2.2.1) hw, e1, v1, e2, v2, ff x hx, ff y hy, em, ne_eq, forall_eq, zK_sI, zN_sI, zI_sIj (Ne.symm xy)]
    refine ⟨trivial, Nat.succ_ne_zero _, trivial, trivial, trivial, fun z => k H ?_, fun z => ⟨trivial, trivial, k _ ?_⟩⟩
    · have e : rn1 f x y ht = f := if_neg (fun q => by
        have := tI_lt.mp q
        have := tI_le.mp z
        rw [es, tI_0] at this
        omega)
      rw [e]; exact W
    · have e : rn1 f x y ht = upI (upI f x (f x - (f x - mx ht (f y)) / 2)) y (f y + (f x - mx ht (f y)) / 2) := if_pos (by
        rw [tI_lt]
        have : ¬ (f x - mx ht (f y)).toInt ≤ 0 := fun q => z (by rw [tI_le, tI_0]; exact q)
        omega)
      rw [e]
      exact Wx.setF (by omega) (Wx.setF (by omega) W)
  have e1 := nI_clamp (n := a) (by omega)
  have v1 : vp_in (nI a) 8 := vp_in_nI (by omega) (by omega)
  have e2 := nI_clamp (n := b) (by omega)
  have v2 : vp_in (nI b) 8 := vp_in_nI (by omega) (by omega)
  have nab : nI b ≠ nI a := fun e => ab (nI_inj' (by omega) (by omega) e).symm
  refine wX9_runThrough ?_
  simp only [shWt (S.same W.1 W.2.1 W.2.2.1) hw, e1, v1, e2, v2, ff a ha, ff b hb, ne_eq]
  refine ⟨trivial, Nat.succ_ne_zero _, trivial, trivial, trivial, fun z => ⟨fun _ => half b a hb ha (Ne.symm ab) (fun H' q => k H' ?_), fun q => absurd q nab⟩, fun z => ⟨fun q => absurd trivial q, fun _ => half a b ha hb ab (fun H' q => k H' ?_)⟩⟩
  · have e : rnP f a b ht = rn1 f b a ht := if_neg (Int32.not_lt.mpr z)
    rw [e]; exact q
  · have e : rnP f a b ht = rn1 f a b ht := if_pos (Int32.not_le.mp z)
    rw [e]; exact q
set_option maxHeartbeats 1000000 in
theorem s_X9_drain {ψ : ZH → Prop} {p : Nat} (S : Sh h0 np nm nh) (K : WK h0 w np nw r) (hn : np ≤ 8) (W : Wx H h0 (w + 3) (w + 5) w 10 np f pu sp dr mo) (hp : p < np) (k : ∀ H', Wx H' h0 (w + 3) (w + 5) w 10 np (upI f p (dr1 h0 r f p)) (if r p = 0 then pu else pu + f p) (if r p = 0 ∧ zI h0 207 p < f p then sp + (f p - zI h0 207 p) else sp) dr mo → ψ H') : ZcV mX9_drain [.ref w, .int (nI p)] H ψ := by
  have hw := K.1
  have ff := W.2.2.2.2.1 p (by omega)
  have kp := K.2.2.2.1 p hp
  have o1 : zI H (w + 1) p = zI h0 207 p := (W.2.2.2.1 (w + 1) p (by omega)).trans kp.1
  have o4 : zI H (w + 4) p = r p := (W.2.2.2.1 (w + 4) p (by omega)).trans kp.2.2
  have pu1 : zI H w 11 = pu := W.2.2.2.2.2.2.2.1
  have sp1 : zI H w 12 = sp := W.2.2.2.2.2.2.2.2
  have e1 := nI_clamp (n := p) (by omega)
  have v1 : vp_in (nI p) 8 := vp_in_nI (by omega) (by omega)
  have q1 : ∀ v : Int32, zI (zsI H w 12 v) (w + 1) p = zI h0 207 p := fun v => by rw [zI_sIa (by omega), o1]
  refine wX9_drain ?_
  simp only [shWt (S.same W.1 W.2.1 W.2.2.1) hw, e1, v1, ff, o1, o4, pu1, sp1, ne_eq, forall_eq, zK_sI, zN_sI, q1]
  refine ⟨trivial, Nat.succ_ne_zero _, trivial, trivial, fun z => ⟨Nat.succ_ne_zero _, trivial, trivial, Nat.succ_ne_zero _, trivial, trivial, fun y => k H ?_, fun y => ⟨trivial, trivial, trivial, trivial, k _ ?_⟩⟩, fun z => ⟨Nat.succ_ne_zero _, trivial, trivial, k _ ?_⟩⟩
  · rw [if_pos z, if_neg (fun q => Int32.not_lt.mpr y q.2)]
    have e : dr1 h0 r f p = f p := by unfold dr1; rw [if_pos z, if_neg (Int32.not_lt.mpr y)]
    rw [e]
    exact Wx.ext W (fun q _ => by
      unfold upI
      by_cases c : q = p
      · rw [if_pos c, c]
      · rw [if_neg c])
  · have y' := Int32.not_le.mp y
    rw [if_pos z, if_pos ⟨z, y'⟩]
    have e : dr1 h0 r f p = zI h0 207 p := by unfold dr1; rw [if_pos z, if_pos y']
    rw [e]
    exact Wx.setF (by omega) (Wx.setS (by omega) W)
  · rw [if_neg z, if_neg (fun q => z q.1)]
    have e : dr1 h0 r f p = 0 := by unfold dr1; rw [if_neg z]
    rw [e]
    exact Wx.setF (by omega) (Wx.setP (by omega) W)
theorem wat3_s {g : Nat → Int32} {k : Nat} : upI (wat3 h0 r g k) k (dr1 h0 r (wat3 h0 r g k) k) = wat3 h0 r g (k + 1) := by
  funext p
  unfold upI
  by_cases c : p = k
  · subst c
    rw [if_pos rfl]
    have e : wat3 h0 r g p p = g p := by unfold wat3; rw [if_neg (by omega)]
    have e2 : wat3 h0 r g (p + 1) p = dr1 h0 r g p := if_pos (show p < p + 1 by omega)
    rw [e2]
    unfold dr1
    rw [e]
  · rw [if_neg c]
    unfold wat3
    by_cases d : p < k
    · rw [if_pos d, if_pos (by omega)]
    · rw [if_neg d, if_neg (by omega)]
theorem watD_s {g : Nat → Int32} {k : Nat} (c : dr k = -6 ∧ zI h0 207 k / 3 < g k) : upI (watD h0 g dr mo k) k mo = watD h0 g dr mo (k + 1) := by
  funext p
  unfold upI watD
  by_cases e : p = k
  · subst e
    rw [if_pos rfl, if_pos ⟨by omega, c⟩]
  · rw [if_neg e]
    by_cases d : p < k ∧ dr p = -6 ∧ zI h0 207 p / 3 < g p
    · rw [if_pos d, if_pos ⟨by omega, d.2⟩]
    · rw [if_neg d, if_neg (fun q => d ⟨by omega, q.2⟩)]
theorem watD_n {g : Nat → Int32} {k : Nat} (c : ¬ (dr k = -6 ∧ zI h0 207 k / 3 < g k)) : watD h0 g dr mo (k + 1) = watD h0 g dr mo k := by
  funext p
  unfold watD
  by_cases d : p < k ∧ dr p = -6 ∧ zI h0 207 p / 3 < g p
  · rw [if_pos d, if_pos ⟨by omega, d.2⟩]
  · rw [if_neg d, if_neg (fun q => by
      by_cases e : p = k
      · subst e; exact c q.2
      · exact d ⟨by omega, q.2⟩)]
/-- behind a month -/
def WN (H h0 : ZH) (L D O j np nw : Nat) (r f : Nat → Int32) (pu sp : Int32) (dr : Nat → Int32) (mo : Int32) : Prop :=
  Wx H h0 L D O j np (wat3 h0 r (wat2 h0 (wat1 h0 f np) nw) np) (watP r (wat2 h0 (wat1 h0 f np) nw) pu np) (watS h0 r (wat2 h0 (wat1 h0 f np) nw) sp np) (watD h0 (wat3 h0 r (wat2 h0 (wat1 h0 f np) nw) np) dr mo np) (mo + 1)
set_option maxHeartbeats 2000000 in
theorem s_X9_pass {ψ : Int32 → ZH → Prop} (S : Sh h0 np nm nh) (K : WK h0 w np nw r) (C : WC h0 np nw) (B : WB h0 np f) (W : Wx H h0 (w + 3) (w + 5) w 10 np f pu sp dr mo) (k : ∀ H', WN H' h0 (w + 3) (w + 5) w 10 np nw r f pu sp dr mo → ψ (watC h0 (wat3 h0 r (wat2 h0 (wat1 h0 f np) nw) np) dr np) H') : ZcI mX9_passMonth [.ref w] H ψ := by
  have hw := K.1
  have hn := C.1
  have hn2 := C.2.1
  have R1 := wat1_rg C B
  generalize eg1 : wat1 h0 f np = g1 at R1
  have R2 := wat2_rg C R1 nw (Nat.le_refl _)
  unfold WN at k
  rw [eg1] at k
  generalize eg2 : wat2 h0 g1 nw = g2 at R2 k
  generalize eG : wat3 h0 r g2 np = G at k
  -- the last loop
  have l3 : ∀ H, Wx H h0 (w + 3) (w + 5) w 10 np g2 pu sp dr mo → Zt mX9_passMonth (zPI ψ) 0 0 73 [some (.ref w), some (.int 0), some (.int 0)] [] H := by
    have := down (I := fun j => ∀ H, Wx H h0 (w + 3) (w + 5) w 10 np (wat3 h0 r g2 j) (watP r g2 pu j) (watS h0 r g2 sp j) (watD h0 G dr mo j) mo → Zt mX9_passMonth (zPI ψ) 0 0 73 [some (.ref w), some (.int (watC h0 G dr j)), some (.int (nI j))] [] H) (n := np) (fun H W => ?_) (fun p hp q H W => ?_)
    · intro H W
      refine this H (Wx.extD (Wx.ext W (fun p _ => ?_)) (fun p _ => ?_))
      · unfold wat3; rw [if_neg (by omega)]
      · unfold watD; rw [if_neg (by omega)]
    · have o5 : zI H w 5 = nI np := (W.2.2.2.1 w 5 (by omega)).trans K.2.1
      have om : zI H w 10 = mo := W.2.2.2.2.2.2.1
      refine wX9_passMonth_73 ⟨(shWt (S.same W.1 W.2.1 W.2.2.1) hw).1, fun _ => ?_, fun z => absurd (by rw [o5]; exact Int32.le_refl _) z⟩
      rw [om]
      rw [eG] at W
      exact k _ (Wx.setM (by omega) W)
    · have o5 : zI H w 5 = nI np := (W.2.2.2.1 w 5 (by omega)).trans K.2.1
      refine wX9_passMonth_73 ⟨(shWt (S.same W.1 W.2.1 W.2.2.1) hw).1, fun z => absurd z (by rw [o5]; exact cnt_le (by omega) hp), fun _ => s_X9_drain S K hn W hp (fun H2 W2 => ?_)⟩
      have eg : wat3 h0 r g2 p p = g2 p := by unfold wat3; rw [if_neg (by omega)]
      have eP : (if r p = 0 then watP r g2 pu p else watP r g2 pu p + wat3 h0 r g2 p p) = watP r g2 pu (p + 1) := by rw [eg]; rfl
      have eS : (if r p = 0 ∧ zI h0 207 p < wat3 h0 r g2 p p then watS h0 r g2 sp p + (wat3 h0 r g2 p p - zI h0 207 p) else watS h0 r g2 sp p) = watS h0 r g2 sp (p + 1) := by rw [eg]; rfl
      rw [wat3_s, eP, eS] at W2
      have d1 : zI H2 (w + 5) p = dr p := by
        rw [W2.2.2.2.2.2.1 p hp]
        unfold watD
        rw [if_neg (by omega)]
      have l1 : zI H2 (w + 3) p = G p := by
        rw [W2.2.2.2.2.1 p (by omega), ← eG]
        unfold wat3
        rw [if_pos (by omega), if_pos hp]
      have o1 : zI H2 (w + 1) p = zI h0 207 p := (W2.2.2.2.1 (w + 1) p (by omega)).trans (K.2.2.2.1 p hp).1
      have om : zI H2 w 10 = mo := W2.2.2.2.2.2.2.1
      have e1 := nI_clamp (n := p) (by omega)
      have v1 : vp_in (nI p) 8 := vp_in_nI (by omega) (by omega)
      have eC : watC h0 G dr (p + 1) = if dr p = -6 ∧ zI h0 207 p / 3 < G p then watC h0 G dr p + 1 else watC h0 G dr p := rfl
      simp only [shWt (S.same W2.1 W2.2.1 W2.2.2.1) hw, e1, v1, d1, l1, o1, om, ne_eq, nI_1]
      refine ⟨trivial, Nat.succ_ne_zero _, trivial, trivial, fun z => ?_, fun z => ⟨Nat.succ_ne_zero _, trivial, trivial, Nat.succ_ne_zero _, trivial, trivial, fun y => ?_, fun y => ?_⟩⟩
      · have c : ¬ (dr p = -6 ∧ zI h0 207 p / 3 < G p) := fun q => z q.1
        have := q H2 (by rw [watD_n c]; exact W2)
        rw [eC, if_neg c] at this
        exact this
      · have c : ¬ (dr p = -6 ∧ zI h0 207 p / 3 < G p) := fun q => Int32.not_lt.mpr y q.2
        have := q H2 (by rw [watD_n c]; exact W2)
        rw [eC, if_neg c] at this
        exact this
      · have c : dr p = -6 ∧ zI h0 207 p / 3 < G p := ⟨z, Int32.not_le.mp y⟩
        have := q _ (by rw [← watD_s c]; exact Wx.setD (p := p) (by omega) W2)
        rw [eC, if_pos c] at this
        exact this
  -- the ways
  have l2 : ∀ H, Wx H h0 (w + 3) (w + 5) w 10 np g1 pu sp dr mo → Zt mX9_passMonth (zPI ψ) 0 0 33 [some (.ref w), some (.int 0), none] [] H := by
    refine down (I := fun j => ∀ H, Wx H h0 (w + 3) (w + 5) w 10 np (wat2 h0 g1 j) pu sp dr mo → Zt mX9_passMonth (zPI ψ) 0 0 33 [some (.ref w), some (.int (nI j)), none] [] H) (n := nw) (fun H W => ?_) (fun v hv q H W => ?_)
    · have o9 : zI H w 9 = nI nw := (W.2.2.2.1 w 9 (by omega)).trans K.2.2.1
      rw [eg2] at W
      exact wX9_passMonth_33 ⟨(shWt (S.same W.1 W.2.1 W.2.2.1) hw).1, fun _ => l3 H W, fun z => absurd (by rw [o9]; exact Int32.le_refl _) z⟩
    · have o9 : zI H w 9 = nI nw := (W.2.2.2.1 w 9 (by omega)).trans K.2.2.1
      have kv := K.2.2.2.2 v hv
      have o6 : zI H (w + 6) v = zI h0 237 v := (W.2.2.2.1 (w + 6) v (by omega)).trans kv.1
      have o7 : zI H (w + 7) v = zI h0 238 v := (W.2.2.2.1 (w + 7) v (by omega)).trans kv.2.1
      have o8 : zI H (w + 8) v = zI h0 239 v := (W.2.2.2.1 (w + 8) v (by omega)).trans kv.2.2
      obtain ⟨⟨a, b, ha, hb, ab, ea, eb⟩, hh⟩ := C.2.2.2 v hv
      have e1 := nI_clamp (n := v) (by omega)
      have v1 : vp_in (nI v) 12 := vp_in_nI (by omega) (by omega)
      refine wX9_passMonth_33 ⟨(shWt (S.same W.1 W.2.1 W.2.2.1) hw).1, fun z => absurd z (by rw [o9]; exact cnt_le (by omega) hv), fun _ => ?_⟩
      simp only [shWt (S.same W.1 W.2.1 W.2.2.1) hw, e1, v1, o6, o7, o8, ea, eb, ne_eq, nI_1]
      refine ⟨Nat.succ_ne_zero _, trivial, trivial, Nat.succ_ne_zero _, trivial, trivial, Nat.succ_ne_zero _, trivial, trivial, s_X9_run S hw hn W (wat2_rg C R1 v (by omega)) ha hb ab (rg_mono hh (by omega) (by omega)) (fun H2 W2 => q H2 ?_)⟩
      have e : wat2 h0 g1 (v + 1) = rnP (wat2 h0 g1 v) a b (zI h0 239 v) := by
        show rnP (wat2 h0 g1 v) (zI h0 237 v).toNatClampNeg (zI h0 238 v).toNatClampNeg (zI h0 239 v) = _
        rw [ea, eb, nI_clamp (by omega), nI_clamp (by omega)]
      rw [e]; exact W2
  -- what flows in
  refine wX9_passMonth ?_
  have := down (I := fun j => ∀ H, Wx H h0 (w + 3) (w + 5) w 10 np (wat1 h0 f j) pu sp dr mo → Zt mX9_passMonth (zPI ψ) 0 0 2 [some (.ref w), some (.int (nI j)), none] [] H) (n := np) (fun H W => ?_) (fun p hp q H W => ?_)
  · exact this H (Wx.ext W (fun p _ => by unfold wat1; rw [if_neg (by omega)]))
  · have o5 : zI H w 5 = nI np := (W.2.2.2.1 w 5 (by omega)).trans K.2.1
    rw [eg1] at W
    exact wX9_passMonth_2 ⟨(shWt (S.same W.1 W.2.1 W.2.2.1) hw).1, fun _ => l2 H W, fun z => absurd (by rw [o5]; exact Int32.le_refl _) z⟩
  · have o5 : zI H w 5 = nI np := (W.2.2.2.1 w 5 (by omega)).trans K.2.1
    have o2 : zI H (w + 2) p = zI h0 233 p := (W.2.2.2.1 (w + 2) p (by omega)).trans (K.2.2.2.1 p hp).2.1
    have l1 : zI H (w + 3) p = f p := by
      rw [W.2.2.2.2.1 p (by omega)]
      unfold wat1
      rw [if_neg (by omega)]
    have e1 := nI_clamp (n := p) (by omega)
    have v1 : vp_in (nI p) 8 := vp_in_nI (by omega) (by omega)
    refine wX9_passMonth_2 ⟨(shWt (S.same W.1 W.2.1 W.2.2.1) hw).1, fun z => absurd z (by rw [o5]; exact cnt_le (by omega) hp), fun _ => ?_⟩
    simp only [shWt (S.same W.1 W.2.1 W.2.2.1) hw, e1, v1, o2, l1, ne_eq, nI_1]
    refine ⟨Nat.succ_ne_zero _, trivial, trivial, Nat.succ_ne_zero _, trivial, trivial, q _ (Wx.ext (Wx.setF (by omega) W) (fun x _ => ?_))⟩
    unfold upI wat1
    by_cases c : x = p
    · rw [if_pos c, if_pos (by omega), c]
    · rw [if_neg c]
      by_cases d : x < p
      · rw [if_pos d, if_pos (by omega)]
      · rw [if_neg d, if_neg (by omega)]
end PASS
