/-! rules put to men -/
def wyN (h : ZH) (t p : Nat) : Int32 := far1 (zI h 201 t - zI h 203 p) + far1 (zI h 202 t - zI h 204 p)
def wyM (h : ZH) (m : Nat) : Int32 := if zI h 215 m < 0 then 0 else wyN h (zI h 214 m).toNatClampNeg (zI h 215 m).toNatClampNeg
def fcM (h : ZH) (m : Nat) (c : Int32) : Int32 := if c = 97 then zI h 211 m else if c = 121 then zI h 213 m else if c = 116 then zI h 212 m else if c = 107 then zI h 216 m else wyM h m
def evM (h : ZH) (r m : Nat) : Int32 := evR (fun j => zI h 220 (40 * r + j)) (fcM h m) (zI h 221 r).toNatClampNeg
abbrev truM (h : ZH) (r m : Nat) : Prop := ¬ zI h 221 r < 0 ∧ ¬ evM h r m = 0
/-- what rules put to men need of the state -/
def LV (h : ZH) (np nm nh : Nat) : Prop := Sh h np nm nh ∧ zI h 10 12 = nI np ∧ np ≤ 8 ∧ nm ≤ 24 ∧ JT h ∧ JP h np ∧ JM h np nm ∧ JR h
section WORTH
variable {h : ZH} {np nm nh : Nat}
theorem LV.same {H : ZH} (k : LV h np nm nh) (e : zsame h H) : LV H np nm nh := by
  obtain ⟨S, c, a, b, T, P, M, R⟩ := k
  have q := e.2.2.2
  exact ⟨e.Sh S, by rw [q 10 12 (by unfold scr; omega)]; exact c, a, b, T.congr (fun a j z => q a j (by unfold scr; omega)), P.congr (fun a j z => q a j (by unfold scr; omega)) a, M.congr (fun a j z => q a j (by unfold scr; omega)) b, R.congr (fun a j z => q a j (by unfold scr; omega))⟩
theorem LV.of {i nw ns mo : Nat} (J : Jn h i np nm nh nw ns mo) : LV h np nm nh := by
  obtain ⟨S, C, T, P, M, St, G, R, W, V, X⟩ := J
  exact ⟨S, C.1.2.1, C.1.2.2.2, C.2.1.2.2, T, P, M, R⟩
theorem SC.same {H : ZH} (k : SC h H) : zsame h H := ⟨k.1, k.2.1, k.2.2.1, fun a j q => k.2.2.2.2 a j (fun z => q (by unfold scr; omega))⟩
theorem SM.same {H : ZH} (k : SM h H) : zsame h H := ⟨k.1, k.2.1, k.2.2.1, fun a j q => k.2.2.2.2 a j (fun z => q (by unfold scr; omega))⟩
theorem wyN_same {H : ZH} {t p : Nat} (e : zsame h H) : wyN H t p = wyN h t p := by
  have q := e.2.2.2
  unfold wyN
  rw [q 201 t (by unfold scr; omega), q 202 t (by unfold scr; omega), q 203 p (by unfold scr; omega), q 204 p (by unfold scr; omega)]
theorem wyM_same {H : ZH} {m : Nat} (e : zsame h H) : wyM H m = wyM h m := by
  have q := e.2.2.2
  unfold wyM
  rw [q 215 m (by unfold scr; omega), q 214 m (by unfold scr; omega), wyN_same e]
theorem fcM_same {H : ZH} {m : Nat} (e : zsame h H) : fcM H m = fcM h m := by
  have q := e.2.2.2
  funext c
  unfold fcM
  rw [wyM_same e, q 211 m (by unfold scr; omega), q 213 m (by unfold scr; omega), q 212 m (by unfold scr; omega), q 216 m (by unfold scr; omega)]
theorem evM_same {H : ZH} {r m : Nat} (e : zsame h H) : evM H r m = evM h r m := by
  have q := e.2.2.2
  unfold evM
  rw [fcM_same e, q 221 r (by unfold scr; omega)]
  congr 1
  funext j
  exact q 220 _ (by unfold scr; omega)
theorem truM_same {H : ZH} {r m : Nat} (e : zsame h H) : truM H r m ↔ truM h r m := by
  unfold truM
  rw [evM_same e, e.2.2.2 221 r (by unfold scr; omega)]
theorem LV.man (k : LV h np nm nh) {m : Nat} (hm : m < nm) : ∃ t, t < 6 ∧ zI h 214 m = nI t ∧ (zI h 215 m = -6 ∨ ∃ p, p < np ∧ zI h 215 m = nI p) := by
  obtain ⟨S, c, a, b, T, P, M, R⟩ := k
  obtain ⟨m1, m2, m3, m4, m5, m6, m7, m8, m9, m10, m11, m12, m13, m14⟩ := M m hm
  have e5 : (5 : Int32).toInt = 5 := by decide
  have u1 := m11.1
  have u2 := m11.2
  obtain ⟨t, ht, e⟩ := in_nI (a := zI h 214 m) (c := 5) (n := 5) (by decide) ⟨tI_le.mpr (by rw [tI_0]; exact u1), tI_le.mpr (by rw [e5]; exact u2)⟩
  refine ⟨t, by omega, e, ?_⟩
  rcases m14 with ⟨_, p, hp, e⟩ | ⟨_, e⟩
  · exact Or.inr ⟨p, hp, e⟩
  · exact Or.inl e
theorem s_X10_wayTo {ψ : Int32 → ZH → Prop} {m t p : Nat} (k : LV h np nm nh) (hm : m < nm) (ht : t < 6) (et : zI h 214 m = nI t) (hp : p < np) (q : ψ (wyN h t p) h) : ZcI mX10_wayTo [.ref 10, .int (nI p), .ref (400 + m)] h ψ := by
  obtain ⟨S, c, a, b, T, P, M, R⟩ := k
  have m4 := (M m hm).2.2.2.1
  have e1 := nI_clamp (n := p) (by omega)
  have e2 := nI_clamp (n := t) (by omega)
  have v1 : vp_in (nI p) 8 := vp_in_nI (by omega) (by omega)
  have v2 : vp_in (nI t) 6 := vp_in_nI (by omega) (by omega)
  refine wX10_wayTo ?_
  simp only [shX S, shTw S, shTown S ht, shPit S hp, shMan S hm, m4, et, e1, e2, v1, v2, ne_eq]
  refine ⟨trivial, by decide, trivial, trivial, trivial, by omega, by decide, trivial, trivial, by omega, trivial, by omega, trivial, s_X5_farFrom (shTown S ht).2 (shPit S hp).2.2.1 ?_⟩
  have t1 := T t ht
  have p1 := P.1 p hp
  rw [t1.1, t1.2.1, p1.1, p1.2.1]
  exact q
theorem s_X11_farTo {ψ : Int32 → ZH → Prop} {t p : Nat} (S : Sh h np nm nh) (ht : t < 6) (hp : p < 8) (q : ψ (wyN h t p) h) : ZcI mX11_farTo [.ref 200, .int (nI t), .int (nI p)] h ψ := by
  have e1 := nI_clamp (n := p) (by omega)
  have e2 := nI_clamp (n := t) (by omega)
  have v1 : vp_in (nI p) 8 := vp_in_nI (by omega) (by omega)
  have v2 : vp_in (nI t) 6 := vp_in_nI (by omega) (by omega)
  refine wX11_farTo ?_
  simp only [shM S, e1, e2, v1, v2, ne_eq]
  refine ⟨trivial, by decide, trivial, trivial, by decide, trivial, trivial, s_X11_size ?_⟩
  simp only [shM S, e1, e2, v1, v2, ne_eq]
  refine ⟨trivial, by decide, trivial, trivial, by decide, trivial, trivial, s_X11_size ?_⟩
  exact q
theorem wyM_p {m t p : Nat} (hp : p < 2 ^ 31) (ht : t < 6) (et : zI h 214 m = nI t) (ep : zI h 215 m = nI p) : wyM h m = wyN h t p := by
  unfold wyM
  rw [ep, et, if_neg (nI_pos hp), nI_clamp (by omega), nI_clamp hp]
theorem wyM_6 {m : Nat} (ep : zI h 215 m = -6) : wyM h m = 0 := by
  unfold wyM
  rw [ep, if_pos (by decide)]
theorem s_X10_wayToWork {ψ : Int32 → ZH → Prop} {m : Nat} (k : LV h np nm nh) (hm : m < nm) (q : ψ (wyM h m) h) : ZcI mX10_wayToWork [.ref 10, .ref (400 + m)] h ψ := by
  have K := k
  obtain ⟨t, ht, et, hh⟩ := k.man hm
  obtain ⟨S, c, a, b, T, P, M, R⟩ := k
  have m5 := (M m hm).2.2.2.2.1
  refine wX10_wayToWork ?_
  simp only [shX S, shMan S hm, m5]
  refine ⟨trivial, trivial, ?_⟩
  rcases hh with e | ⟨p, hp, e⟩
  · rw [e]
    refine X10_pit_f (shX S).1 c ?_ (Z0 ?_)
    · exact fun z => absurd z.1 (by decide)
    · rw [wyM_6 e] at q; exact q
  · rw [e]
    refine X10_pit_t (shX S).1 c (by omega) hp (Z1 ?_)
    rw [(shMan S hm).2, (shX S).1, m5, e]
    refine ⟨rfl, rfl, s_X10_wayTo K hm ht et hp ?_⟩
    rw [wyM_p (by omega) ht et e] at q
    exact q
theorem s_X11_factOf {ψ : Int32 → ZH → Prop} {m : Nat} {c : Int32} (k : LV h np nm nh) (hm : m < nm) (q : ψ (fcM h m c) h) : ZcI mX11_factOf [.ref 200, .int (nI m), .int c] h ψ := by
  obtain ⟨t, ht, et, hh⟩ := k.man hm
  obtain ⟨S, _, a, b, T, P, M, R⟩ := k
  have e1 := nI_clamp (n := m) (by omega)
  have v1 : vp_in (nI m) 24 := vp_in_nI (by omega) (by omega)
  have m12 := (M m hm).2.2.2.2.2.2.2.2.2.2.2.1
  refine wX11_factOf ?_
  simp only [shM S, e1, v1, ne_eq]
  unfold fcM at q
  refine ⟨fun z => ⟨trivial, by decide, trivial, trivial, ?_⟩, fun z => ⟨trivial, by decide, trivial, trivial, ?_⟩, fun z => ⟨trivial, by decide, trivial, trivial, ?_⟩, fun z => ⟨trivial, by decide, trivial, trivial, ?_⟩, fun n1 n2 n3 n4 => ⟨trivial, by decide, trivial, trivial, ?_⟩⟩
  · rw [if_pos z] at q; exact q
  · subst z
    rw [if_neg (by decide), if_neg (by decide), if_neg (by decide), if_pos rfl] at q
    refine ⟨fun y => ?_, fun y => ?_⟩
    · rw [y] at q; exact q
    · rw [m12.resolve_left y] at q; exact q
  · subst z
    rw [if_neg (by decide), if_neg (by decide), if_pos rfl] at q
    exact q
  · subst z
    rw [if_neg (by decide), if_pos rfl] at q
    exact q
  · rw [if_neg n1, if_neg n4, if_neg n3, if_neg n2] at q
    rcases hh with e | ⟨p, hp, e⟩
    · rw [wyM_6 e] at q
      rw [e]
      exact ⟨fun z => absurd z (by decide), fun _ => q⟩
    · rw [wyM_p (by omega) ht et e] at q
      rw [e, et]
      exact ⟨fun _ => ⟨by decide, trivial, trivial, s_X11_farTo S ht (by omega) q⟩, fun z => absurd (nI_pos' (by omega)) z⟩
set_option maxHeartbeats 4000000 in
/-- the model works a rule -/
theorem s_X11_worthOf {ψ : Int32 → ZH → Prop} {r m c : Nat} (k : LV h np nm nh) (hm : m < nm) (hr : r < 3) (hc : zI h 221 r = nI c) (h40 : c ≤ 40) (ok : okT (fun j => zI h 220 (40 * r + j)) c) (q : ∀ H, SM h H → ψ (evM h r m) H) : ZcI mX11_worthOf [.ref 200, .int (nI r), .int (nI m)] h ψ := by
  have S := k.1
  have kp : kPm h := ⟨(shM S).1, S.2.2.1 200 21 (by decide), S.1 222 (by decide), S.2.1 222 (by decide) (by decide)⟩
  have b40 : (40 : Int32) = nI 40 := rfl
  have e1 := nI_clamp (n := r) (by omega)
  have v1 : vp_in (nI r) 4 := vp_in_nI (by omega) (by omega)
  refine wX11_worthOf ⟨kp.1, ?_⟩
  generalize hF : (fun j => zI h 220 (40 * r + j)) = F at ok
  generalize hf : fcM h m = f
  have hev : evM h r m = (ev F f c).1 0 := by unfold evM evR; rw [hF, hf, hc, nI_clamp (by omega)]
  have := down (n := c) (I := fun k => ∀ H, PM h H (ev F f k).1 (ev F f k).2.1 → Zt mX11_worthOf (zPI ψ) 0 0 13 [some (.ref 200), some (.int (nI r)), some (.int (nI m)), some (.int (ev F f k).2.2), some (.int (nI (40 * r + k))), none] [] H) ?_ ?_
  · rw [b40, nI_mul]
    refine this _ ⟨⟨rfl, rfl, rfl, rfl, fun b j q => zI_sIn (by omega)⟩, kp, by rw [zI_sIs]; rfl, fun j hj => absurd hj (Nat.not_lt_zero _)⟩
  · intro H P
    have S1 := P.1.same.Sh S
    have eI := P.1.2.2.2.2
    refine wX11_worthOf_13 ?_
    have i1 := (ev_I (f := f) ok).1
    have i2 : (ev F f c).2.1 = 1 := by simpa using i1
    simp only [shM S1, e1, v1, eI 221 r (by omega), hc, b40, nI_mul, nI_add, ne_eq]
    refine ⟨trivial, by decide, trivial, trivial, fun _ => ⟨by decide, trivial, by decide, ?_⟩, fun z => absurd (Int32.le_refl _) z⟩
    rw [P.2.2.2 0 (by omega), ← hev]
    exact q H P.1
  · intro j hj ih H P
    have S1 := P.1.same.Sh S
    have k1 := k.same P.1.same
    have eI := P.1.2.2.2.2
    obtain ⟨t, ht⟩ := trun_le ⟨_, ok⟩ (c - (j + 1)) (j + 1) (by omega)
    have cs := ev_cases (f := f) ht
    have e2 := nI_clamp (n := 40 * r + j) (by omega)
    have v2 : vp_in (nI (40 * r + j)) 160 := vp_in_nI (by omega) (by omega)
    have eF : zI h 220 (40 * r + j) = F j := by rw [← hF]
    have f1 : fcM H m = f := by rw [fcM_same P.1.same, hf]
    refine wX11_worthOf_13 ?_
    simp only [shM S1, e1, v1, e2, v2, eI 221 r (by omega), hc, b40, nI_mul, nI_add, nI_1, eI 220 _ (show ¬ (220 = 222 ∨ (220 = 200 ∧ 40 * r + j = 22)) by omega), eF, ne_eq]
    have evj : ev F f (j + 1) = evS f (F j) (ev F f j) := rfl
    refine ⟨trivial, by decide, trivial, trivial, Bf (cnt_le (by omega) (by omega)) ⟨by decide, trivial, trivial, fun v ev8 => ?_⟩⟩
    subst ev8
    rw [evj] at ih
    rw [show 40 * r + (j + 1) = 40 * r + j + 1 by omega] at ih
    clear evj hev eF hF ht
    revert cs ih P
    generalize ev F f j = s
    generalize F j = c'
    intro ih P cs
    refine s_X11_isDigit (zb_if (fun dg => ?_) (fun nd => ?_))
    · unfold evS at ih
      rw [if_pos dg] at ih
      rw [Int32.mul_comm]
      exact ih H P
    · unfold evS at ih
      rw [if_neg nd] at ih
      rcases cs with q | ⟨q, q2⟩ | ⟨q, q2, q3⟩ | ⟨q, q2, q4, q3⟩ | ⟨q, q2, q4, q3⟩
      · exact absurd q nd
      · subst q
        rw [if_pos rfl] at ih
        exact ⟨fun z => absurd rfl z, fun _ => ⟨P.2.1.1, s_X11_lay P q2 ih⟩⟩
      · rw [if_neg (fa_nd q).2.1, if_pos q] at ih
        refine ⟨fun _ => s_X11_isFact (zb_if (fun _ => ⟨P.2.1.1, s_X11_factOf k1 hm ⟨P.2.1.1, s_X11_lay P q2 ?_⟩⟩) (fun z => absurd q z)), fun z => absurd z (fa_nd q).2.1⟩
        rw [f1, q3]
        exact ih
      · subst q
        rw [if_neg (by decide), if_neg (by decide), if_pos rfl] at ih
        obtain ⟨n, hm⟩ : ∃ n, s.2.1 = n + 1 := ⟨s.2.1 - 1, by omega⟩
        rw [hm] at P ih
        rw [Nat.add_sub_cancel] at ih
        refine ⟨fun _ => s_X11_isFact (zb_if (fun z => absurd z (by decide)) (fun _ => ⟨fun z => absurd rfl z, fun _ => ?_⟩)), fun z => absurd z (by decide)⟩
        refine ⟨P.2.1.1, by rw [P.2.1.2.1]; decide, fun h33 e33 => ?_⟩
        have c0 := P.2.2.1
        have c3 : zI h33 200 22 = nI n := by rw [e33, zI_sIs, c0, nI_pred]
        have g3 : ∀ j, j < n + 1 → zI h33 222 j = s.1 j := fun j hj => by rw [e33, zI_sIa (by decide)]; exact P.2.2.2 j hj
        have P3 : PM h h33 s.1 n := by
          refine ⟨⟨by rw [e33, zK_sI]; exact P.1.1, by rw [e33, zN_sI]; exact P.1.2.1, by rw [e33, zR_sI]; exact P.1.2.2.1, by rw [e33]; exact P.1.2.2.2.1, fun a j z => by rw [e33, zI_sIn (by omega)]; exact P.1.2.2.2.2 a j z⟩, ?_, c3, fun j hj => g3 j (by omega)⟩
          have kq := P.2.1
          rw [e33]; exact kq
        rw [P.2.1.2.1, P3.2.1.1, P3.2.1.2.2.1, P3.2.1.2.2.2, c3, nI_clamp (by omega), g3 n (by omega)]
        refine ⟨rfl, rfl, vp_in_nI (by omega) (by omega), fun z => ?_, fun z => ?_⟩
        · rw [zb_f z] at ih
          refine s_X11_lay P3 (by omega) ?_
          rw [q3]
          exact ih
        · rw [zb_t z] at ih
          refine s_X11_lay P3 (by omega) ?_
          rw [q3]
          exact ih
      · have nn := ac_nd q
        rw [if_neg nn.2.1, if_neg nn.2.2.2, if_neg nn.2.2.1] at ih
        obtain ⟨n, hm⟩ : ∃ n, s.2.1 = n + 2 := ⟨s.2.1 - 2, by omega⟩
        rw [hm] at P ih
        rw [Nat.add_sub_cancel] at ih
        refine ⟨fun _ => s_X11_isFact (zb_if (fun z => absurd z nn.2.2.2) (fun _ => ⟨fun _ => ?_, fun z => absurd z nn.2.2.1⟩)), fun z => absurd z nn.2.1⟩
        refine ⟨P.2.1.1, by rw [P.2.1.2.1]; decide, fun h33 e33 => ?_⟩
        have c0 := P.2.2.1
        have c3 : zI h33 200 22 = nI n := by rw [e33, zI_sIs, c0, show (2 : Int32) = 1 + 1 by decide, ← Int32.sub_sub, nI_pred, nI_pred]
        have g3 : ∀ j, j < n + 2 → zI h33 222 j = s.1 j := fun j hj => by rw [e33, zI_sIa (by decide)]; exact P.2.2.2 j hj
        have P3 : PM h h33 s.1 n := by
          refine ⟨⟨by rw [e33, zK_sI]; exact P.1.1, by rw [e33, zN_sI]; exact P.1.2.1, by rw [e33, zR_sI]; exact P.1.2.2.1, by rw [e33]; exact P.1.2.2.2.1, fun a j z => by rw [e33, zI_sIn (by omega)]; exact P.1.2.2.2.2 a j z⟩, ?_, c3, fun j hj => g3 j (by omega)⟩
          have kq := P.2.1
          rw [e33]; exact kq
        rw [P.2.1.2.1, P3.2.1.1, P3.2.1.2.1, P3.2.1.2.2.1, P3.2.1.2.2.2, c3, nI_1, nI_clamp (by omega), nI_clamp (n := n + 1) (by omega), g3 n (by omega), g3 (n + 1) (by omega)]
        refine ⟨rfl, rfl, vp_in_nI (by omega) (by omega), by decide, rfl, vp_in_nI (by omega) (by omega), s_X11_actOn ⟨P3.2.1.1, s_X11_lay P3 (by omega) ?_⟩⟩
        rw [q3]
        exact ih
end WORTH
