/-! the model alone: what the class has changed meanwhile does not matter to it -/
def scx (a j : Nat) : Prop := scr a j ∨ (400 ≤ a ∧ a < 424) ∨ (300 ≤ a ∧ a < 324)
def zsm (h h1 : ZH) : Prop := zK h1 = zK h ∧ zN h1 = zN h ∧ zR h1 = zR h ∧ ∀ a j, ¬ scx a j → zI h1 a j = zI h a j
theorem zsame.m {h h1 : ZH} (k : zsame h h1) : zsm h h1 := ⟨k.1, k.2.1, k.2.2.1, fun a j q => k.2.2.2 a j (fun z => q (Or.inl z))⟩
theorem zsm.trans {h h1 h2 : ZH} (k : zsm h h1) (q : zsm h1 h2) : zsm h h2 := ⟨q.1.trans k.1, q.2.1.trans k.2.1, q.2.2.1.trans k.2.2.1, fun a j z => (q.2.2.2 a j z).trans (k.2.2.2 a j z)⟩
/-- as the start but for what only serves, and as h to the model -/
def ZR (g h H : ZH) : Prop := zsame g H ∧ zsm h H
theorem ZR.start {g h : ZH} (e : zsm h g) : ZR g h g := ⟨zsame.rfl', e⟩
theorem ZR.trans {g h H H1 : ZH} (k : ZR g h H) (q : zsame H H1) : ZR g h H1 := ⟨k.1.trans q, k.2.trans q.m⟩
def LVm (h : ZH) (np nm nh : Nat) : Prop := Sh h np nm nh ∧ np ≤ 8 ∧ nm ≤ 24 ∧ (∀ m, m < nm → (∃ t, t < 6 ∧ zI h 214 m = nI t) ∧ (zI h 215 m = -6 ∨ ∃ p, p < np ∧ zI h 215 m = nI p) ∧ (zI h 216 m = 0 ∨ zI h 216 m = 1)) ∧
  ∀ r, r < 3 → zI h 221 r = -6 ∨ ∃ c, 1 ≤ c ∧ c ≤ 40 ∧ zI h 221 r = nI c ∧ okT (fun i => zI h 220 (40 * r + i)) c
section MODEL
variable {h : ZH} {np nm nh : Nat}
theorem zsm.Sh {H : ZH} (k : zsm h H) (S : Sh h np nm nh) : Sh H np nm nh := S.same k.1 k.2.1 k.2.2.1
theorem ZR.Sh {g H : ZH} (k : ZR g h H) (S : Sh h np nm nh) : Sh H np nm nh := k.2.Sh S
theorem LV.m (k : LV h np nm nh) : LVm h np nm nh := by
  obtain ⟨S, c, a, b, T, P, M, R⟩ := id k
  refine ⟨S, a, b, fun m hm => ?_, fun r hr => ?_⟩
  · obtain ⟨t, ht, et, hh⟩ := k.man hm
    exact ⟨⟨t, ht, et⟩, hh, (M m hm).2.2.2.2.2.2.2.2.2.2.2.1⟩
  · rcases R r hr with ⟨x1, x2⟩ | ⟨c, y1, y2, y3, y4, y5, y6⟩
    · exact Or.inl x1
    · exact Or.inr ⟨c, y1, y2, y3, y6⟩
theorem LVm.same {H : ZH} (k : LVm h np nm nh) (e : zsm h H) : LVm H np nm nh := by
  obtain ⟨S, a, b, M, R⟩ := k
  have q := e.2.2.2
  refine ⟨e.Sh S, a, b, fun m hm => ?_, fun r hr => ?_⟩
  · rw [q 214 m (by unfold scx scr; omega), q 215 m (by unfold scx scr; omega), q 216 m (by unfold scx scr; omega)]; exact M m hm
  · rw [q 221 r (by unfold scx scr; omega)]
    rcases R r hr with x | ⟨c, y1, y2, y3, y4⟩
    · exact Or.inl x
    · exact Or.inr ⟨c, y1, y2, y3, (okT_congr (fun i hi => q 220 _ (by unfold scx scr; omega))).mpr y4⟩
theorem wyN_sm {H : ZH} {t p : Nat} (e : zsm h H) : wyN H t p = wyN h t p := by
  have q := e.2.2.2
  unfold wyN
  rw [q 201 t (by unfold scx scr; omega), q 202 t (by unfold scx scr; omega), q 203 p (by unfold scx scr; omega), q 204 p (by unfold scx scr; omega)]
theorem wyM_sm {H : ZH} {m : Nat} (e : zsm h H) : wyM H m = wyM h m := by
  have q := e.2.2.2
  unfold wyM
  rw [q 215 m (by unfold scx scr; omega), q 214 m (by unfold scx scr; omega), wyN_sm e]
theorem fcM_sm {H : ZH} {m : Nat} (e : zsm h H) : fcM H m = fcM h m := by
  have q := e.2.2.2
  funext c
  unfold fcM
  rw [wyM_sm e, q 211 m (by unfold scx scr; omega), q 213 m (by unfold scx scr; omega), q 212 m (by unfold scx scr; omega), q 216 m (by unfold scx scr; omega)]
theorem evM_sm {H : ZH} {r m : Nat} (e : zsm h H) : evM H r m = evM h r m := by
  have q := e.2.2.2
  unfold evM
  rw [fcM_sm e, q 221 r (by unfold scx scr; omega)]
  congr 1
  funext j
  exact q 220 _ (by unfold scx scr; omega)
theorem truM_sm {H : ZH} {r m : Nat} (e : zsm h H) : truM H r m ↔ truM h r m := by
  unfold truM
  rw [evM_sm e, e.2.2.2 221 r (by unfold scx scr; omega)]
theorem s_X11_factOf' {ψ : Int32 → ZH → Prop} {m : Nat} {c : Int32} (k : LVm h np nm nh) (hm : m < nm) (q : ψ (fcM h m c) h) : ZcI mX11_factOf [.ref 200, .int (nI m), .int c] h ψ := by
  obtain ⟨⟨t, ht, et⟩, hh, m12⟩ := k.2.2.2.1 m hm
  have S := k.1
  have a := k.2.1
  have b := k.2.2.1
  have e1 := nI_clamp (n := m) (by omega)
  have v1 : vp_in (nI m) 24 := vp_in_nI (by omega) (by omega)
  refine wX11_factOf ?_
  simp only [shM S, e1, v1, ne_eq]
  unfold fcM at q
  refine ⟨fun z => ⟨trivial, by decide, trivial, trivial, ?_⟩, fun z => ⟨trivial, by decide, trivial, trivial, ?_⟩, fun z => ⟨trivial, by decide, trivial, trivial, ?_⟩, fun z => ⟨trivial, by decide, trivial, trivial, ?_⟩, fun n1 n2 n3 n4 => ⟨trivial, by decide, trivial, trivial, ?_⟩⟩
  · rw [if_pos z] at q; exact q
  · subst z
    rw [if_neg (by decide), if_neg (by decide), if_neg (by decide), if_pos rfl] at q
    refine ⟨fun y => ?_, fun y => ?_⟩
    · rw [y] at q; exact q
    · rw [m12.resolve_left y] at q; exact q
  · subst z
    rw [if_neg (by decide), if_neg (by decide), if_pos rfl] at q
    exact q
  · subst z
    rw [if_neg (by decide), if_pos rfl] at q
    exact q
  · rw [if_neg n1, if_neg n4, if_neg n3, if_neg n2] at q
    rcases hh with e | ⟨p, hp, e⟩
    · rw [wyM_6 e] at q
      rw [e]
      exact ⟨fun z => absurd z (by decide), fun _ => q⟩
    · rw [wyM_p (by omega) ht et e] at q
      rw [e, et]
      exact ⟨fun _ => ⟨by decide, trivial, trivial, s_X11_farTo S ht (by omega) q⟩, fun z => absurd (nI_pos' (by omega)) z⟩
set_option maxHeartbeats 4000000 in
theorem s_X11_worthOf' {ψ : Int32 → ZH → Prop} {r m c : Nat} (k : LVm h np nm nh) (hm : m < nm) (hr : r < 3) (hc : zI h 221 r = nI c) (h40 : c ≤ 40) (ok : okT (fun j => zI h 220 (40 * r + j)) c) (q : ∀ H, SM h H → ψ (evM h r m) H) : ZcI mX11_worthOf [.ref 200, .int (nI r), .int (nI m)] h ψ := by
  have S := k.1
  have kp : kPm h := ⟨(shM S).1, S.2.2.1 200 21 (by decide), S.1 222 (by decide), S.2.1 222 (by decide) (by decide)⟩
  have b40 : (40 : Int32) = nI 40 := rfl
  have e1 := nI_clamp (n := r) (by omega)
  have v1 : vp_in (nI r) 4 := vp_in_nI (by omega) (by omega)
  refine wX11_worthOf ⟨kp.1, ?_⟩
  generalize hF : (fun j => zI h 220 (40 * r + j)) = F at ok
  generalize hf : fcM h m = f
  have hev : evM h r m = (ev F f c).1 0 := by unfold evM evR; rw [hF, hf, hc, nI_clamp (by omega)]
  have := down (n := c) (I := fun k => ∀ H, PM h H (ev F f k).1 (ev F f k).2.1 → Zt mX11_worthOf (zPI ψ) 0 0 13 [some (.ref 200), some (.int (nI r)), some (.int (nI m)), some (.int (ev F f k).2.2), some (.int (nI (40 * r + k))), none] [] H) ?_ ?_
  · rw [b40, nI_mul]
    refine this _ ⟨⟨rfl, rfl, rfl, rfl, fun b j q => zI_sIn (by omega)⟩, kp, by rw [zI_sIs]; rfl, fun j hj => absurd hj (Nat.not_lt_zero _)⟩
  · intro H P
    have S1 := P.1.same.Sh S
    have eI := P.1.2.2.2.2
    refine wX11_worthOf_13 ?_
    have i1 := (ev_I (f := f) ok).1
    have i2 : (ev F f c).2.1 = 1 := by simpa using i1
    simp only [shM S1, e1, v1, eI 221 r (by omega), hc, b40, nI_mul, nI_add, ne_eq]
    refine ⟨trivial, by decide, trivial, trivial, fun _ => ⟨by decide, trivial, by decide, ?_⟩, fun z => absurd (Int32.le_refl _) z⟩
    rw [P.2.2.2 0 (by omega), ← hev]
    exact q H P.1
  · intro j hj ih H P
    have S1 := P.1.same.Sh S
    have k1 := k.same P.1.same.m
    have eI := P.1.2.2.2.2
    obtain ⟨t, ht⟩ := trun_le ⟨_, ok⟩ (c - (j + 1)) (j + 1) (by omega)
    have cs := ev_cases (f := f) ht
    have e2 := nI_clamp (n := 40 * r + j) (by omega)
    have v2 : vp_in (nI (40 * r + j)) 160 := vp_in_nI (by omega) (by omega)
    have eF : zI h 220 (40 * r + j) = F j := by rw [← hF]
    have f1 : fcM H m = f := by rw [fcM_same P.1.same, hf]
    refine wX11_worthOf_13 ?_
    simp only [shM S1, e1, v1, e2, v2, eI 221 r (by omega), hc, b40, nI_mul, nI_add, nI_1, eI 220 _ (show ¬ (220 = 222 ∨ (220 = 200 ∧ 40 * r + j = 22)) by omega), eF, ne_eq]
    have evj : ev F f (j + 1) = evS f (F j) (ev F f j) := rfl
    refine ⟨trivial, by decide, trivial, trivial, Bf (cnt_le (by omega) (by omega)) ⟨by decide, trivial, trivial, fun v ev8 => ?_⟩⟩
    subst ev8
    rw [evj] at ih
    rw [show 40 * r + (j + 1) = 40 * r + j + 1 by omega] at ih
    clear evj hev eF hF ht
    revert cs ih P
    generalize ev F f j = s
    generalize F j = c'
    intro ih P cs
    refine s_X11_isDigit (zb_if (fun dg => ?_) (fun nd => ?_))
    · unfold evS at ih
      rw [if_pos dg] at ih
      rw [Int32.mul_comm]
      exact ih H P
    · unfold evS at ih
      rw [if_neg nd] at ih
      rcases cs with q | ⟨q, q2⟩ | ⟨q, q2, q3⟩ | ⟨q, q2, q4, q3⟩ | ⟨q, q2, q4, q3⟩
      · exact absurd q nd
      · subst q
        rw [if_pos rfl] at ih
        exact ⟨fun z => absurd rfl z, fun _ => ⟨P.2.1.1, s_X11_lay P q2 ih⟩⟩
      · rw [if_neg (fa_nd q).2.1, if_pos q] at ih
        refine ⟨fun _ => s_X11_isFact (zb_if (fun _ => ⟨P.2.1.1, s_X11_factOf' k1 hm ⟨P.2.1.1, s_X11_lay P q2 ?_⟩⟩) (fun z => absurd q z)), fun z => absurd z (fa_nd q).2.1⟩
        rw [f1, q3]
        exact ih
      · subst q
        rw [if_neg (by decide), if_neg (by decide), if_pos rfl] at ih
        obtain ⟨n, hm⟩ : ∃ n, s.2.1 = n + 1 := ⟨s.2.1 - 1, by omega⟩
        rw [hm] at P ih
        rw [Nat.add_sub_cancel] at ih
        refine ⟨fun _ => s_X11_isFact (zb_if (fun z => absurd z (by decide)) (fun _ => ⟨fun z => absurd rfl z, fun _ => ?_⟩)), fun z => absurd z (by decide)⟩
        refine ⟨P.2.1.1, by rw [P.2.1.2.1]; decide, fun h33 e33 => ?_⟩
        have c0 := P.2.2.1
        have c3 : zI h33 200 22 = nI n := by rw [e33, zI_sIs, c0, nI_pred]
        have g3 : ∀ j, j < n + 1 → zI h33 222 j = s.1 j := fun j hj => by rw [e33, zI_sIa (by decide)]; exact P.2.2.2 j hj
        have P3 : PM h h33 s.1 n := by
          refine ⟨⟨by rw [e33, zK_sI]; exact P.1.1, by rw [e33, zN_sI]; exact P.1.2.1, by rw [e33, zR_sI]; exact P.1.2.2.1, by rw [e33]; exact P.1.2.2.2.1, fun a j z => by rw [e33, zI_sIn (by omega)]; exact P.1.2.2.2.2 a j z⟩, ?_, c3, fun j hj => g3 j (by omega)⟩
          have kq := P.2.1
          rw [e33]; exact kq
        rw [P.2.1.2.1, P3.2.1.1, P3.2.1.2.2.1, P3.2.1.2.2.2, c3, nI_clamp (by omega), g3 n (by omega)]
        refine ⟨rfl, rfl, vp_in_nI (by omega) (by omega), fun z => ?_, fun z => ?_⟩
        · rw [zb_f z] at ih
          refine s_X11_lay P3 (by omega) ?_
          rw [q3]
          exact ih
        · rw [zb_t z] at ih
          refine s_X11_lay P3 (by omega) ?_
          rw [q3]
          exact ih
      · have nn := ac_nd q
        rw [if_neg nn.2.1, if_neg nn.2.2.2, if_neg nn.2.2.1] at ih
        obtain ⟨n, hm⟩ : ∃ n, s.2.1 = n + 2 := ⟨s.2.1 - 2, by omega⟩
        rw [hm] at P ih
        rw [Nat.add_sub_cancel] at ih
        refine ⟨fun _ => s_X11_isFact (zb_if (fun z => absurd z nn.2.2.2) (fun _ => ⟨fun _ => ?_, fun z => absurd z nn.2.2.1⟩)), fun z => absurd z nn.2.1⟩
        refine ⟨P.2.1.1, by rw [P.2.1.2.1]; decide, fun h33 e33 => ?_⟩
        have c0 := P.2.2.1
        have c3 : zI h33 200 22 = nI n := by rw [e33, zI_sIs, c0, show (2 : Int32) = 1 + 1 by decide, ← Int32.sub_sub, nI_pred, nI_pred]
        have g3 : ∀ j, j < n + 2 → zI h33 222 j = s.1 j := fun j hj => by rw [e33, zI_sIa (by decide)]; exact P.2.2.2 j hj
        have P3 : PM h h33 s.1 n := by
          refine ⟨⟨by rw [e33, zK_sI]; exact P.1.1, by rw [e33, zN_sI]; exact P.1.2.1, by rw [e33, zR_sI]; exact P.1.2.2.1, by rw [e33]; exact P.1.2.2.2.1, fun a j z => by rw [e33, zI_sIn (by omega)]; exact P.1.2.2.2.2 a j z⟩, ?_, c3, fun j hj => g3 j (by omega)⟩
          have kq := P.2.1
          rw [e33]; exact kq
        rw [P.2.1.2.1, P3.2.1.1, P3.2.1.2.1, P3.2.1.2.2.1, P3.2.1.2.2.2, c3, nI_1, nI_clamp (by omega), nI_clamp (n := n + 1) (by omega), g3 n (by omega), g3 (n + 1) (by omega)]
        refine ⟨rfl, rfl, vp_in_nI (by omega) (by omega), by decide, rfl, vp_in_nI (by omega) (by omega), s_X11_actOn ⟨P3.2.1.1, s_X11_lay P3 (by omega) ?_⟩⟩
        rw [q3]
        exact ih
theorem s_X11_isSo' {ψ : Int32 → ZH → Prop} {r m : Nat} (k : LVm h np nm nh) (hm : m < nm) (hr : r < 3) (q : ∀ H, SM h H → ψ (zb (truM h r m)) H) : ZcI mX11_isSo [.ref 200, .int (nI r), .int (nI m)] h ψ := by
  have S := k.1
  have e1 := nI_clamp (n := r) (by omega)
  have v1 : vp_in (nI r) 4 := vp_in_nI (by omega) (by omega)
  refine wX11_isSo ?_
  simp only [shM S, e1, v1, ne_eq]
  refine ⟨trivial, by decide, trivial, trivial, ?_⟩
  rcases k.2.2.2.2 r hr with x1 | ⟨c, y1, y2, y3, y6⟩
  · have f : ¬ truM h r m := fun z => z.1 (by rw [x1]; decide)
    have := q h SM.rfl'
    rw [zb_f f] at this
    exact ⟨fun _ => this, fun z => absurd (by rw [x1]; decide) z⟩
  · have n0 : ¬ zI h 221 r < 0 := by rw [y3]; exact nI_pos (by omega)
    refine ⟨fun z => absurd z n0, fun _ => s_X11_worthOf' k hm hr y3 y2 y6 (fun H sm => ⟨fun z => ?_, fun z => ?_⟩)⟩
    · have := q H sm
      rw [zb_f (fun x => x.2 z)] at this
      exact this
    · have := q H sm
      rw [zb_t ⟨n0, z⟩] at this
      exact this
end MODEL
