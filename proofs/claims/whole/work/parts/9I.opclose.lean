section OPCLOSE
variable {h : ZH} {np nm nh : Nat} {i L : Nat} {xs : Nat → Int32}
set_option maxHeartbeats 4000000 in
theorem op_close {l1 : Int32} (J : Jx h i L xs) : ZcI mX10_close [.ref 10, .int l1] h (fun v h1 => ZcI mX11_close [.ref 200, .int l1] h1 (fun v' h2 => v = v' ∧ Jx h2 (i + 1) L xs)) := by
  have J0 := J
  obtain ⟨np, nm, nh, nw, ns, mo, ⟨S, C, T, P, M, St, G, R, W, V, X⟩, q1, q2⟩ := J
  have kX : zK h 10 = 11 := (shX S).1
  have kM : zK h 200 = 12 := (shM S).1
  have cp := C.1
  have cm := C.2.1
  have ch := C.2.2.1
  have cw := C.2.2.2.1
  have cs := C.2.2.2.2.1
  have b1 : np < 2 ^ 31 := by omega
  have b2 : nm < 2 ^ 31 := by omega
  have b3 : nh < 2 ^ 31 := by omega
  have Q : MQ' h np nm nh := MQ'.of ⟨S, C, T, P, M, St, G, R, W, V, X⟩
  by_cases c1 : 0 ≤ l1 ∧ l1 ≤ nI np - 1
  rotate_left
  · exact wX10_close ⟨kX, X10_pit_f kX cp.2.1 c1 (N0 (wX11_close ⟨kM, X11_pit_f kM cp.1 c1 (N0 ⟨rfl, J0.up⟩)⟩))⟩
  obtain ⟨p, hp, rfl⟩ := in_cnt b1 c1
  have h8 := cp.2.2.2
  have ep := nI_clamp (n := p) (by omega)
  have vp : vp_in (nI p) 8 := vp_in_nI (by omega) (by omega)
  have p6 := (P.1 p hp).2.2.2.2.2.1
  refine wX10_close ⟨kX, X10_pit_t kX cp.2.1 b1 hp (N1 ?_)⟩
  simp only [shX S, shPit S hp, ep, vp, p6, ne_eq]
  refine ⟨trivial, by decide, trivial, trivial, by omega, trivial, fun ho => s_X10_work Q hp (fun n9 H c4 => N1 ?_) (fun n9 H e => N0 ?_), fun hc => ?_⟩
  rotate_left
  · have S1 := e.Sh S
    have cp1 : zI H 200 9 = nI np := by rw [e.2.2.2 _ _ (by unfold scr; omega)]; exact cp.1
    refine wX11_close ⟨(shM S1).1, X11_pit_t (shM S1).1 cp1 b1 hp (N1 ?_)⟩
    simp only [shM S1, ep, vp, e.2.2.2 208 p (by unfold scr; omega), ne_eq]
    refine ⟨trivial, by decide, trivial, trivial, fun _ => s_X11_findMove Q hp e.m (fun n9' => absurd n9' (by omega)) (fun _ H2 e2 MM => ?_), fun z => absurd z ho⟩
    have mb := (mvs_I (h := h) (pit := p) (m := nm)).1
    rw [(shM (e2.Sh S)).1, MM.1]
    exact ⟨rfl, fun z => absurd z (cnt_le (n := (mvs h p nm).1) (k := 9) (by omega) n9), fun _ => ⟨trivial, J0.up.same (e.trans e2.1)⟩⟩
  · refine wX11_close ⟨kM, X11_pit_t kM cp.1 b1 hp (N1 ?_)⟩
    simp only [shM S, ep, vp, ne_eq]
    exact ⟨trivial, by decide, trivial, trivial, fun z => absurd hc z, fun _ => ⟨trivial, J0.up⟩⟩
  have e := c4.1
  have S1 := e.Sh S
  have CIh : CI h np nm p (sls h p np) (mvs h p nm) := CI.of n9
  obtain ⟨a, b, x, ha, hb, hx, hL, c8, c9, c10⟩ := c4.2.2.2.2.2.2.2
  refine ⟨(shX S1).1, s_X10_carry Q CIh c4 hp (fun H1 F1 M1 P1 => ?_)⟩
  have S2 := S1.same F1.1 F1.2.1 F1.2.2.1
  have E1 := F1.2.2.2
  simp only [shX S2, shPit S2 hp, ep, vp, ne_eq]
  refine ⟨trivial, by decide, trivial, trivial, by omega, trivial, s_X4_shut S2 hp h8 (fun H2 kk kn kr E2 o2 z2 => ?_)⟩
  have S3 := S2.same kk kn kr
  have c83 : zI H2 35 8 = nI a := by rw [E2 _ _ (by omega) (by omega), E1 _ _ (by omega) (fun q hq => by omega)]; exact c8
  simp only [shX S3, shRe S3, c83, ne_eq]
  refine ⟨trivial, by decide, trivial, ?_⟩
  -- the model, at what the class has left
  have zm : zsm h H2 := ⟨kk.trans (F1.1.trans e.1), kn.trans (F1.2.1.trans e.2.1), kr.trans (F1.2.2.1.trans e.2.2.1), fun a' j q => by
    have n1 : ¬ (400 ≤ a' ∧ a' < 424) := fun z => q (by unfold scx; omega)
    have n2 : ¬ (300 ≤ a' ∧ a' < 324) := fun z => q (by unfold scx; omega)
    rw [E2 a' j (by omega) (by omega), E1 a' j (by omega) (fun p hp => by omega)]
    exact e.2.2.2 a' j (fun z => q (Or.inl z))⟩
  have cp3 : zI H2 200 9 = nI np := by rw [zm.2.2.2 _ _ (by unfold scx scr; omega)]; exact cp.1
  refine wX11_close ⟨(shM S3).1, X11_pit_t (shM S3).1 cp3 b1 hp (N1 ?_)⟩
  simp only [shM S3, ep, vp, zm.2.2.2 208 p (by unfold scx scr; omega), ne_eq]
  refine ⟨trivial, by decide, trivial, trivial, fun _ => s_X11_findMove Q hp zm (fun _ H3 c5 => ?_) (fun n9' => absurd n9' (by omega)), fun z => absurd z ho⟩
  have S4 := c5.1.Sh S
  have l9 : nI (mvs h p nm).1 ≤ 9 := nI_le (b := 9) n9 (by omega)
  simp only [shM S4, c5.2.2.1.1, c5.2.2.2.2, ne_eq]
  refine ⟨trivial, fun _ => ⟨by decide, trivial, by decide, ?_⟩, fun z => absurd l9 z⟩
  rw [(LfD ha hb hx hL).1]
  refine s_X11_closeL Q CIh c5 hp (fun H4 F4 M4 P4 Z4 T4 O4 O5 => ⟨rfl, ?_⟩)
  -- the state behind
  have zr := c5.1
  have E4 := F4.2.2.2
  have mb := (mvs_I (h := h) (pit := p) (m := nm)).1
  -- cells that nothing of this touches
  have EE : ∀ a' j, ¬ scr a' j → ¬ (400 ≤ a' ∧ a' < 424 ∧ (j = 4 ∨ j = 6)) → (∀ q, q < 8 → a' ≠ 302 + 3 * q) → ¬ (a' = 300 + 3 * p ∧ j = 5) → ¬ (a' = 215 ∨ a' = 217 ∨ a' = 209 ∨ a' = 208) → zI H4 a' j = zI h a' j := fun a' j q1 q2 q3 q4 q5 => by
    have n1 := q3 p (by omega)
    rw [E4 a' j q5, zr.1.2.2.2 a' j q1, E2 a' j q4 n1, E1 a' j q2 q3]
    exact e.2.2.2 a' j q1
  -- the class's own cells, as they stand at the end
  have cls : ∀ a' j, ¬ scr a' j → ¬ (a' = 215 ∨ a' = 217 ∨ a' = 209 ∨ a' = 208) → zI H4 a' j = zI H2 a' j := fun a' j q1 q5 => by
    rw [E4 a' j q5, zr.1.2.2.2 a' j q1]
  have m4 : ∀ m, m < nm → zI H4 (400 + m) 4 = zI H1 (400 + m) 4 ∧ zI H4 (400 + m) 6 = zI H1 (400 + m) 6 := fun m hm => by
    rw [cls _ _ (by unfold scr; omega) (by omega), cls _ _ (by unfold scr; omega) (by omega), E2 _ _ (by omega) (by omega), E2 _ _ (by omega) (by omega)]
    exact ⟨rfl, rfl⟩
  have eK : zK H4 = zK h := F4.1.trans (zr.2.1)
  have eN : zN H4 = zN h := F4.2.1.trans (zr.2.2.1)
  have eR : zR H4 = zR h := F4.2.2.1.trans (zr.2.2.2.1)
  have EA : ∀ a' j, ¬ scr a' j → ¬ (400 ≤ a' ∧ a' < 424) → ¬ (300 ≤ a' ∧ a' < 324) → ¬ (a' = 215 ∨ a' = 217 ∨ a' = 209 ∨ a' = 208) → zI H4 a' j = zI h a' j := fun a' j q1 q2 q3 q4 => EE a' j q1 (by omega) (fun q hq => by omega) (by omega) q4
  generalize hsl : sls h p np = sl at *
  generalize hmv : mvs h p nm = mv at *
  refine ⟨np, nm, nh, nw, ns, mo, ⟨S.same eK eN eR, C.up.congr (fun a' j q => EA a' j (by unfold scr; omega) (by omega) (by omega) (by omega)), T.congr (fun a' j q => EA a' j (by unfold scr; omega) (by omega) (by omega) (by omega)), ?_, ?_, St.congr (fun a' j q => EA a' j (by unfold scr; omega) (by omega) (by omega) (by omega)), G.congr (fun a' j q => EA a' j (by unfold scr; omega) (by omega) (by omega) (by omega)), R.congr (fun a' j q => EA a' j (by unfold scr; omega) (by omega) (by omega) (by omega)), W.congr (fun a' j q => EA a' j (by unfold scr; omega) (by omega) (by omega) (by omega)), V.congr (fun a' j q => EA a' j (by unfold scr; omega) (by omega) (by omega) (by omega)), X.congr (fun a' j q => EA a' j (by unfold scr; omega) (by omega) (by omega) (by omega)) ch.2.2⟩, by rw [eN]; exact q1, fun j hj => by rw [EA 4 j (by unfold scr; omega) (by omega) (by omega) (by omega)]; exact q2 j hj⟩
  · -- the pits
    obtain ⟨pa, pb, pc, pd⟩ := P
    refine ⟨fun q hq => ?_, fun q t hq ht => ?_, fun q h1 h2 => ?_, fun q t h1 h2 ht => ?_⟩
    · obtain ⟨w1, w2, w3, w4, w5, w6, w7, w8, w9⟩ := pa q hq
      have f : ∀ j, j ≠ 5 → zI H4 (300 + 3 * q) j = zI h (300 + 3 * q) j := fun j hj => EE _ _ (by unfold scr; omega) (by omega) (fun q' hq' => by omega) (by omega) (by omega)
      have f1 : ∀ j, zI H4 (301 + 3 * q) j = zI h (301 + 3 * q) j := fun j => EE _ _ (by unfold scr; omega) (by omega) (fun q' hq' => by omega) (by omega) (by omega)
      have mm : ∀ a', ¬ scr a' q → (203 ≤ a' ∧ a' ≤ 207) ∨ a' = 248 ∨ a' = 249 → zI H4 a' q = zI h a' q := fun a' s1 s2 => EA a' q s1 (by omega) (by omega) (by omega)
      rw [f1 0, f1 1, f 1 (by decide), f 2 (by decide), f 3 (by decide), f 6 (by decide), f 7 (by decide), mm 203 (by unfold scr; omega) (by omega), mm 204 (by unfold scr; omega) (by omega), mm 205 (by unfold scr; omega) (by omega), mm 206 (by unfold scr; omega) (by omega), mm 207 (by unfold scr; omega) (by omega), mm 248 (by unfold scr; omega) (by omega), mm 249 (by unfold scr; omega) (by omega)]
      have o5 : zI H4 (300 + 3 * q) 5 = zI H4 208 q ∧ (zI H4 208 q = 0 ∨ zI H4 208 q = 1) := by
        by_cases eq : q = p
        · subst eq
          rw [cls _ _ (by unfold scr; omega) (by omega), o2, O4]
          exact ⟨rfl, Or.inl rfl⟩
        · rw [EE _ _ (by unfold scr; omega) (by omega) (fun q' hq' => by omega) (by omega) (by omega), O5 q eq, zr.2.2.2.2 _ _ (by unfold scx scr; omega)]
          exact ⟨w6, w9.2.2.2.2.2.1⟩
      exact ⟨w1, w2, w3, w4, w5, o5.1, w7, w8, w9.1, w9.2.1, w9.2.2.1, w9.2.2.2.1, w9.2.2.2.2.1, o5.2, w9.2.2.2.2.2.2⟩
    · have pq := Q.post hq ht
      by_cases eq : q = p
      · subst eq
        rw [cls _ _ (by unfold scr; omega) (by omega), z2 t ht, Z4 t ht]
        exact ⟨rfl, by decide, by decide⟩
      · have p1 := P1 q t hq ht
        have p1' : zI H1 (302 + 3 * q) t = nI (pnN h q t - cgS sl (chi h sl mv) mv.1 q t) := p1
        rw [cls _ _ (by unfold scr; omega) (by omega), E2 _ _ (by omega) (by omega), p1', P4 q t hq ht eq]
        refine ⟨rfl, ?_⟩
        unfold rg
        rw [nI_toInt (by omega)]
        omega
    · rw [EA _ _ (by unfold scr; omega) (by omega) (by omega) (by omega)]; exact pc q h1 h2
    · rw [T4 _ (by omega), zr.2.2.2.2 _ _ (by unfold scx scr; omega)]; exact pd q t h1 h2 ht
  · -- the men
    intro m hm
    obtain ⟨w1, w2, w3, w4, w5, w6, w7, w8, w9, w10, w11, w12, w13, w14⟩ := M m hm
    have f : ∀ j, j ≠ 4 → j ≠ 6 → zI H4 (400 + m) j = zI h (400 + m) j := fun j h4 h6 => EE _ _ (by unfold scr; omega) (by omega) (fun q' hq' => by omega) (by omega) (by omega)
    have mm : ∀ a', (211 ≤ a' ∧ a' ≤ 214) ∨ a' = 216 → zI H4 a' m = zI h a' m := fun a' s => EA a' m (by unfold scr; omega) (by omega) (by omega) (by omega)
    rw [f 0 (by decide) (by decide), f 1 (by decide) (by decide), f 2 (by decide) (by decide), f 3 (by decide) (by decide), f 5 (by decide) (by decide), mm 211 (by omega), mm 212 (by omega), mm 213 (by omega), mm 214 (by omega), mm 216 (by omega), (m4 m hm).1, (m4 m hm).2]
    have key : ∃ v4 v6, zI H1 (400 + m) 4 = v4 ∧ zI H1 (400 + m) 6 = v6 ∧ zI H4 215 m = v4 ∧ zI H4 217 m = v6 ∧ rg v6 0 4 ∧ ((v6 = 0 ∧ ∃ q, q < np ∧ v4 = nI q) ∨ (v6 ≠ 0 ∧ v4 = -6)) := by
      by_cases ex : ∃ j, j < mv.1 ∧ mv.2.1 j = m
      · obtain ⟨j, hj, ej⟩ := ex
        have a1 := M1.1 j hj
        have a2 := M4.1 j hj
        rw [ej] at a1 a2
        refine ⟨_, _, a1.1, a1.2, a2.1, a2.2, ?_⟩
        obtain ⟨u1, u2, u3⟩ := CIh.2.2.2.1 j hj
        rw [ej] at u2
        have st0 : zI h 217 m = 0 := by
          rcases w14 with ⟨s0, _⟩ | ⟨_, s6⟩
          · exact s0
          · rw [s6] at u2
            exact absurd u2.symm (nI_ne6 (by omega))
        unfold vBm
        by_cases c : chi h sl mv j = 12
        · rw [if_pos c]
          exact ⟨⟨by decide, by decide⟩, Or.inr ⟨by decide, rfl⟩⟩
        · rw [if_neg c, ej, st0]
          have s1 := (CIh.2.2.2.2.2.2.1 j hj c).1
          exact ⟨(show rg (0 : Int32) 0 4 from ⟨by decide, by decide⟩), Or.inl ⟨rfl, _, (CIh.2.2.1 _ s1).1, rfl⟩⟩
      · have no : ∀ j, j < mv.1 → mv.2.1 j ≠ m := fun j hj ej => ex ⟨j, hj, ej⟩
        have a1 := M1.2 m hm no
        have a2 := M4.2 m hm no
        refine ⟨_, _, a1.1, a1.2, a2.1, a2.2, ?_⟩
        unfold vAm
        by_cases c : zI h 215 m = nI p ∧ truM h 0 m
        · rw [if_pos c]
          exact ⟨⟨by decide, by decide⟩, Or.inr ⟨by decide, rfl⟩⟩
        · rw [if_neg c]
          exact ⟨w13, w14⟩
    obtain ⟨v4, v6, x1, x2, x3, x4, x5, x6⟩ := key
    rw [x1, x2, x3, x4]
    exact ⟨w1, w2, w3, w4, rfl, w6, rfl, w8, w9, w10, w11, w12, x5, x6⟩
end OPCLOSE
