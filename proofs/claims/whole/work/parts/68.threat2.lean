section THREAT2
variable {h : ZH} {np nm nh : Nat} {i L : Nat} {xs : Nat → Int32}
theorem least_lt {D : Nat → Prop} (n : Nat) : ∃ m, m ≤ n ∧ (∀ j, j < m → ¬ D j) ∧ (m = n ∨ (m < n ∧ D m)) := by
  induction n with
  | zero => exact ⟨0, Nat.le_refl _, fun j hj => by omega, Or.inl rfl⟩
  | succ n ih =>
    obtain ⟨m, hm, k, e⟩ := ih
    rcases e with rfl | ⟨e1, e2⟩
    · by_cases d : D m
      · exact ⟨m, by omega, k, Or.inr ⟨by omega, d⟩⟩
      · refine ⟨m + 1, Nat.le_refl _, fun j hj => ?_, Or.inl rfl⟩
        by_cases e : j = m
        · rw [e]; exact d
        · exact k j (by omega)
    · exact ⟨m, by omega, k, Or.inr ⟨by omega, e2⟩⟩
set_option maxHeartbeats 4000000 in
theorem op_threat {l1 l2 : Int32} (hi : i < 1000) (J : Jx h i L xs) : ZcI mX10_threat [.ref 10, .int l1, .int l2] h (fun v h1 => ZcI mX11_threat [.ref 200, .int l1, .int l2] h1 (fun v' h2 => v = v' ∧ Jx h2 (i + 1) L xs)) := by
  have J0 := J
  obtain ⟨np, nm, nh, nw, ns, mo, ⟨S, C, T, P, M, St, G, R, W, V, X⟩, q1, q2⟩ := J
  have kX : zK h 10 = 11 := (shX S).1
  have kM : zK h 200 = 12 := (shM S).1
  have cp := C.1
  have cm := C.2.1
  have ch := C.2.2.1
  have cw := C.2.2.2.1
  have cs := C.2.2.2.2.1
  have b1 : np < 2 ^ 31 := by omega
  have b2 : nm < 2 ^ 31 := by omega
  have b3 : nh < 2 ^ 31 := by omega
  by_cases c1 : 0 ≤ l1 ∧ l1 ≤ nI np - 1
  rotate_left
  · exact wX10_threat ⟨kX, X10_pit_f kX cp.2.1 c1 (Z0 (wX11_threat ⟨kM, X11_pit_f kM cp.1 c1 (Z0 ⟨rfl, J0.up⟩)⟩))⟩
  obtain ⟨p, hp, rfl⟩ := in_cnt b1 c1
  by_cases c2 : 0 ≤ l2 ∧ l2 ≤ nI np - 1
  rotate_left
  · exact wX10_threat ⟨kX, X10_pit_t kX cp.2.1 b1 hp (Z1 ⟨kX, X10_pit_f kX cp.2.1 c2 (N0 (wX11_threat ⟨kM, X11_pit_t kM cp.1 b1 hp (Z1 ⟨kM, X11_pit_f kM cp.1 c2 (N0 ⟨rfl, J0.up⟩)⟩)⟩))⟩)⟩
  obtain ⟨st, hst, rfl⟩ := in_cnt b1 c2
  have hmo : mo ≤ 240 * i := C.2.2.2.2.2.1.2.2
  have m1 := C.2.2.2.2.2.1.1
  have m2 := C.2.2.2.2.2.1.2.1
  obtain ⟨W1, W2, W3⟩ := W
  have V0 := V
  clear V
  have hn8 := cp.2.2.2
  have e1 := nI_clamp (n := p) (by omega)
  have v1 : vp_in (nI p) 8 := vp_in_nI (by omega) (by omega)
  have e2 := nI_clamp (n := st) (by omega)
  have v2 : vp_in (nI st) 8 := vp_in_nI (by omega) (by omega)
  have dd := (W2 p hp).2.2.2.1
  by_cases d6 : zI h 236 p = -6
  rotate_left
  · have dn : ¬ zI h 236 p < 0 := fun q => by
      have := (W2 p hp).2.2.2.2.1.resolve_left d6
      have := tI_lt.mp q
      rw [tI_0] at this
      omega
    refine wX10_threat ⟨kX, X10_pit_t kX cp.2.1 b1 hp (Z1 ⟨kX, X10_pit_t kX cp.2.1 b1 hst (N1 ?_)⟩)⟩
    simp only [shX S, shW S, e1, v1, dd, ne_eq]
    refine ⟨trivial, by decide, trivial, by decide, trivial, trivial, fun q => absurd q d6, fun _ => ?_⟩
    refine wX11_threat ⟨kM, X11_pit_t kM cp.1 b1 hp (Z1 ⟨kM, X11_pit_t kM cp.1 b1 hst (N1 ?_)⟩)⟩
    simp only [shM S, e1, v1, ne_eq]
    exact ⟨trivial, by decide, trivial, trivial, fun q => absurd q dn, fun _ => ⟨trivial, J0.up⟩⟩
  have CC : WC h np nw := ⟨cp.2.2.2, cw.2.2, fun p hp => ⟨by have Pp := P.1 p hp; simp only [Pp, and_self], (W2 p hp).2.2.2.2.2.1⟩, fun v hv => (W3 v hv).2.2.2⟩
  have BB : WB h np (fun p => zI h 234 p) := fun p hp => (W2 p hp).2.2.2.2.2.2
  generalize er : (fun q => if q = st then (0 : Int32) else zI h 235 q) = r
  have hr : ∀ q, q < np → (r q = 0 ↔ zI h 235 q = 0 ∨ nI q = nI st) := fun q hq => by
    rw [← er]
    show (if q = st then (0 : Int32) else zI h 235 q) = 0 ↔ _
    by_cases c : q = st
    · rw [if_pos c, c]; exact ⟨fun _ => Or.inr rfl, fun _ => rfl⟩
    · rw [if_neg c]; exact ⟨Or.inl, fun x => x.resolve_right (fun y => c (nI_inj' (by omega) (by omega) y))⟩
  generalize ef : (fun p => zI h 234 p) = f at BB
  obtain ⟨n, hn, nD, yD⟩ := least_lt (D := fun k => zI h 207 p / 3 < mF h r np nw f (k + 1) p) 240
  -- the model
  have mod : ∀ H1, zK H1 = zK h → zN H1 = zN h → zR H1 = zR h → (∀ a j, ¬ (70 ≤ a ∧ a ≤ 78) → zI H1 a j = zI h a j) → ZcI mX11_threat [.ref 200, .int (nI p), .int (nI st)] H1 (fun v' h2 => (if n < 240 then nI n else -6) = v' ∧ Jx h2 (i + 1) L xs) := by
    intro H1 K1 N1' R1 E1
    have S1 := S.same K1 N1' R1
    have kM1 := (shM S1).1
    have z36 : zI H1 236 p < 0 := by rw [E1 236 p (by omega), d6]; decide
    refine wX11_threat ⟨kM1, X11_pit_t kM1 ((E1 200 9 (by omega)).trans cp.1) b1 hp (Z1 ⟨kM1, X11_pit_t kM1 ((E1 200 9 (by omega)).trans cp.1) b1 hst (N1 ?_)⟩)⟩
    simp only [shM S1, e1, v1, ne_eq]
    refine ⟨trivial, by decide, trivial, trivial, fun _ => ?_, fun q => absurd z36 q⟩
    rw [E1 200 41 (by omega), E1 200 42 (by omega)]
    -- what is kept
    have := down (I := fun k => ∀ H, zK H = zK h → zN H = zN h → zR H = zR h → (∀ a j, a ≠ 244 → zI H a j = zI H1 a j) → (∀ q, q < k → zI H 244 q = f q) → Zt mX11_threat (zPI (fun v' h2 => (if n < 240 then nI n else -6) = v' ∧ Jx h2 (i + 1) L xs)) 0 0 44 [some (.ref 200), some (.int (nI p)), some (.int (nI st)), some (.int (zI h 200 41)), some (.int (zI h 200 42)), some (.int (nI k)), none] [] H) (n := np) (fun H K N R' E Q => ?_) (fun q hq go H K N R' E Q => ?_)
    · exact this H1 K1 N1' R1 (fun _ _ _ => rfl) (fun q hq => by omega)
    rotate_left
    · have SH := S.same K N R'
      have o9 : zI H 200 9 = nI np := ((E 200 9 (by decide)).trans (E1 200 9 (by omega))).trans cp.1
      have o4 : zI H 234 q = f q := ((E 234 q (by decide)).trans (E1 234 q (by omega))).trans (by rw [← ef])
      have e3 := nI_clamp (n := q) (by omega)
      have v3 : vp_in (nI q) 8 := vp_in_nI (by omega) (by omega)
      refine wX11_threat_44 ⟨(shM SH).1, fun z => absurd z (by rw [o9]; exact cnt_le (by omega) hq), fun _ => ?_⟩
      simp only [shM SH, e3, v3, o4, ne_eq, nI_1]
      refine ⟨by decide, by decide, trivial, trivial, trivial, trivial, go _ (by rw [zK_sI]; exact K) (by rw [zN_sI]; exact N) (by rw [zR_sI]; exact R') (fun a j x => by rw [zI_sIa x]; exact E a j x) (fun x hx => ?_)⟩
      by_cases c : x = q
      · rw [c, zI_sIs]
      · rw [zI_sIj c]; exact Q x (by omega)
    · have SH := S.same K N R'
      have E' : ∀ a j, ¬ (a = 244 ∨ (70 ≤ a ∧ a ≤ 78)) → zI H a j = zI h a j := fun a j x => (E a j (by omega)).trans (E1 a j (by omega))
      have o9 : zI H 200 9 = nI np := (E' 200 9 (by omega)).trans cp.1
      have o39 : zI H 200 39 = nI nw := (E' 200 39 (by omega)).trans cw.1
      refine wX11_threat_44 ⟨(shM SH).1, fun _ => ?_, fun z => absurd (by rw [o9]; exact Int32.le_refl _) z⟩
      have ec : Ag H h := fun a j q => E' a j (by omega)
      have C1 : WC H np nw := ⟨CC.1, CC.2.1, fun p hp => by rw [ec 207 p (by omega), ec 233 p (by omega)]; exact CC.2.2.1 p hp, fun v hv => by rw [ec 237 v (by omega), ec 238 v (by omega), ec 239 v (by omega)]; exact CC.2.2.2 v hv⟩
      have B1 : WB H np f := fun p hp => by rw [ec 207 p (by omega)]; exact BB p hp
      have hr1 : ∀ q, q < np → (r q = 0 ↔ zI H 235 q = 0 ∨ nI q = nI st) := fun q hq => by rw [E' 235 q (by omega)]; exact hr q hq
      generalize edr : (fun p => zI h 236 p) = dr
      -- the end: all is put back
      have fin : ∀ k H' pu sp, Wx H' H 234 236 200 40 np (mF H r np nw f k) pu sp dr (nI mo) → Zt mX11_threat (zPI (fun v' h2 => (if n < 240 then nI n else -6) = v' ∧ Jx h2 (i + 1) L xs)) 0 0 124 [some (.ref 200), none, none, some (.int (zI h 200 41)), some (.int (zI h 200 42)), some (.int (if n < 240 then nI n else -6)), some (.int 0)] [] H' := by
        intro k H' pu sp V
        have := down (I := fun j => ∀ H', Wx H' H 234 236 200 40 np (fun q => if q < j then f q else mF H r np nw f k q) pu sp dr (nI mo) → Zt mX11_threat (zPI (fun v' h2 => (if n < 240 then nI n else -6) = v' ∧ Jx h2 (i + 1) L xs)) 0 0 124 [some (.ref 200), none, none, some (.int (zI h 200 41)), some (.int (zI h 200 42)), some (.int (if n < 240 then nI n else -6)), some (.int (nI j))] [] H') (n := np) (fun H' V => ?_) (fun q hq go H' V => ?_)
        · exact this H' (Wx.ext V (fun q _ => by rw [if_neg (by omega)]))
        · have o9' : zI H' 200 9 = nI np := (V.2.2.2.1 200 9 (by omega)).trans o9
          refine wX11_threat_124 ⟨(shM (SH.same V.1 V.2.1 V.2.2.1)).1, fun _ => ⟨rfl, ?_⟩, fun z => absurd (by rw [o9']; exact Int32.le_refl _) z⟩
          have U := Wx.setS (v := zI h 200 42) (by omega) (Wx.setP (v := zI h 200 41) (by omega) V)
          refine Jx.nm (fun H2 eH => ?_)
          rw [← eH] at U
          clear eH V
          have EE : ∀ a j, ¬ (a = 244 ∨ (70 ≤ a ∧ a ≤ 78) ∨ a = 234 ∨ a = 236 ∨ (a = 200 ∧ (j = 40 ∨ j = 41 ∨ j = 42))) → zI H2 a j = zI h a j := fun a j q => (U.2.2.2.1 a j (by omega)).trans (E' a j (by omega))
          have f4 : ∀ q, q < 8 → zI H2 234 q = zI h 234 q := fun q hq => by
            rw [U.2.2.2.2.1 q hq]
            show (if q < np then f q else mF H r np nw f k q) = _
            by_cases c : q < np
            · rw [if_pos c, ← ef]
            · rw [if_neg c, mF_out C1 (by omega) k, ← ef]
          have f6 : ∀ q, q < np → zI H2 236 q = zI h 236 q := fun q hq => by rw [U.2.2.2.2.2.1 q hq, ← edr]
          have g0 : zI H2 200 40 = zI h 200 40 := U.2.2.2.2.2.2.1.trans m1.symm
          have g1 : zI H2 200 41 = zI h 200 41 := U.2.2.2.2.2.2.2.1
          have g2 : zI H2 200 42 = zI h 200 42 := U.2.2.2.2.2.2.2.2
          refine ⟨np, nm, nh, nw, ns, mo, ⟨SH.same U.1 U.2.1 U.2.2.1, C.up.congr (fun a j q => ?_), T.congr (fun a j q => EE a j (by omega)), P.congr (fun a j q => EE a j (by omega)) cp.2.2.2, M.congr (fun a j q => EE a j (by omega)) cm.2.2, St.congr (fun a j q => EE a j (by omega)), G.congr (fun a j q => EE a j (by omega)), R.congr (fun a j q => EE a j (by omega)), ⟨fun p hp => ?_, fun p hp => ?_, fun v hv => ?_⟩, V0.congr (fun a j q => EE a j (by omega)), X.congr (fun a j q => EE a j (by omega)) ch.2.2⟩, by rw [U.2.1, N]; exact q1, fun j hj => by rw [EE 4 j (by omega)]; exact q2 j hj⟩
          · by_cases c : a = 200 ∧ (j = 40 ∨ j = 41 ∨ j = 42)
            · obtain ⟨rfl, rfl | rfl | rfl⟩ := c
              · exact g0
              · exact g1
              · exact g2
            · exact EE a j (by omega)
          · rw [EE 62 p (by omega), EE 63 p (by omega), EE 64 p (by omega), EE 233 p (by omega), f4 p hp]; exact W1 p hp
          · rw [EE 61 p (by omega), EE 64 p (by omega), EE 65 p (by omega), EE 207 p (by omega), EE 233 p (by omega), EE 235 p (by omega), f4 p (by omega), f6 p hp]; exact W2 p hp
          · rw [EE 66 v (by omega), EE 67 v (by omega), EE 68 v (by omega), EE 237 v (by omega), EE 238 v (by omega), EE 239 v (by omega)]; exact W3 v hv
        · have o9' : zI H' 200 9 = nI np := (V.2.2.2.1 200 9 (by omega)).trans o9
          have kept : zI H' 244 q = f q := (V.2.2.2.1 244 q (by omega)).trans (Q q hq)
          have e3 := nI_clamp (n := q) (by omega)
          have v3 : vp_in (nI q) 8 := vp_in_nI (by omega) (by omega)
          have SH' := SH.same V.1 V.2.1 V.2.2.1
          refine wX11_threat_124 ⟨(shM SH').1, fun z => absurd z (by rw [o9']; exact cnt_le (by omega) hq), fun _ => ?_⟩
          simp only [shM SH', e3, v3, kept, ne_eq, nI_1]
          refine ⟨by decide, by decide, trivial, trivial, trivial, trivial, go _ (Wx.ext (Wx.setF (by omega) V) (fun x _ => ?_))⟩
          unfold upI
          by_cases c : x = q
          · rw [if_pos c, if_pos (by omega), c]
          · rw [if_neg c]
            show (if x < q then f x else mF H r np nw f k x) = (if x < q + 1 then f x else mF H r np nw f k x)
            by_cases d : x < q
            · rw [if_pos d, if_pos (by omega)]
            · rw [if_neg d, if_neg (by omega)]
      -- the months
      have := down (I := fun k => ∀ H' pu sp, Wx H' H 234 236 200 40 np (mF H r np nw f k) pu sp dr (nI mo) → Zt mX11_threat (zPI (fun v' h2 => (if n < 240 then nI n else -6) = v' ∧ Jx h2 (i + 1) L xs)) 0 0 80 [some (.ref 200), some (.int (nI p)), some (.int (nI st)), some (.int (zI h 200 41)), some (.int (zI h 200 42)), some (.int (-6)), some (.int (nI k))] [] H') (n := n) (fun H' pu sp V => ?_) (fun k hk go H' pu sp V => ?_)
      · refine this H (zI h 200 41) (zI h 200 42) ⟨rfl, rfl, rfl, fun _ _ _ => rfl, fun q hq => ?_, fun q hq => ?_, ?_, ?_, ?_⟩
        · rw [E' 234 q (by omega), ← ef]; rfl
        · rw [E' 236 q (by omega), ← edr]
        · rw [E' 200 40 (by omega)]; exact m1
        · rw [E' 200 41 (by omega)]
        · rw [E' 200 42 (by omega)]
      · rcases yD with e | ⟨e, yd⟩
        · refine wX11_threat_80 ⟨fun _ => ?_, fun z => absurd (by rw [e]; decide) z⟩
          have := fin n H' pu sp V
          rw [if_neg (show ¬ n < 240 by omega)] at this
          rw [if_neg (show ¬ n < 240 by omega)]
          exact this
        · refine wX11_threat_80 ⟨fun z => absurd z (cnt_le (n := 240) (by omega) e), fun _ => ⟨fun z => absurd z (by decide), fun _ => ⟨(shM (SH.same V.1 V.2.1 V.2.2.1)).1, s_X11_monthOn SH o9 o39 hr1 C1 V (fun H2 V2 => ⟨(shM (SH.same V2.1 V2.2.1 V2.2.2.1)).1, s_X11_isDrowned SH C1 (mF_WB (r := r) C1 B1 (n + 1)) V2 hp ⟨fun z => ?_, fun _ => ?_⟩⟩)⟩⟩⟩
          · refine absurd ?_ (zb_eq0.mp z)
            show zI H 207 p / 3 < mF H r np nw f (n + 1) p
            rw [mF_c ec, ec 207 p (by omega)]
            exact yd
          · have f1 := fin (n + 1) H2 _ _ V2
            rw [if_pos e] at f1
            rw [if_pos e]
            rw [nI_1]
            exact wX11_threat_80 ⟨fun _ => f1, fun _ => ⟨fun _ => f1, fun z => absurd (nI_pos' (by omega)) z⟩⟩
      · refine wX11_threat_80 ⟨fun z => absurd z (cnt_le (n := 240) (by omega) (by omega)), fun _ => ⟨fun z => absurd z (by decide), fun _ => ⟨(shM (SH.same V.1 V.2.1 V.2.2.1)).1, s_X11_monthOn SH o9 o39 hr1 C1 V (fun H2 V2 => ⟨(shM (SH.same V2.1 V2.2.1 V2.2.2.1)).1, s_X11_isDrowned SH C1 (mF_WB (r := r) C1 B1 (k + 1)) V2 hp ⟨fun _ => ?_, fun z => ?_⟩⟩)⟩⟩⟩
        · rw [nI_1]
          exact go H2 _ _ V2
        · refine absurd (zb_f ?_) z
          show ¬ zI H 207 p / 3 < mF H r np nw f (k + 1) p
          rw [mF_c ec, ec 207 p (by omega)]
          exact nD k hk
  -- the class
  refine wX10_threat ⟨kX, X10_pit_t kX cp.2.1 b1 hp (Z1 ⟨kX, X10_pit_t kX cp.2.1 b1 hst (N1 ?_)⟩)⟩
  simp only [shX S, shW S, shT S, e1, v1, dd, ne_eq]
  refine ⟨trivial, by decide, trivial, by decide, trivial, trivial, fun _ => ⟨by decide, trivial, s_X9_copy S (fun j hj => ?_) (fun a1 Q => ?_)⟩, fun z => absurd d6 z⟩
  · by_cases c : j < np
    · rw [(W2 j c).2.1]; exact (W2 j c).2.2.1
    · exact Or.inl ((W1 j hj).2.2 (by omega)).2.2
  have S1 := S.same Q.1 Q.2.1 Q.2.2.1
  simp only [shX S1, shT S1, e2, v2, ne_eq]
  refine ⟨trivial, by decide, trivial, by decide, trivial, trivial, ?_⟩
  generalize eh : zsI a1 74 st 0 = h0
  have K0 : zK h0 = zK h := by rw [← eh, zK_sI, Q.1]
  have N0' : zN h0 = zN h := by rw [← eh, zN_sI, Q.2.1]
  have R0 : zR h0 = zR h := by rw [← eh, zR_sI, Q.2.2.1]
  have F0 : ∀ a j, a ≠ 74 → zI h0 a j = zI a1 a j := fun a j q => by rw [← eh, zI_sIa q]
  have G0 : ∀ q, q < np → zI h0 74 q = r q := fun q hq => by
    rw [← eh, ← er]
    show _ = if q = st then (0 : Int32) else zI h 235 q
    by_cases c : q = st
    · rw [if_pos c, c, zI_sIs]
    · rw [if_neg c, zI_sIj c, (Q.2.2.2.2.1 q (by omega)).2.2.2.1, (W2 q hq).2.1]
  clear eh
  have S0 := S.same K0 N0' R0
  have E0 : ∀ a j, ¬ (70 ≤ a ∧ a ≤ 78) → zI h0 a j = zI h a j := fun a j q => (F0 a j (by omega)).trans (Q.2.2.2.1 a j q)
  have ec : Ag h0 h := fun a j q => E0 a j (by omega)
  have C1 : WC h0 np nw := ⟨CC.1, CC.2.1, fun p hp => by rw [ec 207 p (by omega), ec 233 p (by omega)]; exact CC.2.2.1 p hp, fun v hv => by rw [ec 237 v (by omega), ec 238 v (by omega), ec 239 v (by omega)]; exact CC.2.2.2 v hv⟩
  have B1 : WB h0 np f := fun p hp => by rw [ec 207 p (by omega)]; exact BB p hp
  have KK : WK h0 70 np nw r := by
    refine ⟨Or.inr rfl, ?_, ?_, fun q hq => ⟨?_, ?_, G0 q hq⟩, fun v hv => ⟨?_, ?_, ?_⟩⟩
    · rw [F0 70 5 (by decide), Q.2.2.2.2.2.2.1]; exact cp.2.2.1
    · rw [F0 70 9 (by decide), Q.2.2.2.2.2.2.2.1]; exact cw.2.1
    · rw [F0 71 q (by decide), (Q.2.2.2.2.1 q (by omega)).1, ec 207 q (by omega)]; exact (W2 q hq).1
    · rw [F0 72 q (by decide), (Q.2.2.2.2.1 q (by omega)).2.1, ec 233 q (by omega)]; exact (W1 q (by omega)).1
    · rw [F0 76 v (by decide), (Q.2.2.2.2.2.1 v (by omega)).1, ec 237 v (by omega)]; exact (W3 v hv).1
    · rw [F0 77 v (by decide), (Q.2.2.2.2.2.1 v (by omega)).2.1, ec 238 v (by omega)]; exact (W3 v hv).2.1
    · rw [F0 78 v (by decide), (Q.2.2.2.2.2.1 v (by omega)).2.2, ec 239 v (by omega)]; exact (W3 v hv).2.2.1
  have out : ∀ H pu sp dr m f', Wx H h0 73 75 70 10 np f' pu sp dr m → ZcI mX11_threat [.ref 200, .int (nI p), .int (nI st)] H (fun v' h2 => (if n < 240 then nI n else -6) = v' ∧ Jx h2 (i + 1) L xs) := fun H pu sp dr m f' V =>
    mod H (V.1.trans K0) (V.2.1.trans N0') (V.2.2.1.trans R0) (fun a j q => (V.2.2.2.1 a j (by omega)).trans (E0 a j q))
  have := down (I := fun k => ∀ H pu sp dr, Wx H h0 73 75 70 10 np (mF h0 r np nw f k) pu sp dr (nI (mo + k)) → dr p = -6 → Zt mX10_threat (zPI (fun v h1 => ZcI mX11_threat [.ref 200, .int (nI p), .int (nI st)] h1 (fun v' h2 => v = v' ∧ Jx h2 (i + 1) L xs))) 0 0 58 [some (.ref 10), some (.int (nI p)), none, some (.int (nI k))] [] H) (n := n) (fun H pu sp dr V hd => ?_) (fun k hk go H pu sp dr V hd => ?_)
  · refine this h0 _ _ (fun q => zI h 236 q) ⟨rfl, rfl, rfl, fun _ _ _ => rfl, fun q hq => ?_, fun q hq => ?_, ?_, rfl, rfl⟩ d6
    · rw [F0 73 q (by decide), (Q.2.2.2.2.1 q hq).2.2.1, (W1 q hq).2.1, ← ef]; rfl
    · rw [F0 75 q (by decide), (Q.2.2.2.2.1 q (by omega)).2.2.2.2, (W2 q hq).2.2.2.1]
    · rw [F0 70 10 (by decide), Q.2.2.2.2.2.2.2.2.1]; exact m2
  · rcases yD with e | ⟨e, yd⟩
    · refine wX10_threat_58 ⟨fun _ => ?_, fun z => absurd (by rw [e]; decide) z⟩
      have := out H pu sp dr _ _ V
      rw [if_neg (show ¬ n < 240 by omega)] at this
      exact this
    · have SH := S0.same V.1 V.2.1 V.2.2.1
      refine wX10_threat_58 ⟨fun z => absurd z (cnt_le (n := 240) (by omega) e), fun _ => ?_⟩
      simp only [shX SH, shT SH, ne_eq]
      refine ⟨trivial, by decide, trivial, s_X9_pass (w := 70) S0 KK C1 (mF_WB C1 B1 n) V (fun H2 V2 => ?_)⟩
      have SH2 := S0.same V2.1 V2.2.1 V2.2.2.1
      have dn : zI H2 75 p = nI (mo + n) := by
        have x := V2.2.2.2.2.2.1 p hp
        rw [x]
        unfold watD
        refine if_pos ⟨hp, hd, ?_⟩
        show zI h0 207 p / 3 < mF h0 r np nw f (n + 1) p
        rw [mF_c ec, ec 207 p (by omega)]
        exact yd
      simp only [shX SH2, shT SH2, e1, v1, dn, ne_eq]
      refine ⟨trivial, by decide, trivial, by decide, trivial, trivial, fun z => absurd z (nI_ne6 (by omega)), fun _ => ?_⟩
      have := out H2 _ _ _ _ _ V2
      rw [if_pos e] at this
      exact this
  · have SH := S0.same V.1 V.2.1 V.2.2.1
    refine wX10_threat_58 ⟨fun z => absurd z (cnt_le (n := 240) (by omega) (by omega)), fun _ => ?_⟩
    simp only [shX SH, shT SH, ne_eq]
    refine ⟨trivial, by decide, trivial, s_X9_pass (w := 70) S0 KK C1 (mF_WB C1 B1 k) V (fun H2 V2 => ?_)⟩
    have SH2 := S0.same V2.1 V2.2.1 V2.2.2.1
    have dn' : watD h0 (wat3 h0 r (wat2 h0 (wat1 h0 (mF h0 r np nw f k) np) nw) np) dr (nI (mo + k)) np p = -6 := by
      unfold watD
      rw [if_neg (fun x => ?_)]
      · exact hd
      · have x2 : zI h0 207 p / 3 < mF h0 r np nw f (k + 1) p := x.2.2
        rw [mF_c ec, ec 207 p (by omega)] at x2
        exact nD k hk x2
    have dn : zI H2 75 p = -6 := (V2.2.2.2.2.2.1 p hp).trans dn'
    simp only [shX SH2, shT SH2, e1, v1, dn, ne_eq, nI_1]
    refine ⟨trivial, by decide, trivial, by decide, trivial, trivial, fun _ => ?_, fun z => absurd trivial z⟩
    unfold WN at V2
    rw [nI_1] at V2
    exact go H2 _ _ _ V2 dn'
end THREAT2
