section OPS4
variable {h : ZH} {i L : Nat} {xs : Nat → Int32}
set_option maxHeartbeats 4000000 in
theorem op_say {l1 : Int32} (J : Jx h i L xs) : ZcI mX10_say [.ref 10, .int l1] h (fun v h1 => ZcI mX11_say [.ref 200, .int l1] h1 (fun v' h2 => v = v' ∧ Jx h2 (i + 1) L xs)) := by
  have J0 := J
  obtain ⟨np, nm, nh, nw, ns, mo, ⟨S, C, T, P, M, St, G, R, W, V, X⟩, q1, q2⟩ := J
  have kX : zK h 10 = 11 := (shX S).1
  have kM : zK h 200 = 12 := (shM S).1
  have cp := C.1
  have cm := C.2.1
  have ch := C.2.2.1
  have cw := C.2.2.2.1
  have cs := C.2.2.2.2.1
  have b1 : np < 2 ^ 31 := by omega
  have b2 : nm < 2 ^ 31 := by omega
  have b3 : nh < 2 ^ 31 := by omega
  by_cases c1 : 33 ≤ l1 ∧ l1 ≤ 126
  rotate_left
  · exact wX10_say (X10_within_f c1 (N0 (wX11_say (X11_in_f c1 rfl rfl (N0 ⟨rfl, J0.up⟩)))))
  refine wX10_say (X10_within_t c1 (N1 ?_))
  simp only [shX S, ne_eq]
  refine ⟨trivial, by decide, trivial, wX8_add ?_⟩
  have e1 := nI_clamp (n := ns) (by omega)
  simp only [shX S, cs, ne_eq, e1, forall_eq]
  refine ⟨trivial, ?_⟩
  by_cases c2 : ns < 40
  rotate_left
  · have e40 : ns = 40 := by omega
    subst e40
    refine Bf (by decide) (Bt' trivial (wX11_say (X11_in_t c1 rfl rfl (N1 ?_))))
    simp only [shM S, cs, ne_eq]
    exact ⟨trivial, by decide, trivial, by decide, Bt' rfl ⟨trivial, J0.up⟩⟩
  have v1 : vp_in (nI ns) 40 := vp_in_nI (by omega) (by omega)
  have v2 : vp_in (120 + nI ns) 160 := by rw [show (120 : Int32) = nI 120 from rfl, nI_add]; exact vp_in_nI (by omega) (by omega)
  have e2 : (120 + nI ns).toNatClampNeg = 120 + ns := by rw [show (120 : Int32) = nI 120 from rfl, nI_add, nI_clamp (by omega)]
  refine Bt (nI_lt (b := 40) (by omega) (by omega)) ?_
  simp (disch := omega) only [zK_sI, zN_sI, zR_sI, zI_sIa, cs, shX S, v1, ne_eq]
  refine ⟨by decide, trivial, trivial, trivial, N1 ?_⟩
  simp (disch := omega) only [zK_sI, zN_sI, zR_sI, zI_sIs, cs, shX S, ne_eq]
  refine ⟨trivial, by decide, trivial, ?_⟩
  refine wX11_say (X11_in_t c1 rfl rfl (N1 ?_))
  simp (disch := omega) only [zK_sI, zN_sI, zR_sI, zI_sIs, zI_sIa, cs, shM S, e2, v2, ne_eq, forall_eq]
  refine ⟨trivial, by decide, trivial, by decide, Bf' (fun q => absurd q (by rw [show (40 : Int32) = nI 40 from rfl, nI_eq (by omega) (by omega)]; omega)) ⟨by decide, trivial, trivial, trivial, by decide, trivial, by decide, trivial, by decide, trivial, ?_⟩⟩
  refine Jx.nm (fun H2 eH => ?_)
  have E : ∀ a j, ¬ ((a = 24 ∧ j = 1) ∨ (a = 25 ∧ j = ns) ∨ (a = 220 ∧ j = 120 + ns) ∨ (a = 221 ∧ j = 3)) → zI H2 a j = zI h a j := fun a j q => by rw [eH]; simp (disch := omega) only [zI_sIn]
  have C0 : JC H2 (i + 1) np nm nh nw (ns + 1) mo := by
    have := C.up
    subst eH
    unfold JC at this ⊢
    simp (disch := omega) only [zI_sIs, zI_sIa, zI_sIj]
    exact ⟨this.1, this.2.1, this.2.2.1, this.2.2.2.1, ⟨nI_1 ns, nI_1 ns, by omega⟩, this.2.2.2.2.2⟩
  have G0 : JG H2 (ns + 1) := fun k hk => by
    subst eH
    by_cases e : k = ns
    · subst e
      simp (disch := omega) only [zI_sIs, zI_sIa, zI_sIj]
      exact ⟨trivial, rg_of c1 (by decide) (by decide)⟩
    · have := G k (by omega)
      simp (disch := omega) only [zI_sIs, zI_sIa, zI_sIj]
      exact this
  exact ⟨np, nm, nh, nw, ns + 1, mo, ⟨by subst eH; exact S, C0, T.congr (fun a j q => E a j (by omega)), P.congr (fun a j q => E a j (by omega)) cp.2.2.2, M.congr (fun a j q => E a j (by omega)) cm.2.2, St.congr (fun a j q => E a j (by omega)), G0, R.congr (fun a j q => E a j (by omega)), W.congr (fun a j q => E a j (by omega)), V.congr (fun a j q => E a j (by omega)), X.congr (fun a j q => E a j (by omega)) ch.2.2⟩, by subst eH; exact q1, fun j hj => by rw [E 4 j (by omega)]; exact q2 j hj⟩
set_option maxHeartbeats 4000000 in
theorem op_way {l1 l2 l3 : Int32} (J : Jx h i L xs) : ZcI mX10_way [.ref 10, .int l1, .int l2, .int l3] h (fun v h1 => ZcI mX11_way [.ref 200, .int l1, .int l2, .int l3] h1 (fun v' h2 => v = v' ∧ Jx h2 (i + 1) L xs)) := by
  have J0 := J
  obtain ⟨np, nm, nh, nw, ns, mo, ⟨S, C, T, P, M, St, G, R, W, V, X⟩, q1, q2⟩ := J
  have kX : zK h 10 = 11 := (shX S).1
  have kM : zK h 200 = 12 := (shM S).1
  have cp := C.1
  have cm := C.2.1
  have ch := C.2.2.1
  have cw := C.2.2.2.1
  have cs := C.2.2.2.2.1
  have b1 : np < 2 ^ 31 := by omega
  have b2 : nm < 2 ^ 31 := by omega
  have b3 : nh < 2 ^ 31 := by omega
  by_cases c1 : 0 ≤ l1 ∧ l1 ≤ nI np - 1
  rotate_left
  · exact wX10_way ⟨kX, X10_pit_f kX cp.2.1 c1 (Z0 (wX11_way ⟨kM, X11_pit_f kM cp.1 c1 (Z0 ⟨rfl, J0.up⟩)⟩))⟩
  obtain ⟨p, hp, rfl⟩ := in_cnt b1 c1
  by_cases c2 : 0 ≤ l2 ∧ l2 ≤ nI np - 1
  rotate_left
  · exact wX10_way ⟨kX, X10_pit_t kX cp.2.1 b1 hp (Z1 ⟨kX, X10_pit_f kX cp.2.1 c2 (Z0 (wX11_way ⟨kM, X11_pit_t kM cp.1 b1 hp (Z1 ⟨kM, X11_pit_f kM cp.1 c2 (Z0 ⟨rfl, J0.up⟩)⟩)⟩))⟩)⟩
  obtain ⟨p2, hp2, rfl⟩ := in_cnt b1 c2
  by_cases c3 : nI p = nI p2
  · exact wX10_way ⟨kX, X10_pit_t kX cp.2.1 b1 hp (Z1 ⟨kX, X10_pit_t kX cp.2.1 b1 hp2 (Z1 (Bt' c3 (wX11_way ⟨kM, X11_pit_t kM cp.1 b1 hp (Z1 ⟨kM, X11_pit_t kM cp.1 b1 hp2 (Z1 (Bt' c3 ⟨rfl, J0.up⟩))⟩)⟩)))⟩)⟩
  have c3' : p ≠ p2 := fun e => c3 (by rw [e])
  by_cases c4 : 0 ≤ l3 ∧ l3 ≤ 1000
  rotate_left
  · exact wX10_way ⟨kX, X10_pit_t kX cp.2.1 b1 hp (Z1 ⟨kX, X10_pit_t kX cp.2.1 b1 hp2 (Z1 (Bf' c3 (X10_within_f c4 (N0 (wX11_way ⟨kM, X11_pit_t kM cp.1 b1 hp (Z1 ⟨kM, X11_pit_t kM cp.1 b1 hp2 (Z1 (Bf' c3 (X11_in_f c4 rfl rfl (N0 ⟨rfl, J0.up⟩))))⟩)⟩)))))⟩)⟩
  refine wX10_way ⟨kX, X10_pit_t kX cp.2.1 b1 hp (Z1 ⟨kX, X10_pit_t kX cp.2.1 b1 hp2 (Z1 (Bf' c3 (X10_within_t c4 (N1 ?_))))⟩)⟩
  have e1 := nI_clamp (n := nw) (by omega)
  simp only [shX S, shW S, cw, ne_eq]
  refine ⟨trivial, by decide, trivial, ?_⟩
  by_cases c5 : nw < 12
  rotate_left
  · have e12 : nw = 12 := by omega
    subst e12
    refine Bf (by decide) (wX11_way ⟨kM, X11_pit_t kM cp.1 b1 hp (Z1 ⟨kM, X11_pit_t kM cp.1 b1 hp2 (Z1 (Bf' c3 (X11_in_t c4 rfl rfl (N1 ⟨kM, ?_⟩))))⟩)⟩)
    simp only [shM S, cw, ne_eq]
    exact Bt' rfl ⟨trivial, J0.up⟩
  have v1 : vp_in (nI nw) 12 := vp_in_nI (by omega) (by omega)
  have n12 : ¬ nI nw = 12 := by rw [show (12 : Int32) = nI 12 from rfl, nI_eq (by omega) (by omega)]; omega
  have l12 : nI nw < 12 := nI_lt (b := 12) (by omega) (by omega)
  refine Bt l12 (wX9_addWay ?_)
  simp only [shW S, cw, ne_eq, e1, v1, forall_eq]
  refine ⟨trivial, Bf (Int32.not_le.mpr l12) ?_⟩
  simp (disch := omega) only [zK_sI, zN_sI, zR_sI, zI_sIa, cw, shW S, v1, e1, ne_eq]
  refine ⟨by decide, trivial, trivial, by decide, trivial, trivial, trivial, by decide, trivial, trivial, trivial, trivial, ?_⟩
  simp (disch := omega) only [zK_sI, zN_sI, zR_sI, zI_sIs, shX S, shW S, ne_eq]
  refine ⟨trivial, by decide, trivial, ?_⟩
  refine wX11_way ⟨kM, X11_pit_t (h := zsI (zsI (zsI (zsI h 66 nw (nI p)) 67 nw (nI p2)) 68 nw l3) 60 9 (nI nw + 1)) kM (by simp (disch := omega) only [zI_sIa]; exact cp.1) b1 hp (Z1 ⟨kM, X11_pit_t (h := zsI (zsI (zsI (zsI h 66 nw (nI p)) 67 nw (nI p2)) 68 nw l3) 60 9 (nI nw + 1)) kM (by simp (disch := omega) only [zI_sIa]; exact cp.1) b1 hp2 (Z1 (Bf' c3 (X11_in_t c4 rfl rfl (N1 ⟨kM, ?_⟩))))⟩)⟩
  simp (disch := omega) only [zK_sI, zN_sI, zR_sI, zI_sIs, zI_sIa, cw, shM S, e1, v1, ne_eq, forall_eq]
  refine Bf' n12 ⟨by decide, trivial, trivial, by decide, trivial, trivial, trivial, by decide, trivial, trivial, trivial, trivial, trivial, trivial, ?_⟩
  refine Jx.nm (fun H2 eH => ?_)
  have E : ∀ a j, ¬ ((a = 60 ∧ j = 9) ∨ ((a = 66 ∨ a = 67 ∨ a = 68 ∨ a = 237 ∨ a = 238 ∨ a = 239) ∧ j = nw) ∨ (a = 200 ∧ j = 39)) → zI H2 a j = zI h a j := fun a j q => by rw [eH]; simp (disch := omega) only [zI_sIn]
  have C0 : JC H2 (i + 1) np nm nh (nw + 1) ns mo := by
    have := C.up
    subst eH
    unfold JC at this ⊢
    simp (disch := omega) only [zI_sIs, zI_sIa, zI_sIj]
    exact ⟨this.1, this.2.1, this.2.2.1, ⟨nI_1 nw, nI_1 nw, by omega⟩, this.2.2.2.2⟩
  have W0 : JW H2 np (nw + 1) := by
    refine ⟨fun p' hp' => ?_, fun p' hp' => ?_, fun w hw => ?_⟩
    · have := W.1 p' hp'
      subst eH
      simp (disch := omega) only [zI_sIs, zI_sIa, zI_sIj]
      exact this
    · have := W.2.1 p' hp'
      subst eH
      simp (disch := omega) only [zI_sIs, zI_sIa, zI_sIj]
      exact this
    · subst eH
      by_cases e : w = nw
      · subst e
        simp (disch := omega) only [zI_sIs, zI_sIa, zI_sIj]
        exact ⟨trivial, trivial, trivial, ⟨p, p2, hp, hp2, c3', rfl, rfl⟩, rg_of c4 (by decide) (by decide)⟩
      · have := W.2.2 w (by omega)
        simp (disch := omega) only [zI_sIs, zI_sIa, zI_sIj]
        exact this
  exact ⟨np, nm, nh, nw + 1, ns, mo, ⟨by subst eH; exact S, C0, T.congr (fun a j q => E a j (by omega)), P.congr (fun a j q => E a j (by omega)) cp.2.2.2, M.congr (fun a j q => E a j (by omega)) cm.2.2, St.congr (fun a j q => E a j (by omega)), G.congr (fun a j q => E a j (by omega)), R.congr (fun a j q => E a j (by omega)), W0, V.congr (fun a j q => E a j (by omega)), X.congr (fun a j q => E a j (by omega)) ch.2.2⟩, by subst eH; exact q1, fun j hj => by rw [E 4 j (by omega)]; exact q2 j hj⟩
end OPS4
