section OPS3
variable {h : ZH} {i L : Nat} {xs : Nat → Int32}
set_option maxHeartbeats 4000000 in
theorem op_price {l1 l2 l3 : Int32} (J : Jx h i L xs) : ZcI mX10_price [.ref 10, .int l1, .int l2, .int l3] h (fun v h1 => ZcI mX11_price [.ref 200, .int l1, .int l2, .int l3] h1 (fun v' h2 => v = v' ∧ Jx h2 (i + 1) L xs)) := by
  have J0 := J
  obtain ⟨np, nm, nh, nw, ns, mo, ⟨S, C, T, P, M, St, G, R, W, V, X⟩, q1, q2⟩ := J
  have kX : zK h 10 = 11 := (shX S).1
  have kM : zK h 200 = 12 := (shM S).1
  have cp := C.1
  have cm := C.2.1
  have ch := C.2.2.1
  have cw := C.2.2.2.1
  have cs := C.2.2.2.2.1
  have b1 : np < 2 ^ 31 := by omega
  have b2 : nm < 2 ^ 31 := by omega
  have b3 : nh < 2 ^ 31 := by omega
  by_cases c1 : 0 ≤ l1 ∧ l1 ≤ 2
  rotate_left
  · exact wX10_price (X10_within_f c1 (Z0 (wX11_price (X11_in_f c1 rfl rfl (Z0 ⟨rfl, J0.up⟩)))))
  by_cases c2 : 0 ≤ l2 ∧ l2 ≤ 4
  rotate_left
  · exact wX10_price (X10_within_t c1 (Z1 (X10_within_f c2 (N0 (wX11_price (X11_in_t c1 rfl rfl (Z1 (X11_in_f c2 rfl rfl (N0 ⟨rfl, J0.up⟩)))))))))
  by_cases c3 : 0 ≤ l3 ∧ l3 ≤ 200
  rotate_left
  · exact wX10_price (X10_within_t c1 (Z1 (X10_within_t c2 (N1 (X10_within_f c3 (N0 (wX11_price (X11_in_t c1 rfl rfl (Z1 (X11_in_t c2 rfl rfl (N1 (X11_in_f c3 rfl rfl (N0 ⟨rfl, J0.up⟩)))))))))))))
  obtain ⟨r, hr, rfl⟩ := in_nI (n := 2) (by decide) c1
  obtain ⟨t, ht, rfl⟩ := in_nI (n := 4) (by decide) c2
  have e1 := nI_clamp (n := r) (by omega)
  have e2 := nI_clamp (n := t) (by omega)
  have e3 : (5 * nI r + nI t).toNatClampNeg = 5 * r + t := by rw [nI_lit5, nI_mul, nI_add, nI_clamp (by omega)]
  have v1 : vp_in (nI r) 3 := vp_in_nI (by omega) (by omega)
  have v2 : vp_in (nI t) 5 := vp_in_nI (by omega) (by omega)
  have v3 : vp_in (5 * nI r + nI t) 15 := by rw [nI_lit5, nI_mul, nI_add]; exact vp_in_nI (by omega) (by omega)
  have hr1 := shRow81 S (j := r) (by omega)
  have Vr := V r t (by omega) (by omega)
  refine wX10_price (X10_within_t c1 (Z1 (X10_within_t c2 (N1 (X10_within_t c3 (N1 ?_))))))
  simp only [shX S, shPl S, hr1, e1, e2, v1, v2, Vr.1, ne_eq, forall_eq]
  refine ⟨trivial, by decide, trivial, by decide, trivial, trivial, by omega, trivial, trivial, ?_⟩
  refine wX11_price (X11_in_t c1 rfl rfl (Z1 (X11_in_t c2 rfl rfl (N1 (X11_in_t c3 rfl rfl (N1 ?_))))))
  simp (disch := omega) only [zK_sI, zN_sI, zR_sI, zI_sIa, shM S, e3, v3, ne_eq, forall_eq]
  refine ⟨trivial, by decide, trivial, trivial, trivial, ?_⟩
  refine Jx.nm (fun H2 eH => ?_)
  have E : ∀ a j, ¬ ((a = 90 + r ∧ j = t) ∨ (a = 245 ∧ j = 5 * r + t)) → zI H2 a j = zI h a j := fun a j q => by rw [eH]; simp (disch := omega) only [zI_sIn, zI_sR]
  have eK : zK H2 = zK h := by rw [eH]; rfl
  have eN : zN H2 = zN h := by rw [eH]; rfl
  have eR : zR H2 = zR h := by rw [eH]; rfl
  refine ⟨np, nm, nh, nw, ns, mo, ⟨S.same eK eN eR, C.up.congr (fun a j q => E a j (by omega)), T.congr (fun a j q => E a j (by omega)), P.congr (fun a j q => E a j (by omega)) cp.2.2.2, M.congr (fun a j q => E a j (by omega)) cm.2.2, St.congr (fun a j q => E a j (by omega)), G.congr (fun a j q => E a j (by omega)), R.congr (fun a j q => E a j (by omega)), W.congr (fun a j q => E a j (by omega)), ?_, X.congr (fun a j q => E a j (by omega)) ch.2.2⟩, by rw [eN]; exact q1, fun j hj => by rw [E 4 j (by omega)]; exact q2 j hj⟩
  subst eH
  intro r' t' hr' ht'
  have := V r' t' hr' ht'
  by_cases e : 5 * r' + t' = 5 * r + t
  · obtain ⟨rfl, rfl⟩ : r' = r ∧ t' = t := by omega
    simp (disch := omega) only [zI_sIs, zI_sIa, zI_sIj]
    exact ⟨trivial, rg_of c3 (by decide) (by decide)⟩
  · by_cases e2 : r' = r
    · subst e2
      simp (disch := omega) only [zI_sIs, zI_sIa, zI_sIj]
      exact this
    · simp (disch := omega) only [zI_sIs, zI_sIa, zI_sIj]
      exact this
set_option maxHeartbeats 4000000 in
theorem op_worked {l1 l2 l3 : Int32} (J : Jx h i L xs) : ZcI mX10_worked [.ref 10, .int l1, .int l2, .int l3] h (fun v h1 => ZcI mX11_worked [.ref 200, .int l1, .int l2, .int l3] h1 (fun v' h2 => v = v' ∧ Jx h2 (i + 1) L xs)) := by
  have J0 := J
  obtain ⟨np, nm, nh, nw, ns, mo, ⟨S, C, T, P, M, St, G, R, W, V, X⟩, q1, q2⟩ := J
  have kX : zK h 10 = 11 := (shX S).1
  have kM : zK h 200 = 12 := (shM S).1
  have cp := C.1
  have cm := C.2.1
  have ch := C.2.2.1
  have cw := C.2.2.2.1
  have cs := C.2.2.2.2.1
  have b1 : np < 2 ^ 31 := by omega
  have b2 : nm < 2 ^ 31 := by omega
  have b3 : nh < 2 ^ 31 := by omega
  by_cases c1 : 0 ≤ l1 ∧ l1 ≤ nI np - 1
  rotate_left
  · exact wX10_worked ⟨kX, X10_pit_f kX cp.2.1 c1 (N0 (wX11_worked ⟨kM, X11_pit_f kM cp.1 c1 (N0 ⟨rfl, J0.up⟩)⟩))⟩
  obtain ⟨p, hp, rfl⟩ := in_cnt b1 c1
  have e1 := nI_clamp (n := p) (by omega)
  have v1 : vp_in (nI p) 8 := vp_in_nI (by omega) (by omega)
  by_cases c : (0 ≤ l2 ∧ l2 ≤ 99) ∧ (l2 ≤ l3 ∧ l3 ≤ 99)
  rotate_left
  · have hm : ZcI mX11_worked [.ref 200, .int (nI p), .int l2, .int l3] h (fun v' h2 => -2 = v' ∧ Jx h2 (i + 1) L xs) := by
      by_cases c2 : 0 ≤ l2 ∧ l2 ≤ l3
      rotate_left
      · exact wX11_worked ⟨kM, X11_pit_t kM cp.1 b1 hp (N1 (X11_in_f c2 rfl rfl (Z0 ⟨rfl, J0.up⟩)))⟩
      · have c3 : ¬ (0 ≤ l3 ∧ l3 ≤ 99) := fun q => c ⟨⟨c2.1, Int32.le_trans c2.2 q.2⟩, c2.2, q.2⟩
        exact wX11_worked ⟨kM, X11_pit_t kM cp.1 b1 hp (N1 (X11_in_t c2 rfl rfl (Z1 (X11_in_f c3 rfl rfl (N0 ⟨rfl, J0.up⟩)))))⟩
    by_cases c2 : 0 ≤ l2 ∧ l2 ≤ 99
    rotate_left
    · exact wX10_worked ⟨kX, X10_pit_t kX cp.2.1 b1 hp (N1 (X10_within_f c2 (Z0 hm)))⟩
    · exact wX10_worked ⟨kX, X10_pit_t kX cp.2.1 b1 hp (N1 (X10_within_t c2 (Z1 (X10_within_f (fun q => c ⟨c2, q⟩) (N0 hm)))))⟩
  have hp1 := shPit S hp
  refine wX10_worked ⟨kX, X10_pit_t kX cp.2.1 b1 hp (N1 (X10_within_t c.1 (Z1 (X10_within_t c.2 (N1 ?_)))))⟩
  simp only [shX S, hp1, e1, v1, ne_eq]
  refine ⟨trivial, by decide, trivial, trivial, by omega, trivial, ?_⟩
  refine wX11_worked ⟨kM, X11_pit_t (h := zsI (zsI h (300 + 3 * p) 6 l2) (300 + 3 * p) 7 l3) kM (by simp (disch := omega) only [zI_sIa]; exact cp.1) b1 hp (N1 (X11_in_t (b := 0) (c := l3) ⟨c.1.1, c.2.1⟩ rfl rfl (Z1 (X11_in_t (b := 0) (c := 99) ⟨Int32.le_trans c.1.1 c.2.1, c.2.2⟩ rfl rfl (N1 ?_)))))⟩
  simp (disch := omega) only [zK_sI, zN_sI, zR_sI, shM S, e1, v1, ne_eq]
  refine ⟨trivial, by decide, trivial, trivial, by decide, trivial, trivial, trivial, ?_⟩
  refine Jx.nm (fun H2 eH => ?_)
  have E : ∀ a j, ¬ ((a = 300 + 3 * p ∧ (j = 6 ∨ j = 7)) ∨ (a = 248 ∧ j = p) ∨ (a = 249 ∧ j = p)) → zI H2 a j = zI h a j := fun a j q => by rw [eH]; simp (disch := omega) only [zI_sIn, zI_sR]
  have eK : zK H2 = zK h := by rw [eH]; rfl
  have eN : zN H2 = zN h := by rw [eH]; rfl
  have eR : zR H2 = zR h := by rw [eH]; rfl
  refine ⟨np, nm, nh, nw, ns, mo, ⟨S.same eK eN eR, C.up.congr (fun a j q => E a j (by omega)), T.congr (fun a j q => E a j (by omega)), ?_, M.congr (fun a j q => E a j (by omega)) cm.2.2, St.congr (fun a j q => E a j (by omega)), G.congr (fun a j q => E a j (by omega)), R.congr (fun a j q => E a j (by omega)), W.congr (fun a j q => E a j (by omega)), V.congr (fun a j q => E a j (by omega)), X.congr (fun a j q => E a j (by omega)) ch.2.2⟩, by rw [eN]; exact q1, fun j hj => by rw [E 4 j (by omega)]; exact q2 j hj⟩
  subst eH
  refine ⟨fun p' hp' => ?_, fun p' t' hp' ht' => ?_, fun p' h1 h2 => ?_, fun p' t' h1 h2 h3 => ?_⟩
  · have := P.1 p' hp'
    by_cases e : p' = p
    · subst e
      simp (disch := omega) only [zI_sIs, zI_sIa, zI_sIj]
      exact ⟨this.1, this.2.1, this.2.2.1, this.2.2.2.1, this.2.2.2.2.1, this.2.2.2.2.2.1, trivial, trivial, this.2.2.2.2.2.2.2.2.1, this.2.2.2.2.2.2.2.2.2.1, this.2.2.2.2.2.2.2.2.2.2.1, this.2.2.2.2.2.2.2.2.2.2.2.1, this.2.2.2.2.2.2.2.2.2.2.2.2.1, this.2.2.2.2.2.2.2.2.2.2.2.2.2.1, rg_of c.1 (by decide) (by decide), rg_of (a := 0) (b := 99) ⟨Int32.le_trans c.1.1 c.2.1, c.2.2⟩ (by decide) (by decide)⟩
    · simp (disch := omega) only [zI_sIs, zI_sIa, zI_sIj]
      exact this
  · have := P.2.1 p' t' hp' ht'
    simp (disch := omega) only [zI_sIs, zI_sIa, zI_sIj]
    exact this
  · have := P.2.2.1 p' h1 h2
    simp (disch := omega) only [zI_sIs, zI_sIa, zI_sIj]
    exact this
  · have := P.2.2.2 p' t' h1 h2 h3
    simp (disch := omega) only [zI_sIs, zI_sIa, zI_sIj]
    exact this
theorem s_become {ψ : ZH → Prop} {m : Nat} {k : Int32} {np nm nh : Nat} (S : Sh h np nm nh) (hm : m < 24) (q : ψ (zsI (zsI h 217 m k) 215 m (-6))) : ZcV mX11_become [.ref 200, .int (nI m), .int k] h ψ := by
  refine wX11_become ?_
  have e1 := nI_clamp (n := m) (by omega)
  have v1 : vp_in (nI m) 24 := vp_in_nI (by omega) (by omega)
  simp only [shM S, e1, v1, ne_eq]
  exact ⟨trivial, by decide, trivial, trivial, by decide, trivial, trivial, q⟩
set_option maxHeartbeats 4000000 in
theorem op_leave {l1 : Int32} (J : Jx h i L xs) : ZcI mX10_leave [.ref 10, .int l1] h (fun v h1 => ZcI mX11_leave [.ref 200, .int l1] h1 (fun v' h2 => v = v' ∧ Jx h2 (i + 1) L xs)) := by
  have J0 := J
  obtain ⟨np, nm, nh, nw, ns, mo, ⟨S, C, T, P, M, St, G, R, W, V, X⟩, q1, q2⟩ := J
  have kX : zK h 10 = 11 := (shX S).1
  have kM : zK h 200 = 12 := (shM S).1
  have cp := C.1
  have cm := C.2.1
  have ch := C.2.2.1
  have cw := C.2.2.2.1
  have cs := C.2.2.2.2.1
  have b1 : np < 2 ^ 31 := by omega
  have b2 : nm < 2 ^ 31 := by omega
  have b3 : nh < 2 ^ 31 := by omega
  by_cases c1 : 0 ≤ l1 ∧ l1 ≤ nI nm - 1
  rotate_left
  · exact wX10_leave ⟨kX, X10_man_f kX cm.2.1 c1 (N0 (wX11_leave ⟨kM, X11_man_f kM cm.1 c1 (N0 ⟨rfl, J0.up⟩)⟩))⟩
  obtain ⟨m, hm, rfl⟩ := in_cnt b2 c1
  have e1 := nI_clamp (n := m) (by omega)
  have v1 : vp_in (nI m) 24 := vp_in_nI (by omega) (by omega)
  have hm1 := shMan S hm
  have Mm := M m hm
  refine wX10_leave ⟨kX, X10_man_t kX cm.2.1 b2 hm (N1 ?_)⟩
  simp only [shX S, hm1, e1, v1, Mm, ne_eq, forall_eq]
  refine ⟨trivial, by decide, trivial, trivial, by omega, trivial, ?_⟩
  by_cases c2 : zI h 217 m = 4
  · refine Bt' c2 (wX11_leave ⟨kM, X11_man_t kM cm.1 b2 hm (N1 ?_)⟩)
    simp only [shM S, e1, v1, ne_eq]
    exact ⟨trivial, by decide, trivial, trivial, Bt' c2 ⟨trivial, J0.up⟩⟩
  · refine Bf' c2 (wX1_quit ⟨hm1.2, ?_⟩)
    refine wX11_leave ⟨kM, X11_man_t (h := zsI (zsI h (400 + m) 6 4) (400 + m) 4 (-6)) kM (by simp (disch := omega) only [zI_sIa]; exact cm.1) b2 hm (N1 ?_)⟩
    simp (disch := omega) only [zK_sI, zN_sI, zR_sI, zI_sIa, shM S, e1, v1, ne_eq, forall_eq]
    refine ⟨trivial, by decide, trivial, trivial, Bf' c2 (s_become (S := S) (by omega) ⟨trivial, ?_⟩)⟩
    refine Jx.nm (fun H2 eH => ?_)
    have E : ∀ a j, ¬ ((a = 400 + m ∧ (j = 4 ∨ j = 6)) ∨ (a = 217 ∧ j = m) ∨ (a = 215 ∧ j = m)) → zI H2 a j = zI h a j := fun a j q => by rw [eH]; simp (disch := omega) only [zI_sIn, zI_sR]
    have eK : zK H2 = zK h := by rw [eH]; rfl
    have eN : zN H2 = zN h := by rw [eH]; rfl
    have eR : zR H2 = zR h := by rw [eH]; rfl
    refine ⟨np, nm, nh, nw, ns, mo, ⟨S.same eK eN eR, C.up.congr (fun a j q => E a j (by omega)), T.congr (fun a j q => E a j (by omega)), P.congr (fun a j q => E a j (by omega)) cp.2.2.2, ?_, St.congr (fun a j q => E a j (by omega)), G.congr (fun a j q => E a j (by omega)), R.congr (fun a j q => E a j (by omega)), W.congr (fun a j q => E a j (by omega)), V.congr (fun a j q => E a j (by omega)), X.congr (fun a j q => E a j (by omega)) ch.2.2⟩, by rw [eN]; exact q1, fun j hj => by rw [E 4 j (by omega)]; exact q2 j hj⟩
    subst eH
    intro m' hm'
    have := M m' hm'
    by_cases e : m' = m
    · subst e
      simp (disch := omega) only [zI_sIs, zI_sIa, zI_sIj]
      exact ⟨this.1, this.2.1, this.2.2.1, this.2.2.2.1, trivial, this.2.2.2.2.2.1, trivial, this.2.2.2.2.2.2.2.1, this.2.2.2.2.2.2.2.2.1, this.2.2.2.2.2.2.2.2.2.1, this.2.2.2.2.2.2.2.2.2.2.1, this.2.2.2.2.2.2.2.2.2.2.2.1, ⟨by decide, by decide⟩, Or.inr ⟨by decide, trivial⟩⟩
    · simp (disch := omega) only [zI_sIs, zI_sIa, zI_sIj]
      exact this
set_option maxHeartbeats 4000000 in
theorem op_wipe (J : Jx h i L xs) : ZcI mX10_wipe [.ref 10] h (fun v h1 => ZcI mX11_wipe [.ref 200] h1 (fun v' h2 => v = v' ∧ Jx h2 (i + 1) L xs)) := by
  have J0 := J
  obtain ⟨np, nm, nh, nw, ns, mo, ⟨S, C, T, P, M, St, G, R, W, V, X⟩, q1, q2⟩ := J
  have kX : zK h 10 = 11 := (shX S).1
  have kM : zK h 200 = 12 := (shM S).1
  have cp := C.1
  have cm := C.2.1
  have ch := C.2.2.1
  have cw := C.2.2.2.1
  have cs := C.2.2.2.2.1
  have b1 : np < 2 ^ 31 := by omega
  have b2 : nm < 2 ^ 31 := by omega
  have b3 : nh < 2 ^ 31 := by omega
  refine wX10_wipe ?_
  simp only [shX S, cs, ne_eq]
  refine ⟨trivial, by decide, trivial, wX11_wipe ?_⟩
  simp (disch := omega) only [zK_sI, zN_sI, zR_sI, zI_sIa, shM S, cs, ne_eq]
  refine ⟨trivial, by decide, trivial, by decide, trivial, ?_⟩
  refine Jx.nm (fun H2 eH => ?_)
  have E : ∀ a j, ¬ ((a = 24 ∧ j = 1) ∨ (a = 221 ∧ j = 3)) → zI H2 a j = zI h a j := fun a j q => by rw [eH]; simp (disch := omega) only [zI_sIn]
  have C0 : JC H2 (i + 1) np nm nh nw 0 mo := by
    have := C.up
    subst eH
    unfold JC at this ⊢
    simp (disch := omega) only [zI_sIs, zI_sIa, zI_sIj]
    exact ⟨this.1, this.2.1, this.2.2.1, this.2.2.2.1, ⟨rfl, rfl, by omega⟩, this.2.2.2.2.2⟩
  exact ⟨np, nm, nh, nw, 0, mo, ⟨by subst eH; exact S, C0, T.congr (fun a j q => E a j (by omega)), P.congr (fun a j q => E a j (by omega)) cp.2.2.2, M.congr (fun a j q => E a j (by omega)) cm.2.2, St.congr (fun a j q => E a j (by omega)), fun k hk => absurd hk (by omega), R.congr (fun a j q => E a j (by omega)), W.congr (fun a j q => E a j (by omega)), V.congr (fun a j q => E a j (by omega)), X.congr (fun a j q => E a j (by omega)) ch.2.2⟩, by subst eH; exact q1, fun j hj => by rw [E 4 j (by omega)]; exact q2 j hj⟩
end OPS3
