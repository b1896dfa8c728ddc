section OPS1
variable {h : ZH} {i L : Nat} {xs : Nat → Int32}
set_option maxHeartbeats 4000000 in
theorem op_posts {l1 l2 l3 : Int32} (J : Jx h i L xs) : ZcI mX10_posts [.ref 10, .int l1, .int l2, .int l3] h (fun v h1 => ZcI mX11_posts [.ref 200, .int l1, .int l2, .int l3] h1 (fun v' h2 => v = v' ∧ Jx h2 (i + 1) L xs)) := by
  have J0 := J
  obtain ⟨np, nm, nh, nw, ns, mo, ⟨S, C, T, P, M, St, G, R, W, V, X⟩, q1, q2⟩ := J
  have kX : zK h 10 = 11 := (shX S).1
  have kM : zK h 200 = 12 := (shM S).1
  have cp := C.1
  have cm := C.2.1
  have ch := C.2.2.1
  have cw := C.2.2.2.1
  have cs := C.2.2.2.2.1
  have b1 : np < 2 ^ 31 := by omega
  have b2 : nm < 2 ^ 31 := by omega
  have b3 : nh < 2 ^ 31 := by omega
  by_cases c1 : 0 ≤ l1 ∧ l1 ≤ nI np - 1
  rotate_left
  · exact wX10_posts ⟨kX, X10_pit_f kX cp.2.1 c1 (N0 (wX11_posts ⟨kM, X11_pit_f kM cp.1 c1 (N0 ⟨rfl, J0.up⟩)⟩))⟩
  obtain ⟨p, hp, rfl⟩ := in_cnt b1 c1
  by_cases c2 : 0 ≤ l2 ∧ l2 ≤ 2
  rotate_left
  · exact wX10_posts ⟨kX, X10_pit_t kX cp.2.1 b1 hp (N1 (X10_trade_f c2 (Z0 (wX11_posts ⟨kM, X11_pit_t kM cp.1 b1 hp (N1 (X11_in_f c2 rfl rfl (Z0 ⟨rfl, J0.up⟩)))⟩))))⟩
  by_cases c3 : 0 ≤ l3 ∧ l3 ≤ 9
  rotate_left
  · exact wX10_posts ⟨kX, X10_pit_t kX cp.2.1 b1 hp (N1 (X10_trade_t c2 (Z1 (X10_within_f c3 (N0 (wX11_posts ⟨kM, X11_pit_t kM cp.1 b1 hp (N1 (X11_in_t c2 rfl rfl (Z1 (X11_in_f c3 rfl rfl (N0 ⟨rfl, J0.up⟩)))))⟩))))))⟩
  obtain ⟨t, ht, rfl⟩ := in_nI (n := 2) (by decide) c2
  refine wX10_posts ⟨kX, X10_pit_t kX cp.2.1 b1 hp (N1 (X10_trade_t c2 (Z1 (X10_within_t c3 (N1 ?_)))))⟩
  have e1 := nI_clamp (n := p) (by omega)
  have e2 := nI_clamp (n := t) (by omega)
  have e3 : (3 * nI p + nI t).toNatClampNeg = 3 * p + t := by rw [nI_lit3, nI_mul, nI_add, nI_clamp (by omega)]
  have v1 : vp_in (nI p) 8 := vp_in_nI (by omega) (by omega)
  have v2 : vp_in (nI t) 3 := vp_in_nI (by omega) (by omega)
  have v3 : vp_in (3 * nI p + nI t) 24 := by rw [nI_lit3, nI_mul, nI_add]; exact vp_in_nI (by omega) (by omega)
  have hp1 := shPit S hp
  have Pp := P.1 p hp
  have Pq := P.2.1 p t hp (by omega)
  simp only [shX S, hp1, e1, e2, v1, v2, Pp, ne_eq, forall_eq]
  refine ⟨trivial, by decide, trivial, trivial, by omega, trivial, ?_⟩
  by_cases c4 : zI h 208 p = 0
  · refine Bt' c4 (wX11_posts ⟨kM, X11_pit_t kM cp.1 b1 hp (N1 (X11_in_t c2 rfl rfl (Z1 (X11_in_t c3 rfl rfl (N1 ?_)))))⟩)
    simp only [shM S, e1, v1, ne_eq]
    exact ⟨trivial, by decide, trivial, trivial, Bt' c4 ⟨trivial, J0.up⟩⟩
  · refine Bf' c4 ⟨by omega, trivial, trivial, ?_⟩
    refine wX11_posts ⟨kM, X11_pit_t (h := zsI h (302 + 3 * p) t l3) kM (by rw [zI_sIa (by omega)]; exact cp.1) b1 hp (N1 (X11_in_t c2 rfl rfl (Z1 (X11_in_t c3 rfl rfl (N1 ?_)))))⟩
    simp (disch := omega) only [zK_sI, zN_sI, zR_sI, zI_sIa, shM S, e1, e3, v1, v3, ne_eq, forall_eq]
    refine ⟨trivial, by decide, trivial, trivial, Bf' c4 ⟨by decide, trivial, trivial, Pq.1, ?_⟩⟩
    refine Jx.nm (fun H2 eH => ?_)
    have E : ∀ a j, ¬ ((a = 302 + 3 * p ∧ j = t) ∨ (a = 209 ∧ j = 3 * p + t)) → zI H2 a j = zI h a j := fun a j q => by rw [eH]; simp (disch := omega) only [zI_sIn, zI_sR]
    have eK : zK H2 = zK h := by rw [eH]; rfl
    have eN : zN H2 = zN h := by rw [eH]; rfl
    have eR : zR H2 = zR h := by rw [eH]; rfl
    refine ⟨np, nm, nh, nw, ns, mo, ⟨S.same eK eN eR, C.up.congr (fun a j q => E a j (by omega)), T.congr (fun a j q => E a j (by omega)), ?_, M.congr (fun a j q => E a j (by omega)) cm.2.2, St.congr (fun a j q => E a j (by omega)), G.congr (fun a j q => E a j (by omega)), R.congr (fun a j q => E a j (by omega)), W.congr (fun a j q => E a j (by omega)), V.congr (fun a j q => E a j (by omega)), X.congr (fun a j q => E a j (by omega)) ch.2.2⟩, by rw [eN]; exact q1, fun j hj => by rw [E 4 j (by omega)]; exact q2 j hj⟩
    subst eH
    refine ⟨fun p' hp' => ?_, fun p' t' hp' ht' => ?_, fun p' h1 h2 => ?_, fun p' t' h1 h2 h3 => ?_⟩
    · have := P.1 p' hp'
      simp (disch := omega) only [zI_sIs, zI_sIa, zI_sIj]
      exact this
    · by_cases e : 3 * p' + t' = 3 * p + t
      · obtain ⟨rfl, rfl⟩ : p' = p ∧ t' = t := by omega
        simp (disch := omega) only [zI_sIs, zI_sIa, zI_sIj]
        exact ⟨trivial, rg_of c3 (by decide) (by decide)⟩
      · have := P.2.1 p' t' hp' ht'
        by_cases e2 : p' = p
        · subst e2
          simp (disch := omega) only [zI_sIs, zI_sIa, zI_sIj]
          exact this
        · simp (disch := omega) only [zI_sIs, zI_sIa, zI_sIj]
          exact this
    · have := P.2.2.1 p' h1 h2
      simp (disch := omega) only [zI_sIs, zI_sIa, zI_sIj]
      exact this
    · have := P.2.2.2 p' t' h1 h2 h3
      simp (disch := omega) only [zI_sIs, zI_sIa, zI_sIj]
      exact this
end OPS1
