section OPS2
variable {h : ZH} {i L : Nat} {xs : Nat → Int32}
theorem s_least {ψ : Int32 → ZH → Prop} {k : Nat} (hk : k < 7) (q : ψ (sLo k) h) : ZcI mX11_leastOf [.int (nI k)] h ψ := by
  match k, hk with
  | 0, _ => exact wX11_leastOf ⟨fun z => absurd rfl z, fun _ => q⟩
  | 1, _ => exact wX11_leastOf ⟨fun _ => ⟨fun z => absurd z (by decide), fun _ => ⟨fun _ => q, fun z => absurd z (by decide)⟩⟩, fun z => absurd z (by decide)⟩
  | 2, _ => exact wX11_leastOf ⟨fun _ => ⟨fun z => absurd z (by decide), fun _ => ⟨fun _ => q, fun z => absurd z (by decide)⟩⟩, fun z => absurd z (by decide)⟩
  | 3, _ => exact wX11_leastOf ⟨fun _ => ⟨fun z => absurd z (by decide), fun _ => ⟨fun _ => q, fun z => absurd z (by decide)⟩⟩, fun z => absurd z (by decide)⟩
  | 4, _ => exact wX11_leastOf ⟨fun _ => ⟨fun _ => q, fun z => absurd rfl z⟩, fun z => absurd z (by decide)⟩
  | 5, _ => exact wX11_leastOf ⟨fun _ => ⟨fun z => absurd z (by decide), fun _ => ⟨fun z => absurd rfl z, fun _ => q⟩⟩, fun z => absurd z (by decide)⟩
  | 6, _ => exact wX11_leastOf ⟨fun _ => ⟨fun z => absurd z (by decide), fun _ => ⟨fun _ => q, fun z => absurd z (by decide)⟩⟩, fun z => absurd z (by decide)⟩
theorem s_most {ψ : Int32 → ZH → Prop} {k : Nat} (hk : k < 7) (q : ψ (sHi k) h) : ZcI mX11_mostOf [.int (nI k)] h ψ := by
  match k, hk with
  | 0, _ => exact wX11_mostOf ⟨fun _ => q, fun z => absurd z (by decide), fun z => absurd z (by decide), fun z => absurd z (by decide), fun z => absurd z (by decide), fun z => absurd z (by decide), fun z => absurd rfl z⟩
  | 1, _ => exact wX11_mostOf ⟨fun z => absurd z (by decide), fun _ => q, fun z => absurd z (by decide), fun z => absurd z (by decide), fun z => absurd z (by decide), fun z => absurd z (by decide), fun _ z => absurd rfl z⟩
  | 2, _ => exact wX11_mostOf ⟨fun z => absurd z (by decide), fun z => absurd z (by decide), fun _ => q, fun z => absurd z (by decide), fun z => absurd z (by decide), fun z => absurd z (by decide), fun _ _ z => absurd rfl z⟩
  | 3, _ => exact wX11_mostOf ⟨fun z => absurd z (by decide), fun z => absurd z (by decide), fun z => absurd z (by decide), fun _ => q, fun z => absurd z (by decide), fun z => absurd z (by decide), fun _ _ _ z => absurd rfl z⟩
  | 4, _ => exact wX11_mostOf ⟨fun z => absurd z (by decide), fun z => absurd z (by decide), fun z => absurd z (by decide), fun z => absurd z (by decide), fun _ => q, fun z => absurd z (by decide), fun _ _ _ _ z => absurd rfl z⟩
  | 5, _ => exact wX11_mostOf ⟨fun z => absurd z (by decide), fun z => absurd z (by decide), fun z => absurd z (by decide), fun z => absurd z (by decide), fun z => absurd z (by decide), fun _ => q, fun _ _ _ _ _ z => absurd rfl z⟩
  | 6, _ => exact wX11_mostOf ⟨fun z => absurd z (by decide), fun z => absurd z (by decide), fun z => absurd z (by decide), fun z => absurd z (by decide), fun z => absurd z (by decide), fun z => absurd z (by decide), fun _ _ _ _ _ _ => q⟩
set_option maxHeartbeats 4000000 in
theorem op_set {l1 l2 : Int32} (J : Jx h i L xs) : ZcI mX10_set [.ref 10, .int l1, .int l2] h (fun v h1 => ZcI mX11_set [.ref 200, .int l1, .int l2] h1 (fun v' h2 => v = v' ∧ Jx h2 (i + 1) L xs)) := by
  have J0 := J
  obtain ⟨np, nm, nh, nw, ns, mo, ⟨S, C, T, P, M, St, G, R, W, V, X⟩, q1, q2⟩ := J
  have kX : zK h 10 = 11 := (shX S).1
  have kM : zK h 200 = 12 := (shM S).1
  have cp := C.1
  have cm := C.2.1
  have ch := C.2.2.1
  have cw := C.2.2.2.1
  have cs := C.2.2.2.2.1
  have b1 : np < 2 ^ 31 := by omega
  have b2 : nm < 2 ^ 31 := by omega
  have b3 : nh < 2 ^ 31 := by omega
  have e7 : Int32.ofNat 7 - 1 = 6 := by decide
  by_cases c1 : 0 ≤ l1 ∧ l1 ≤ 6
  rotate_left
  · refine wX10_set ?_
    simp only [shX S, ne_eq, e7]
    exact ⟨trivial, by decide, trivial, X10_within_f c1 (Z0 (wX11_set (X11_in_f c1 rfl rfl (Z0 ⟨rfl, J0.up⟩))))⟩
  obtain ⟨k, hk, rfl⟩ := in_nI (n := 6) (by decide) c1
  have hk7 : k < 7 := by omega
  have e1 := nI_clamp (n := k) (by omega)
  have v1 : vp_in (nI k) 7 := vp_in_nI (by omega) (by omega)
  have Sk := St k hk7
  refine wX10_set ?_
  simp only [shX S, ne_eq, e7]
  refine ⟨trivial, by decide, trivial, X10_within_t c1 (Z1 ?_)⟩
  simp only [shX S, shS S, e1, v1, Sk, ne_eq, forall_eq]
  refine ⟨Or.inr trivial, trivial, Or.inr trivial, trivial, ?_⟩
  by_cases c2 : sLo k ≤ l2 ∧ l2 ≤ sHi k
  rotate_left
  · exact X10_within_f c2 (N0 (wX11_set (X11_in_t c1 rfl rfl (Z1 (s_least hk7 (s_most hk7 (X11_in_f c2 rfl rfl (N0 ⟨rfl, J0.up⟩))))))))
  refine X10_within_t c2 (N1 ?_)
  simp only [shX S, e1, v1, Sk, ne_eq, forall_eq]
  refine ⟨trivial, by decide, trivial, trivial, wX11_set (X11_in_t c1 rfl rfl (Z1 (s_least hk7 (s_most hk7 (X11_in_t c2 rfl rfl (N1 ?_))))))⟩
  simp (disch := omega) only [zK_sI, zN_sI, zR_sI, zI_sIa, shM S, e1, v1, ne_eq, forall_eq]
  refine ⟨trivial, by decide, trivial, trivial, trivial, ?_⟩
  refine Jx.nm (fun H2 eH => ?_)
  have E : ∀ a j, ¬ ((a = 23 ∧ j = k) ∨ (a = 219 ∧ j = k)) → zI H2 a j = zI h a j := fun a j q => by rw [eH]; simp (disch := omega) only [zI_sIn, zI_sR]
  have eK : zK H2 = zK h := by rw [eH]; simp only [zK_sI]
  have eN : zN H2 = zN h := by rw [eH]; simp only [zN_sI]
  have eR : zR H2 = zR h := by rw [eH]; simp only [zR_sI]
  refine ⟨np, nm, nh, nw, ns, mo, ⟨S.same eK eN eR, C.up.congr (fun a j q => E a j (by omega)), T.congr (fun a j q => E a j (by omega)), P.congr (fun a j q => E a j (by omega)) cp.2.2.2, M.congr (fun a j q => E a j (by omega)) cm.2.2, ?_, G.congr (fun a j q => E a j (by omega)), R.congr (fun a j q => E a j (by omega)), W.congr (fun a j q => E a j (by omega)), V.congr (fun a j q => E a j (by omega)), X.congr (fun a j q => E a j (by omega)) ch.2.2⟩, by rw [eN]; exact q1, fun j hj => by rw [E 4 j (by omega)]; exact q2 j hj⟩
  subst eH
  intro k' hk'
  have := St k' hk'
  by_cases e : k' = k
  · subst e
    simp (disch := omega) only [zI_sIs, zI_sIa, zI_sIj]
    exact ⟨trivial, c2.1, c2.2, this.2.2.2⟩
  · simp (disch := omega) only [zI_sIs, zI_sIa, zI_sIj]
    exact this
set_option maxHeartbeats 4000000 in
theorem op_inflow {l1 l2 : Int32} (J : Jx h i L xs) : ZcI mX10_inflow [.ref 10, .int l1, .int l2] h (fun v h1 => ZcI mX11_inflow [.ref 200, .int l1, .int l2] h1 (fun v' h2 => v = v' ∧ Jx h2 (i + 1) L xs)) := by
  have J0 := J
  obtain ⟨np, nm, nh, nw, ns, mo, ⟨S, C, T, P, M, St, G, R, W, V, X⟩, q1, q2⟩ := J
  have kX : zK h 10 = 11 := (shX S).1
  have kM : zK h 200 = 12 := (shM S).1
  have cp := C.1
  have cm := C.2.1
  have ch := C.2.2.1
  have cw := C.2.2.2.1
  have cs := C.2.2.2.2.1
  have b1 : np < 2 ^ 31 := by omega
  have b2 : nm < 2 ^ 31 := by omega
  have b3 : nh < 2 ^ 31 := by omega
  by_cases c1 : 0 ≤ l1 ∧ l1 ≤ nI np - 1
  rotate_left
  · exact wX10_inflow ⟨kX, X10_pit_f kX cp.2.1 c1 (N0 (wX11_inflow ⟨kM, X11_pit_f kM cp.1 c1 (N0 ⟨rfl, J0.up⟩)⟩))⟩
  obtain ⟨p, hp, rfl⟩ := in_cnt b1 c1
  by_cases c2 : 0 ≤ l2 ∧ l2 ≤ 100
  rotate_left
  · exact wX10_inflow ⟨kX, X10_pit_t kX cp.2.1 b1 hp (N1 (X10_within_f c2 (N0 (wX11_inflow ⟨kM, X11_pit_t kM cp.1 b1 hp (N1 (X11_in_f c2 rfl rfl (N0 ⟨rfl, J0.up⟩)))⟩))))⟩
  have e1 := nI_clamp (n := p) (by omega)
  have v1 : vp_in (nI p) 8 := vp_in_nI (by omega) (by omega)
  have Wp := W.1 p (by omega)
  refine wX10_inflow ⟨kX, X10_pit_t kX cp.2.1 b1 hp (N1 (X10_within_t c2 (N1 ?_)))⟩
  simp only [shX S, shW S, e1, v1, Wp.1, ne_eq, forall_eq]
  refine ⟨trivial, by decide, trivial, by decide, trivial, trivial, ?_⟩
  refine wX11_inflow ⟨kM, X11_pit_t (h := zsI h 62 p l2) kM (by rw [zI_sIa (by omega)]; exact cp.1) b1 hp (N1 (X11_in_t c2 rfl rfl (N1 ?_)))⟩
  simp (disch := omega) only [zK_sI, zN_sI, zR_sI, zI_sIa, shM S, e1, v1, ne_eq, forall_eq]
  refine ⟨trivial, by decide, trivial, trivial, trivial, ?_⟩
  refine Jx.nm (fun H2 eH => ?_)
  have E : ∀ a j, ¬ ((a = 62 ∧ j = p) ∨ (a = 233 ∧ j = p)) → zI H2 a j = zI h a j := fun a j q => by rw [eH]; simp (disch := omega) only [zI_sIn, zI_sR]
  have eK : zK H2 = zK h := by rw [eH]; simp only [zK_sI]
  have eN : zN H2 = zN h := by rw [eH]; simp only [zN_sI]
  have eR : zR H2 = zR h := by rw [eH]; simp only [zR_sI]
  refine ⟨np, nm, nh, nw, ns, mo, ⟨S.same eK eN eR, C.up.congr (fun a j q => E a j (by omega)), T.congr (fun a j q => E a j (by omega)), P.congr (fun a j q => E a j (by omega)) cp.2.2.2, M.congr (fun a j q => E a j (by omega)) cm.2.2, St.congr (fun a j q => E a j (by omega)), G.congr (fun a j q => E a j (by omega)), R.congr (fun a j q => E a j (by omega)), ?_, V.congr (fun a j q => E a j (by omega)), X.congr (fun a j q => E a j (by omega)) ch.2.2⟩, by rw [eN]; exact q1, fun j hj => by rw [E 4 j (by omega)]; exact q2 j hj⟩
  subst eH
  refine ⟨fun p' hp' => ?_, fun p' hp' => ?_, fun w hw => ?_⟩
  · have := W.1 p' hp'
    by_cases e : p' = p
    · subst e
      simp (disch := omega) only [zI_sIs, zI_sIa, zI_sIj]
      exact ⟨trivial, this.2.1, fun z => absurd hp (by omega)⟩
    · simp (disch := omega) only [zI_sIs, zI_sIa, zI_sIj]
      exact this
  · have := W.2.1 p' hp'
    by_cases e : p' = p
    · subst e
      simp (disch := omega) only [zI_sIs, zI_sIa, zI_sIj]
      exact ⟨this.1, this.2.1, this.2.2.1, this.2.2.2.1, this.2.2.2.2.1, rg_of c2 (by decide) (by decide), this.2.2.2.2.2.2⟩
    · simp (disch := omega) only [zI_sIs, zI_sIa, zI_sIj]
      exact this
  · have := W.2.2 w hw
    simp (disch := omega) only [zI_sIs, zI_sIa, zI_sIj]
    exact this
set_option maxHeartbeats 4000000 in
theorem op_pump {l1 l2 : Int32} (hz : l2 = 0 ∨ l2 = 1) (J : Jx h i L xs) : ZcI mX10_pump [.ref 10, .int l1, .int l2] h (fun v h1 => ZcI mX11_pump [.ref 200, .int l1, .int l2] h1 (fun v' h2 => v = v' ∧ Jx h2 (i + 1) L xs)) := by
  have J0 := J
  obtain ⟨np, nm, nh, nw, ns, mo, ⟨S, C, T, P, M, St, G, R, W, V, X⟩, q1, q2⟩ := J
  have kX : zK h 10 = 11 := (shX S).1
  have kM : zK h 200 = 12 := (shM S).1
  have cp := C.1
  have cm := C.2.1
  have ch := C.2.2.1
  have cw := C.2.2.2.1
  have cs := C.2.2.2.2.1
  have b1 : np < 2 ^ 31 := by omega
  have b2 : nm < 2 ^ 31 := by omega
  have b3 : nh < 2 ^ 31 := by omega
  by_cases c1 : 0 ≤ l1 ∧ l1 ≤ nI np - 1
  rotate_left
  · exact wX10_pump ⟨kX, X10_pit_f kX cp.2.1 c1 (N0 (wX11_pump ⟨kM, X11_pit_f kM cp.1 c1 (N0 ⟨rfl, J0.up⟩)⟩))⟩
  obtain ⟨p, hp, rfl⟩ := in_cnt b1 c1
  have e1 := nI_clamp (n := p) (by omega)
  have v1 : vp_in (nI p) 8 := vp_in_nI (by omega) (by omega)
  have Wp := W.2.1 p hp
  refine wX10_pump ⟨kX, X10_pit_t kX cp.2.1 b1 hp (N1 ?_)⟩
  simp only [shX S, shW S, e1, v1, Wp.2.1, ne_eq]
  refine ⟨trivial, by decide, trivial, by decide, trivial, trivial, s_X10_asOne Wp.2.2.1 ?_⟩
  simp only [shX S, shW S, e1, v1, ne_eq]
  refine ⟨trivial, by decide, trivial, by decide, trivial, trivial, hz, ?_⟩
  refine wX11_pump ⟨kM, X11_pit_t (h := zsI h 64 p l2) kM (by rw [zI_sIa (by omega)]; exact cp.1) b1 hp (N1 ?_)⟩
  simp (disch := omega) only [zK_sI, zN_sI, zR_sI, zI_sIa, shM S, e1, v1, ne_eq]
  have fin : Jx (zsI (zsI h 64 p l2) 235 p l2) (i + 1) L xs := by
    refine Jx.nm (fun H2 eH => ?_)
    have E : ∀ a j, ¬ ((a = 64 ∧ j = p) ∨ (a = 235 ∧ j = p)) → zI H2 a j = zI h a j := fun a j q => by rw [eH]; simp (disch := omega) only [zI_sIn, zI_sR]
    have eK : zK H2 = zK h := by rw [eH]; simp only [zK_sI]
    have eN : zN H2 = zN h := by rw [eH]; simp only [zN_sI]
    have eR : zR H2 = zR h := by rw [eH]; simp only [zR_sI]
    refine ⟨np, nm, nh, nw, ns, mo, ⟨S.same eK eN eR, C.up.congr (fun a j q => E a j (by omega)), T.congr (fun a j q => E a j (by omega)), P.congr (fun a j q => E a j (by omega)) cp.2.2.2, M.congr (fun a j q => E a j (by omega)) cm.2.2, St.congr (fun a j q => E a j (by omega)), G.congr (fun a j q => E a j (by omega)), R.congr (fun a j q => E a j (by omega)), ?_, V.congr (fun a j q => E a j (by omega)), X.congr (fun a j q => E a j (by omega)) ch.2.2⟩, by rw [eN]; exact q1, fun j hj => by rw [E 4 j (by omega)]; exact q2 j hj⟩
    subst eH
    refine ⟨fun p' hp' => ?_, fun p' hp' => ?_, fun w hw => ?_⟩
    · have := W.1 p' hp'
      by_cases e : p' = p
      · subst e
        simp (disch := omega) only [zI_sIs, zI_sIa, zI_sIj]
        exact ⟨this.1, this.2.1, fun z => absurd hp (by omega)⟩
      · simp (disch := omega) only [zI_sIs, zI_sIa, zI_sIj]
        exact this
    · have := W.2.1 p' hp'
      by_cases e : p' = p
      · subst e
        simp (disch := omega) only [zI_sIs, zI_sIa, zI_sIj]
        exact ⟨this.1, trivial, hz, this.2.2.2⟩
      · simp (disch := omega) only [zI_sIs, zI_sIa, zI_sIj]
        exact this
    · have := W.2.2 w hw
      simp (disch := omega) only [zI_sIs, zI_sIa, zI_sIj]
      exact this
  refine ⟨trivial, by decide, trivial, trivial, ?_⟩
  rcases Wp.2.2.1 with z | z
  · rw [z]
    exact ⟨fun _ => ⟨hz, rfl, fin⟩, fun q => absurd rfl q⟩
  · rw [z]
    exact ⟨fun q => absurd q (by decide), fun _ => ⟨hz, rfl, fin⟩⟩
end OPS2
