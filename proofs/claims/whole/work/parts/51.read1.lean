section READ1
variable {h : ZH} {i L : Nat} {xs : Nat → Int32}
theorem i_sub10 {n : Nat} (hn : n < 7) : vp_in (nI (20 + n) - 20) 7 ∧ (nI (20 + n) - 20).toNatClampNeg = n := by
  have : ∀ n, n < 7 → (¬ (nI (20 + n) - 20 < 0 ∨ 7 ≤ (nI (20 + n) - 20).toNatClampNeg)) ∧ (nI (20 + n) - 20).toNatClampNeg = n := by decide
  exact this n hn
set_option maxHeartbeats 4000000 in
theorem op_told {l1 : Int32} (J : Jx h i L xs) : ZcI mX10_told [.ref 10, .int l1] h (fun v h1 => ZcI mX11_told [.ref 200, .int l1] h1 (fun v' h2 => v = v' ∧ Jx h2 (i + 1) L xs)) := by
  have J0 := J
  obtain ⟨np, nm, nh, nw, ns, mo, ⟨S, C, T, P, M, St, G, R, W, V, X⟩, q1, q2⟩ := J
  have kX : zK h 10 = 11 := (shX S).1
  have kM : zK h 200 = 12 := (shM S).1
  have cp := C.1
  have cm := C.2.1
  have ch := C.2.2.1
  have cw := C.2.2.2.1
  have cs := C.2.2.2.2.1
  have b1 : np < 2 ^ 31 := by omega
  have b2 : nm < 2 ^ 31 := by omega
  have b3 : nh < 2 ^ 31 := by omega
  have HM : LMe h np nm nh := ⟨S, cm.2.1, cm.1, cm.2.2, M⟩
  have HP : LPi h np nm nh := ⟨S, cp.2.1, cp.1, cp.2.2.2, P⟩
  have e26 : (19 : Int32) + Int32.ofNat 7 = 26 := by decide
  by_cases c1 : 10 ≤ l1 ∧ l1 ≤ 14
  · have c2 : ¬ (20 ≤ l1 ∧ l1 ≤ 26) := fun q => absurd (Int32.le_trans q.1 c1.2) (by decide)
    refine wX10_told (X10_within_t c1 (Z1 ⟨kX, s_X10_menWhoAre HM ?_⟩))
    exact wX11_told (X11_in_f c2 rfl rfl (Z0 (X11_in_t c1 rfl rfl (Z1 (s_X11_told_42 S cm.1 cm.2.2 ⟨rfl, J0.up⟩)))))
  refine wX10_told (X10_within_f c1 (Z0 ?_))
  simp only [shX S, ne_eq, e26]
  refine ⟨trivial, by decide, trivial, ?_⟩
  by_cases c2 : 20 ≤ l1 ∧ l1 ≤ 26
  · obtain ⟨n, hn, rfl⟩ : ∃ n, n < 7 ∧ l1 = nI (20 + n) := by
      obtain ⟨t, ht, e⟩ := nI_of2 (M := 26) (n := 26) (by decide) (Int32.not_lt.mpr (Int32.le_trans (by decide : (0 : Int32) ≤ 20) c2.1)) c2.2
      have h20 : 20 ≤ t := by
        have := c2.1
        rw [e, show (20 : Int32) = nI 20 from rfl, nI_leI (by omega) (by omega)] at this
        exact this
      exact ⟨t - 20, by omega, by rw [e]; congr 1; omega⟩
    obtain ⟨v1, e1⟩ := i_sub10 hn
    have Sk := St n hn
    refine X10_within_t c2 (Z1 ?_)
    simp only [shX S, e1, v1, Sk.1, ne_eq]
    refine ⟨trivial, by decide, trivial, trivial, wX11_told (X11_in_t c2 rfl rfl (Z1 ?_))⟩
    simp only [shM S, e1, v1, ne_eq]
    exact ⟨trivial, by decide, trivial, trivial, trivial, J0.up⟩
  · refine X10_within_f c2 (Z0 ?_)
    simp only [shX S, shW S, cp.2.1, cm.2.1, ch.2.1, cs.2.1, cw.2.1, C.2.2.2.2.2.1.2.1, C.2.2.2.2.2.2.1, C.2.2.2.2.2.2.2, ne_eq]
    have U : ∀ v : Int32, ((l1 = 0 → v = nI np) ∧ (l1 = 1 → v = nI nm) ∧ (l1 = 2 → v = nI ns) ∧ (l1 = 3 → v = nI nw) ∧ (l1 = 4 → v = nI nh) ∧ (l1 = 5 → v = nI mo) ∧ (l1 = 6 → v = zI h 200 41) ∧ (l1 = 7 → v = zI h 200 42) ∧ (l1 = 8 → v = fold (fOp h) np) ∧ (¬ l1 = 0 → ¬ l1 = 1 → ¬ l1 = 2 → ¬ l1 = 3 → ¬ l1 = 4 → ¬ l1 = 5 → ¬ l1 = 6 → ¬ l1 = 7 → ¬ l1 = 8 → v = -2)) → ZcI mX11_told [.ref 200, .int l1] h (fun v' h2 => v = v' ∧ Jx h2 (i + 1) L xs) := by
      intro v q
      refine wX11_told (X11_in_f c2 rfl rfl (Z0 (X11_in_f c1 rfl rfl (Z0 (s_X11_told_81 S cp.1 cp.2.2.2 ?_)))))
      rw [cp.1, cm.1, cs.1, cw.1, ch.1, C.2.2.2.2.2.1.1]
      exact ⟨fun z => ⟨q.1 z, J0.up⟩, fun z => ⟨q.2.1 z, J0.up⟩, fun z => ⟨q.2.2.1 z, J0.up⟩, fun z => ⟨q.2.2.2.1 z, J0.up⟩, fun z => ⟨q.2.2.2.2.1 z, J0.up⟩, fun z => ⟨q.2.2.2.2.2.1 z, J0.up⟩, fun z => ⟨q.2.2.2.2.2.2.1 z, J0.up⟩, fun z => ⟨q.2.2.2.2.2.2.2.1 z, J0.up⟩, fun z => ⟨q.2.2.2.2.2.2.2.2.1 z, J0.up⟩, fun z0 z1 z2 z3 z4 z5 z6 z7 z8 => ⟨q.2.2.2.2.2.2.2.2.2 z0 z1 z2 z3 z4 z5 z6 z7 z8, J0.up⟩⟩
    refine ⟨fun z => ⟨trivial, U _ ?_⟩, fun z => ⟨trivial, U _ ?_⟩, fun z => ⟨trivial, by decide, trivial, U _ ?_⟩, fun z => ⟨trivial, by decide, trivial, U _ ?_⟩, fun z => ⟨trivial, U _ ?_⟩, fun z => ⟨trivial, by decide, trivial, U _ ?_⟩, fun z => ⟨trivial, by decide, trivial, U _ ?_⟩, fun z => ⟨trivial, by decide, trivial, U _ ?_⟩, fun z => ⟨trivial, s_X10_openPits HP (U _ ?_)⟩, fun z0 z1 z2 z3 z4 z5 z6 z7 z8 => U _ ?_⟩
    · subst z; exact ⟨fun _ => rfl, fun q => absurd q (by decide), fun q => absurd q (by decide), fun q => absurd q (by decide), fun q => absurd q (by decide), fun q => absurd q (by decide), fun q => absurd q (by decide), fun q => absurd q (by decide), fun q => absurd q (by decide), fun q => absurd rfl q⟩
    · subst z; exact ⟨fun q => absurd q (by decide), fun _ => rfl, fun q => absurd q (by decide), fun q => absurd q (by decide), fun q => absurd q (by decide), fun q => absurd q (by decide), fun q => absurd q (by decide), fun q => absurd q (by decide), fun q => absurd q (by decide), fun _ q => absurd rfl q⟩
    · subst z; exact ⟨fun q => absurd q (by decide), fun q => absurd q (by decide), fun _ => rfl, fun q => absurd q (by decide), fun q => absurd q (by decide), fun q => absurd q (by decide), fun q => absurd q (by decide), fun q => absurd q (by decide), fun q => absurd q (by decide), fun _ _ q => absurd rfl q⟩
    · subst z; exact ⟨fun q => absurd q (by decide), fun q => absurd q (by decide), fun q => absurd q (by decide), fun _ => rfl, fun q => absurd q (by decide), fun q => absurd q (by decide), fun q => absurd q (by decide), fun q => absurd q (by decide), fun q => absurd q (by decide), fun _ _ _ q => absurd rfl q⟩
    · subst z; exact ⟨fun q => absurd q (by decide), fun q => absurd q (by decide), fun q => absurd q (by decide), fun q => absurd q (by decide), fun _ => rfl, fun q => absurd q (by decide), fun q => absurd q (by decide), fun q => absurd q (by decide), fun q => absurd q (by decide), fun _ _ _ _ q => absurd rfl q⟩
    · subst z; exact ⟨fun q => absurd q (by decide), fun q => absurd q (by decide), fun q => absurd q (by decide), fun q => absurd q (by decide), fun q => absurd q (by decide), fun _ => rfl, fun q => absurd q (by decide), fun q => absurd q (by decide), fun q => absurd q (by decide), fun _ _ _ _ _ q => absurd rfl q⟩
    · subst z; exact ⟨fun q => absurd q (by decide), fun q => absurd q (by decide), fun q => absurd q (by decide), fun q => absurd q (by decide), fun q => absurd q (by decide), fun q => absurd q (by decide), fun _ => rfl, fun q => absurd q (by decide), fun q => absurd q (by decide), fun _ _ _ _ _ _ q => absurd rfl q⟩
    · subst z; exact ⟨fun q => absurd q (by decide), fun q => absurd q (by decide), fun q => absurd q (by decide), fun q => absurd q (by decide), fun q => absurd q (by decide), fun q => absurd q (by decide), fun q => absurd q (by decide), fun _ => rfl, fun q => absurd q (by decide), fun _ _ _ _ _ _ _ q => absurd rfl q⟩
    · subst z; exact ⟨fun q => absurd q (by decide), fun q => absurd q (by decide), fun q => absurd q (by decide), fun q => absurd q (by decide), fun q => absurd q (by decide), fun q => absurd q (by decide), fun q => absurd q (by decide), fun q => absurd q (by decide), fun _ => rfl, fun _ _ _ _ _ _ _ _ q => absurd rfl q⟩
    · exact ⟨fun q => absurd q z0, fun q => absurd q z1, fun q => absurd q z2, fun q => absurd q z3, fun q => absurd q z4, fun q => absurd q z5, fun q => absurd q z6, fun q => absurd q z7, fun q => absurd q z8, fun _ _ _ _ _ _ _ _ _ => rfl⟩
set_option maxHeartbeats 4000000 in
theorem op_ofMan {l1 l2 : Int32} (J : Jx h i L xs) : ZcI mX10_ofMan [.ref 10, .int l1, .int l2] h (fun v h1 => ZcI mX11_ofMan [.ref 200, .int l1, .int l2] h1 (fun v' h2 => v = v' ∧ Jx h2 (i + 1) L xs)) := by
  have J0 := J
  obtain ⟨np, nm, nh, nw, ns, mo, ⟨S, C, T, P, M, St, G, R, W, V, X⟩, q1, q2⟩ := J
  have kX : zK h 10 = 11 := (shX S).1
  have kM : zK h 200 = 12 := (shM S).1
  have cp := C.1
  have cm := C.2.1
  have ch := C.2.2.1
  have cw := C.2.2.2.1
  have cs := C.2.2.2.2.1
  have b1 : np < 2 ^ 31 := by omega
  have b2 : nm < 2 ^ 31 := by omega
  have b3 : nh < 2 ^ 31 := by omega
  by_cases c1 : 0 ≤ l1 ∧ l1 ≤ nI nm - 1
  rotate_left
  · exact wX10_ofMan ⟨kX, X10_man_f kX cm.2.1 c1 (N0 (wX11_ofMan ⟨kM, X11_man_f kM cm.1 c1 (N0 ⟨rfl, J0.up⟩)⟩))⟩
  obtain ⟨m, hm, rfl⟩ := in_cnt b2 c1
  have e1 := nI_clamp (n := m) (by omega)
  have v1 : vp_in (nI m) 24 := vp_in_nI (by omega) (by omega)
  have hm1 := shMan S hm
  have Mm := M m hm
  refine wX10_ofMan ⟨kX, X10_man_t kX cm.2.1 b2 hm (N1 ?_)⟩
  simp only [shX S, hm1, e1, v1, Mm, ne_eq]
  have U : ∀ (v : Int32), ((l2 = 0 → v = zI h 211 m) ∧ (l2 = 1 → v = zI h 212 m) ∧ (l2 = 2 → v = zI h 213 m) ∧ (l2 = 3 → v = zI h 214 m) ∧ (l2 = 4 → v = zI h 215 m) ∧ (l2 = 5 → v = zI h 216 m) ∧ (l2 = 6 → v = zI h 217 m) ∧ (¬ l2 = 0 → ¬ l2 = 1 → ¬ l2 = 2 → ¬ l2 = 3 → ¬ l2 = 4 → ¬ l2 = 5 → ¬ l2 = 6 → v = -2)) → ZcI mX11_ofMan [.ref 200, .int (nI m), .int l2] h (fun v' h2 => v = v' ∧ Jx h2 (i + 1) L xs) := by
    intro v q
    refine wX11_ofMan ⟨kM, X11_man_t kM cm.1 b2 hm (N1 ?_)⟩
    simp only [shM S, e1, v1, ne_eq]
    refine ⟨fun z => ⟨trivial, by decide, trivial, trivial, q.1 z, J0.up⟩, fun z => ⟨trivial, by decide, trivial, trivial, q.2.1 z, J0.up⟩, fun z => ⟨trivial, by decide, trivial, trivial, q.2.2.1 z, J0.up⟩, fun z => ⟨trivial, by decide, trivial, trivial, q.2.2.2.1 z, J0.up⟩, fun z => ⟨trivial, by decide, trivial, trivial, q.2.2.2.2.1 z, J0.up⟩, fun z => ⟨trivial, by decide, trivial, trivial, fun y => ⟨(q.2.2.2.2.2.1 z).trans y, J0.up⟩, fun y => ⟨(q.2.2.2.2.2.1 z).trans (Mm.2.2.2.2.2.2.2.2.2.2.2.1.resolve_left y), J0.up⟩⟩, fun z => ⟨trivial, by decide, trivial, trivial, q.2.2.2.2.2.2.1 z, J0.up⟩, fun z0 z1 z2 z3 z4 z5 z6 => ⟨q.2.2.2.2.2.2.2 z0 z1 z2 z3 z4 z5 z6, J0.up⟩⟩
  refine ⟨trivial, by decide, trivial, trivial, by omega, fun z => ⟨trivial, U _ ?_⟩, fun z => ⟨trivial, U _ ?_⟩, fun z => ⟨trivial, U _ ?_⟩, fun z => ⟨trivial, U _ ?_⟩, fun z => ⟨trivial, U _ ?_⟩, fun z => ⟨trivial, s_X10_asOne Mm.2.2.2.2.2.2.2.2.2.2.2.1 (U _ ?_)⟩, fun z => ⟨trivial, U _ ?_⟩, fun z0 z1 z2 z3 z4 z5 z6 => U _ ?_⟩
  · subst z; exact ⟨fun _ => rfl, fun q => absurd q (by decide), fun q => absurd q (by decide), fun q => absurd q (by decide), fun q => absurd q (by decide), fun q => absurd q (by decide), fun q => absurd q (by decide), fun q => absurd rfl q⟩
  · subst z; exact ⟨fun q => absurd q (by decide), fun _ => rfl, fun q => absurd q (by decide), fun q => absurd q (by decide), fun q => absurd q (by decide), fun q => absurd q (by decide), fun q => absurd q (by decide), fun _ q => absurd rfl q⟩
  · subst z; exact ⟨fun q => absurd q (by decide), fun q => absurd q (by decide), fun _ => rfl, fun q => absurd q (by decide), fun q => absurd q (by decide), fun q => absurd q (by decide), fun q => absurd q (by decide), fun _ _ q => absurd rfl q⟩
  · subst z; exact ⟨fun q => absurd q (by decide), fun q => absurd q (by decide), fun q => absurd q (by decide), fun _ => rfl, fun q => absurd q (by decide), fun q => absurd q (by decide), fun q => absurd q (by decide), fun _ _ _ q => absurd rfl q⟩
  · subst z; exact ⟨fun q => absurd q (by decide), fun q => absurd q (by decide), fun q => absurd q (by decide), fun q => absurd q (by decide), fun _ => rfl, fun q => absurd q (by decide), fun q => absurd q (by decide), fun _ _ _ _ q => absurd rfl q⟩
  · subst z; exact ⟨fun q => absurd q (by decide), fun q => absurd q (by decide), fun q => absurd q (by decide), fun q => absurd q (by decide), fun q => absurd q (by decide), fun _ => rfl, fun q => absurd q (by decide), fun _ _ _ _ _ q => absurd rfl q⟩
  · subst z; exact ⟨fun q => absurd q (by decide), fun q => absurd q (by decide), fun q => absurd q (by decide), fun q => absurd q (by decide), fun q => absurd q (by decide), fun q => absurd q (by decide), fun _ => rfl, fun _ _ _ _ _ _ q => absurd rfl q⟩
  · exact ⟨fun q => absurd q z0, fun q => absurd q z1, fun q => absurd q z2, fun q => absurd q z3, fun q => absurd q z4, fun q => absurd q z5, fun q => absurd q z6, fun _ _ _ _ _ _ _ => rfl⟩
end READ1
