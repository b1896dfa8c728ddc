section READ2
variable {h : ZH} {i L : Nat} {xs : Nat → Int32}
set_option maxHeartbeats 4000000 in
theorem op_about {l1 l2 : Int32} (J : Jx h i L xs) : ZcI mX10_about [.ref 10, .int l1, .int l2] h (fun v h1 => ZcI mX11_about [.ref 200, .int l1, .int l2] h1 (fun v' h2 => v = v' ∧ Jx h2 (i + 1) L xs)) := by
  have J0 := J
  obtain ⟨np, nm, nh, nw, ns, mo, ⟨S, C, T, P, M, St, G, R, W, V, X⟩, q1, q2⟩ := J
  have kX : zK h 10 = 11 := (shX S).1
  have kM : zK h 200 = 12 := (shM S).1
  have cp := C.1
  have cm := C.2.1
  have ch := C.2.2.1
  have cw := C.2.2.2.1
  have cs := C.2.2.2.2.1
  have b1 : np < 2 ^ 31 := by omega
  have b2 : nm < 2 ^ 31 := by omega
  have b3 : nh < 2 ^ 31 := by omega
  have HM : LMe h np nm nh := ⟨S, cm.2.1, cm.1, cm.2.2, M⟩
  by_cases c1 : 0 ≤ l1 ∧ l1 ≤ nI np - 1
  rotate_left
  · exact wX10_about ⟨kX, X10_pit_f kX cp.2.1 c1 (N0 (wX11_about ⟨kM, X11_pit_f kM cp.1 c1 (N0 ⟨rfl, J0.up⟩)⟩))⟩
  obtain ⟨p, hp, rfl⟩ := in_cnt b1 c1
  have e1 := nI_clamp (n := p) (by omega)
  have v1 : vp_in (nI p) 8 := vp_in_nI (by omega) (by omega)
  have hp1 := shPit S hp
  have Pp := P.1 p hp
  have Wp := W.2.1 p hp
  have Wq := W.1 p (by omega)
  have t0 := (P.2.1 p 0 hp (by omega)).1
  have t1 := (P.2.1 p 1 hp (by omega)).1
  have t2 := (P.2.1 p 2 hp (by omega)).1
  refine wX10_about ⟨kX, X10_pit_t kX cp.2.1 b1 hp (N1 ?_)⟩
  have U : ∀ (v : Int32), ((l2 = 0 → v = zI h 203 p) ∧ (l2 = 1 → v = zI h 204 p) ∧ (l2 = 2 → v = zI h 205 p) ∧ (l2 = 3 → v = zI h 206 p) ∧ (l2 = 4 → v = zI h 207 p) ∧ (l2 = 5 → v = zI h 208 p) ∧ (l2 = 6 → v = fold (fAt h (nI p)) nm) ∧ (l2 = 7 → v = zI h 234 p) ∧ (l2 = 8 → v = zI h 236 p) ∧ (l2 = 9 → v = zI h 235 p) ∧ (l2 = 10 → v = zI h 209 (3 * p + 0)) ∧ (l2 = 11 → v = zI h 209 (3 * p + 1)) ∧ (l2 = 12 → v = zI h 209 (3 * p + 2)) ∧ (¬ l2 = 0 → ¬ l2 = 1 → ¬ l2 = 2 → ¬ l2 = 3 → ¬ l2 = 4 → ¬ l2 = 5 → ¬ l2 = 6 → ¬ l2 = 7 → ¬ l2 = 8 → ¬ l2 = 9 → ¬ l2 = 10 → ¬ l2 = 11 → ¬ l2 = 12 → v = -2)) → ZcI mX11_about [.ref 200, .int (nI p), .int l2] h (fun v' h2 => v = v' ∧ Jx h2 (i + 1) L xs) := by
    intro v q
    refine wX11_about ⟨kM, X11_pit_t kM cp.1 b1 hp (N1 ?_)⟩
    simp only [shM S, e1, v1, ne_eq]
    refine ⟨fun z => ⟨trivial, by decide, trivial, trivial, q.1 z, J0.up⟩, fun z => ⟨trivial, by decide, trivial, trivial, q.2.1 z, J0.up⟩, fun z => ⟨trivial, by decide, trivial, trivial, q.2.2.1 z, J0.up⟩, fun z => ⟨trivial, by decide, trivial, trivial, q.2.2.2.1 z, J0.up⟩, fun z => ⟨trivial, by decide, trivial, trivial, q.2.2.2.2.1 z, J0.up⟩, fun z => ⟨trivial, by decide, trivial, trivial, fun y => ⟨(q.2.2.2.2.2.1 z).trans y, J0.up⟩, fun y => ⟨(q.2.2.2.2.2.1 z).trans (Pp.2.2.2.2.2.2.2.2.2.2.2.2.2.1.resolve_left y), J0.up⟩⟩, fun z => ⟨trivial, s_X11_menAt S cm.1 cm.2.2 ⟨q.2.2.2.2.2.2.1 z, J0.up⟩⟩, fun z => ⟨trivial, by decide, trivial, trivial, q.2.2.2.2.2.2.2.1 z, J0.up⟩, fun z => ⟨trivial, by decide, trivial, trivial, q.2.2.2.2.2.2.2.2.1 z, J0.up⟩, fun z => ⟨trivial, by decide, trivial, trivial, fun y => ⟨(q.2.2.2.2.2.2.2.2.2.1 z).trans y, J0.up⟩, fun y => ⟨(q.2.2.2.2.2.2.2.2.2.1 z).trans (Wp.2.2.1.resolve_left y), J0.up⟩⟩, fun z0 z1 z2 z3 z4 z5 z6 z7 z8 z9 => ?_⟩
    by_cases c2 : 10 ≤ l2 ∧ l2 ≤ 12
    rotate_left
    · have n10 : ¬ l2 = 10 := fun e => c2 (by rw [e]; decide)
      have n11 : ¬ l2 = 11 := fun e => c2 (by rw [e]; decide)
      have n12 : ¬ l2 = 12 := fun e => c2 (by rw [e]; decide)
      exact X11_in_f c2 rfl rfl (Z0 ⟨q.2.2.2.2.2.2.2.2.2.2.2.2.2 z0 z1 z2 z3 z4 z5 z6 z7 z8 z9 n10 n11 n12, J0.up⟩)
    · refine X11_in_t c2 rfl rfl (Z1 ?_)
      simp only [shM S, ne_eq]
      have h3 : l2 = 10 ∨ l2 = 11 ∨ l2 = 12 := by
        obtain ⟨t, ht, e⟩ := nI_of2 (M := 12) (n := 12) (by decide) (Int32.not_lt.mpr (Int32.le_trans (by decide : (0 : Int32) ≤ 10) c2.1)) c2.2
        have h10 : 10 ≤ t := by
          have := c2.1
          rw [e, show (10 : Int32) = nI 10 from rfl, nI_leI (by omega) (by omega)] at this
          exact this
        have : t = 10 ∨ t = 11 ∨ t = 12 := by omega
        rcases this with rfl | rfl | rfl
        · exact Or.inl e
        · exact Or.inr (Or.inl e)
        · exact Or.inr (Or.inr e)
      have key : ∀ t, t < 3 → l2 = nI (10 + t) → v = zI h 209 (3 * p + t) → True ∧ ¬ 209 = 0 ∧ True ∧ vp_in (3 * nI p + l2 - 10) 24 ∧ v = zI h 209 (3 * nI p + l2 - 10).toNatClampNeg ∧ Jx h (i + 1) L xs := by
        intro t ht e hv
        have e3 : 3 * nI p + l2 - 10 = nI (3 * p + t) := by
          rw [e, nI_lit3, nI_mul, nI_add, show (10 : Int32) = nI 10 from rfl, show 3 * p + (10 + t) = (3 * p + t) + 10 by omega, ← nI_add]
          exact Int32.add_sub_cancel _ _
        rw [e3, nI_clamp (by omega)]
        exact ⟨trivial, by decide, trivial, vp_in_nI (by omega) (by omega), hv, J0.up⟩
      rcases h3 with e | e | e
      · exact key 0 (by omega) e (q.2.2.2.2.2.2.2.2.2.2.1 e)
      · exact key 1 (by omega) e (q.2.2.2.2.2.2.2.2.2.2.2.1 e)
      · exact key 2 (by omega) e (q.2.2.2.2.2.2.2.2.2.2.2.2.1 e)
  simp only [shX S, shW S, hp1, e1, v1, Pp, Wp.2.1, Wp.2.2.2.1, Wq.2.1, ne_eq]
  refine ⟨trivial, by decide, trivial, trivial, by omega, fun z => ⟨trivial, by omega, trivial, U _ ?_⟩, fun z => ⟨trivial, by omega, trivial, U _ ?_⟩, fun z => ⟨trivial, U _ ?_⟩, fun z => ⟨trivial, U _ ?_⟩, fun z => ⟨trivial, U _ ?_⟩, fun z => ⟨trivial, s_X10_asOne Pp.2.2.2.2.2.2.2.2.2.2.2.2.2.1 (U _ ?_)⟩, fun z => s_X10_menAt HM (U _ ?_), fun z => ⟨by decide, trivial, by decide, trivial, trivial, U _ ?_⟩, fun z => ⟨by decide, trivial, by decide, trivial, trivial, U _ ?_⟩, fun z => ⟨by decide, trivial, by decide, trivial, trivial, s_X10_asOne Wp.2.2.1 (U _ ?_)⟩, fun z => ⟨trivial, by omega, trivial, ?_, U _ ?_⟩, fun z => ⟨trivial, by omega, trivial, ?_, U _ ?_⟩, fun z => ⟨trivial, by omega, trivial, ?_, U _ ?_⟩, fun z0 z1 z2 z3 z4 z5 z6 z7 z8 z9 z10 z11 z12 => U _ ?_⟩
  · subst z; exact ⟨fun _ => rfl, fun q => absurd q (by decide), fun q => absurd q (by decide), fun q => absurd q (by decide), fun q => absurd q (by decide), fun q => absurd q (by decide), fun q => absurd q (by decide), fun q => absurd q (by decide), fun q => absurd q (by decide), fun q => absurd q (by decide), fun q => absurd q (by decide), fun q => absurd q (by decide), fun q => absurd q (by decide), fun q => absurd rfl q⟩
  · subst z; exact ⟨fun q => absurd q (by decide), fun _ => rfl, fun q => absurd q (by decide), fun q => absurd q (by decide), fun q => absurd q (by decide), fun q => absurd q (by decide), fun q => absurd q (by decide), fun q => absurd q (by decide), fun q => absurd q (by decide), fun q => absurd q (by decide), fun q => absurd q (by decide), fun q => absurd q (by decide), fun q => absurd q (by decide), fun _ q => absurd rfl q⟩
  · subst z; exact ⟨fun q => absurd q (by decide), fun q => absurd q (by decide), fun _ => rfl, fun q => absurd q (by decide), fun q => absurd q (by decide), fun q => absurd q (by decide), fun q => absurd q (by decide), fun q => absurd q (by decide), fun q => absurd q (by decide), fun q => absurd q (by decide), fun q => absurd q (by decide), fun q => absurd q (by decide), fun q => absurd q (by decide), fun _ _ q => absurd rfl q⟩
  · subst z; exact ⟨fun q => absurd q (by decide), fun q => absurd q (by decide), fun q => absurd q (by decide), fun _ => rfl, fun q => absurd q (by decide), fun q => absurd q (by decide), fun q => absurd q (by decide), fun q => absurd q (by decide), fun q => absurd q (by decide), fun q => absurd q (by decide), fun q => absurd q (by decide), fun q => absurd q (by decide), fun q => absurd q (by decide), fun _ _ _ q => absurd rfl q⟩
  · subst z; exact ⟨fun q => absurd q (by decide), fun q => absurd q (by decide), fun q => absurd q (by decide), fun q => absurd q (by decide), fun _ => rfl, fun q => absurd q (by decide), fun q => absurd q (by decide), fun q => absurd q (by decide), fun q => absurd q (by decide), fun q => absurd q (by decide), fun q => absurd q (by decide), fun q => absurd q (by decide), fun q => absurd q (by decide), fun _ _ _ _ q => absurd rfl q⟩
  · subst z; exact ⟨fun q => absurd q (by decide), fun q => absurd q (by decide), fun q => absurd q (by decide), fun q => absurd q (by decide), fun q => absurd q (by decide), fun _ => rfl, fun q => absurd q (by decide), fun q => absurd q (by decide), fun q => absurd q (by decide), fun q => absurd q (by decide), fun q => absurd q (by decide), fun q => absurd q (by decide), fun q => absurd q (by decide), fun _ _ _ _ _ q => absurd rfl q⟩
  · subst z; exact ⟨fun q => absurd q (by decide), fun q => absurd q (by decide), fun q => absurd q (by decide), fun q => absurd q (by decide), fun q => absurd q (by decide), fun q => absurd q (by decide), fun _ => rfl, fun q => absurd q (by decide), fun q => absurd q (by decide), fun q => absurd q (by decide), fun q => absurd q (by decide), fun q => absurd q (by decide), fun q => absurd q (by decide), fun _ _ _ _ _ _ q => absurd rfl q⟩
  · subst z; exact ⟨fun q => absurd q (by decide), fun q => absurd q (by decide), fun q => absurd q (by decide), fun q => absurd q (by decide), fun q => absurd q (by decide), fun q => absurd q (by decide), fun q => absurd q (by decide), fun _ => rfl, fun q => absurd q (by decide), fun q => absurd q (by decide), fun q => absurd q (by decide), fun q => absurd q (by decide), fun q => absurd q (by decide), fun _ _ _ _ _ _ _ q => absurd rfl q⟩
  · subst z; exact ⟨fun q => absurd q (by decide), fun q => absurd q (by decide), fun q => absurd q (by decide), fun q => absurd q (by decide), fun q => absurd q (by decide), fun q => absurd q (by decide), fun q => absurd q (by decide), fun q => absurd q (by decide), fun _ => rfl, fun q => absurd q (by decide), fun q => absurd q (by decide), fun q => absurd q (by decide), fun q => absurd q (by decide), fun _ _ _ _ _ _ _ _ q => absurd rfl q⟩
  · subst z; exact ⟨fun q => absurd q (by decide), fun q => absurd q (by decide), fun q => absurd q (by decide), fun q => absurd q (by decide), fun q => absurd q (by decide), fun q => absurd q (by decide), fun q => absurd q (by decide), fun q => absurd q (by decide), fun q => absurd q (by decide), fun _ => rfl, fun q => absurd q (by decide), fun q => absurd q (by decide), fun q => absurd q (by decide), fun _ _ _ _ _ _ _ _ _ q => absurd rfl q⟩
  · subst z; exact (show ¬ ((10 : Int32) - 10 < 0 ∨ 3 ≤ ((10 : Int32) - 10).toNatClampNeg) by decide)
  · subst z; rw [show ((10 : Int32) - 10).toNatClampNeg = 0 by decide]; exact ⟨fun q => absurd q (by decide), fun q => absurd q (by decide), fun q => absurd q (by decide), fun q => absurd q (by decide), fun q => absurd q (by decide), fun q => absurd q (by decide), fun q => absurd q (by decide), fun q => absurd q (by decide), fun q => absurd q (by decide), fun q => absurd q (by decide), fun _ => t0, fun q => absurd q (by decide), fun q => absurd q (by decide), fun _ _ _ _ _ _ _ _ _ _ q => absurd rfl q⟩
  · subst z; exact (show ¬ ((11 : Int32) - 10 < 0 ∨ 3 ≤ ((11 : Int32) - 10).toNatClampNeg) by decide)
  · subst z; rw [show ((11 : Int32) - 10).toNatClampNeg = 1 by decide]; exact ⟨fun q => absurd q (by decide), fun q => absurd q (by decide), fun q => absurd q (by decide), fun q => absurd q (by decide), fun q => absurd q (by decide), fun q => absurd q (by decide), fun q => absurd q (by decide), fun q => absurd q (by decide), fun q => absurd q (by decide), fun q => absurd q (by decide), fun q => absurd q (by decide), fun _ => t1, fun q => absurd q (by decide), fun _ _ _ _ _ _ _ _ _ _ _ q => absurd rfl q⟩
  · subst z; exact (show ¬ ((12 : Int32) - 10 < 0 ∨ 3 ≤ ((12 : Int32) - 10).toNatClampNeg) by decide)
  · subst z; rw [show ((12 : Int32) - 10).toNatClampNeg = 2 by decide]; exact ⟨fun q => absurd q (by decide), fun q => absurd q (by decide), fun q => absurd q (by decide), fun q => absurd q (by decide), fun q => absurd q (by decide), fun q => absurd q (by decide), fun q => absurd q (by decide), fun q => absurd q (by decide), fun q => absurd q (by decide), fun q => absurd q (by decide), fun q => absurd q (by decide), fun q => absurd q (by decide), fun _ => t2, fun _ _ _ _ _ _ _ _ _ _ _ _ q => absurd rfl q⟩
  · exact ⟨fun q => absurd q z0, fun q => absurd q z1, fun q => absurd q z2, fun q => absurd q z3, fun q => absurd q z4, fun q => absurd q z5, fun q => absurd q z6, fun q => absurd q z7, fun q => absurd q z8, fun q => absurd q z9, fun q => absurd q z10, fun q => absurd q z11, fun q => absurd q z12, fun _ _ _ _ _ _ _ _ _ _ _ _ _ => rfl⟩
end READ2
