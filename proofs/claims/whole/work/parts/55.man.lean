section MAN
variable {h : ZH} {i L : Nat} {xs : Nat → Int32}
theorem Sh.man {H : ZH} {np nm nh A : Nat} (S : Sh h np nm nh) (hA : A = 400 + nm) (h8 : np ≤ 8) (h24 : nm < 24) (h10 : nh ≤ 10)
    (eK : ∀ a, a ≠ A → zK H a = zK h a) (kA : zK H A = 2) (eN : ∀ a, a ≠ A → zN H a = zN h a) (eR : ∀ a k, a ≠ A → ¬ (a = 21 ∧ k = nm) → zR H a k = zR h a k) (r21 : zR H 21 nm = A) : Sh H np (nm + 1) nh := by
  obtain ⟨s1, s2, s3, s4, s5, s6, s7, s8, s9⟩ := S
  refine ⟨fun a ha => ?_, fun a ha h4 => ?_, fun a k e => ?_, fun p hp => ?_, fun p h1 h2 => ?_, fun m hm => ?_, fun m h1 h2 => ?_, fun k hk => ?_, fun k h1 h2 => ?_⟩
  · rw [eK a (by omega)]; exact s1 a ha
  · rw [eN a (by omega)]; exact s2 a ha h4
  · have := cR_lt e
    rw [eR a k (by omega) (by omega)]; exact s3 a k e
  · rw [eR 20 p (by omega) (by omega), eK _ (by omega), eK _ (by omega), eK _ (by omega), eN _ (by omega), eR _ 0 (by omega) (by omega), eR _ 4 (by omega) (by omega)]; exact s4 p hp
  · rw [eK _ (by omega), eK _ (by omega), eK _ (by omega)]; exact s5 p h1 h2
  · by_cases e : m = nm
    · subst e
      rw [← hA]
      exact ⟨r21, kA⟩
    · rw [eR 21 m (by omega) (by omega), eK _ (by omega)]; exact s6 m (by omega)
  · rw [eK _ (by omega)]; exact s7 m (by omega) h2
  · rw [eR 22 k (by omega) (by omega), eK _ (by omega), eK _ (by omega), eR _ 0 (by omega) (by omega)]; exact s8 k hk
  · rw [eK _ (by omega), eK _ (by omega)]; exact s9 k h1 h2
set_option maxHeartbeats 4000000 in
theorem op_man {l1 l2 l3 l4 l5 l6 : Int32} (hz : l6 = 0 ∨ l6 = 1) (J : Jx h i L xs) : ZcI mX10_man [.ref 10, .int l1, .int l2, .int l3, .int l4, .int l5, .int l6] h (fun v h1 => ZcI mX11_man [.ref 200, .int l1, .int l2, .int l3, .int l4, .int l5, .int l6] h1 (fun v' h2 => v = v' ∧ Jx h2 (i + 1) L xs)) := by
  have J0 := J
  obtain ⟨np, nm, nh, nw, ns, mo, ⟨S, C, T, P, M, St, G, R, W, V, X⟩, q1, q2⟩ := J
  have kX : zK h 10 = 11 := (shX S).1
  have kM : zK h 200 = 12 := (shM S).1
  have cp := C.1
  have cm := C.2.1
  have ch := C.2.2.1
  have cw := C.2.2.2.1
  have cs := C.2.2.2.2.1
  have b1 : np < 2 ^ 31 := by omega
  have b2 : nm < 2 ^ 31 := by omega
  have b3 : nh < 2 ^ 31 := by omega
  by_cases c1 : 0 ≤ l4 ∧ l4 ≤ 5
  rotate_left
  · exact wX10_man (X10_town_f c1 (Z0 (wX11_man (X11_town_f c1 (Z0 ⟨rfl, J0.up⟩)))))
  by_cases c2 : 0 ≤ l5 ∧ l5 ≤ nI np - 1
  rotate_left
  · exact wX10_man (X10_town_t c1 (Z1 ⟨kX, X10_pit_f kX cp.2.1 c2 (N0 (wX11_man (X11_town_t c1 (Z1 ⟨kM, X11_pit_f kM cp.1 c2 (N0 ⟨rfl, J0.up⟩)⟩))))⟩))
  obtain ⟨p, hp, rfl⟩ := in_cnt b1 c2
  by_cases c3 : 14 ≤ l1 ∧ l1 ≤ 70
  rotate_left
  · exact wX10_man (X10_town_t c1 (Z1 ⟨kX, X10_pit_t kX cp.2.1 b1 hp (N1 (X10_within_f c3 (Z0 (wX11_man (X11_town_t c1 (Z1 ⟨kM, X11_pit_t kM cp.1 b1 hp (N1 (X11_in_f c3 rfl rfl (Z0 ⟨rfl, J0.up⟩)))⟩))))))⟩))
  by_cases c4 : 0 ≤ l2 ∧ l2 ≤ 2
  rotate_left
  · exact wX10_man (X10_town_t c1 (Z1 ⟨kX, X10_pit_t kX cp.2.1 b1 hp (N1 (X10_within_t c3 (Z1 (X10_trade_f c4 (Z0 (wX11_man (X11_town_t c1 (Z1 ⟨kM, X11_pit_t kM cp.1 b1 hp (N1 (X11_in_t c3 rfl rfl (Z1 (X11_in_f c4 rfl rfl (Z0 ⟨rfl, J0.up⟩)))))⟩))))))))⟩))
  by_cases c5 : 0 ≤ l3 ∧ l3 ≤ 50
  rotate_left
  · exact wX10_man (X10_town_t c1 (Z1 ⟨kX, X10_pit_t kX cp.2.1 b1 hp (N1 (X10_within_t c3 (Z1 (X10_trade_t c4 (Z1 (X10_within_f c5 (N0 (wX11_man (X11_town_t c1 (Z1 ⟨kM, X11_pit_t kM cp.1 b1 hp (N1 (X11_in_t c3 rfl rfl (Z1 (X11_in_t c4 rfl rfl (Z1 (X11_in_f c5 rfl rfl (N0 ⟨rfl, J0.up⟩)))))))⟩))))))))))⟩))
  have ep := nI_clamp (n := p) (by omega)
  have vp : vp_in (nI p) 8 := vp_in_nI (by omega) (by omega)
  have hp1 := shPit S hp
  have Pp := P.1 p hp
  have r2 : zR h 10 2 = 21 := S.2.2.1 10 2 (by decide)
  have r1 : zR h 10 1 = 20 := S.2.2.1 10 1 (by decide)
  have k20 : zK h 20 = 25 := S.1 20 (by decide)
  have n20 : zN h 20 = 8 := S.2.1 20 (by decide) (by decide)
  refine wX10_man (X10_town_t c1 (Z1 ⟨kX, X10_pit_t kX cp.2.1 b1 hp (N1 (X10_within_t c3 (Z1 (X10_trade_t c4 (Z1 (X10_within_t c5 (N1 ?_)))))))⟩))
  simp only [r1, r2, k20, n20, ep, vp, hp1, Pp, cm.2.1]
  refine ⟨kX, by decide, trivial, trivial, by omega, trivial, ?_⟩
  by_cases c6 : zI h 208 p = 0
  · refine Bt' c6 (wX11_man (X11_town_t c1 (Z1 ⟨kM, X11_pit_t kM cp.1 b1 hp (N1 (X11_in_t c3 rfl rfl (Z1 (X11_in_t c4 rfl rfl (Z1 (X11_in_t c5 rfl rfl (N1 ?_)))))))⟩)))
    simp only [shM S, ep, vp, ne_eq]
    exact ⟨trivial, by decide, trivial, trivial, Bt' c6 ⟨trivial, J0.up⟩⟩
  refine Bf' c6 ?_
  by_cases c7 : nm < 24
  rotate_left
  · have e24 : nm = 24 := by omega
    subst e24
    refine ⟨fun z => absurd z (by decide), fun _ => wX11_man (X11_town_t c1 (Z1 ⟨kM, X11_pit_t kM cp.1 b1 hp (N1 (X11_in_t c3 rfl rfl (Z1 (X11_in_t c4 rfl rfl (Z1 (X11_in_t c5 rfl rfl (N1 ?_)))))))⟩))⟩
    simp only [shM S, ep, vp, cm.1, ne_eq]
    exact ⟨trivial, by decide, trivial, trivial, Bf' c6 (Bt' rfl ⟨trivial, J0.up⟩)⟩
  have e1 := nI_clamp (n := nm) (by omega)
  have v1 : vp_in (nI nm) 24 := vp_in_nI (by omega) (by omega)
  have l24 : nI nm < 24 := nI_lt (b := 24) (by omega) (by omega)
  have n24 : ¬ nI nm = 24 := by rw [show (24 : Int32) = nI 24 from rfl, nI_eq (by omega) (by omega)]; omega
  have fr := S.2.2.2.2.2.2.1 nm (Nat.le_refl _) c7
  have k21 : zK h 21 = 24 := S.1 21 (by decide)
  have n21 : zN h 21 = 24 := S.2.1 21 (by decide) (by decide)
  refine ⟨fun _ => ⟨by decide, 400 + nm, by omega, fr, ?_⟩, fun z => absurd l24 z⟩
  intro h22 e22
  refine wX1_init ⟨by rw [e22, zK_mks], hz, ?_⟩
  generalize e24 : zsI (zsI (zsI (zsI (zsI (zsI (zsI h22 (400 + nm) 6 0) (400 + nm) 0 l1) (400 + nm) 1 l2) (400 + nm) 2 l3) (400 + nm) 3 l4) (400 + nm) 4 (nI p)) (400 + nm) 5 l6 = h24
  have K24 : ∀ a, a ≠ 400 + nm → zK h24 a = zK h a := fun a q => by rw [← e24]; simp only [zK_sI]; rw [e22, zK_mkn q]
  have N24 : ∀ a, a ≠ 400 + nm → zN h24 a = zN h a := fun a q => by rw [← e24]; simp only [zN_sI]; rw [e22, zN_mkn q]
  have R24 : ∀ a k, a ≠ 400 + nm → zR h24 a k = zR h a k := fun a k q => by rw [← e24]; simp only [zR_sI]; rw [e22, zR_mkn q]
  have I24 : ∀ a k, a ≠ 400 + nm → zI h24 a k = zI h a k := fun a k q => by rw [← e24, zI_sIa q, zI_sIa q, zI_sIa q, zI_sIa q, zI_sIa q, zI_sIa q, zI_sIa q, e22, zI_mkn q]
  have kA : zK h24 (400 + nm) = 2 := by rw [← e24]; simp only [zK_sI]; rw [e22, zK_mks]
  have i0 : zI h24 (400 + nm) 0 = l1 := by rw [← e24]; simp (disch := omega) only [zI_sIs, zI_sIj]
  have i1 : zI h24 (400 + nm) 1 = l2 := by rw [← e24]; simp (disch := omega) only [zI_sIs, zI_sIj]
  have i2 : zI h24 (400 + nm) 2 = l3 := by rw [← e24]; simp (disch := omega) only [zI_sIs, zI_sIj]
  have i3 : zI h24 (400 + nm) 3 = l4 := by rw [← e24]; simp (disch := omega) only [zI_sIs, zI_sIj]
  have i4 : zI h24 (400 + nm) 4 = nI p := by rw [← e24]; simp (disch := omega) only [zI_sIs, zI_sIj]
  have i5 : zI h24 (400 + nm) 5 = l6 := by rw [← e24]; simp (disch := omega) only [zI_sIs, zI_sIj]
  have i6 : zI h24 (400 + nm) 6 = 0 := by rw [← e24]; simp (disch := omega) only [zI_sIs, zI_sIj]
  clear e24 e22
  rw [e1]
  refine ⟨by rw [K24 21 (by omega)]; exact k21, by rw [N24 21 (by omega), n21]; exact v1, kA, by rw [K24 10 (by omega)]; exact kX, ?_⟩
  rw [I24 10 13 (by omega), cm.2.1]
  refine ZcI.nm (fun H1 eH1 => ?_)
  have S1 : Sh H1 np (nm + 1) nh := by
    refine S.man rfl cp.2.2.2 c7 ch.2.2 (fun a q => ?_) ?_ (fun a q => ?_) (fun a k q q3 => ?_) ?_
    · rw [eH1, zK_sI, zK_sR]; exact K24 a q
    · rw [eH1, zK_sI, zK_sR]; exact kA
    · rw [eH1, zN_sI, zN_sR]; exact N24 a q
    · rw [eH1, zR_sI, zR_sRn (by omega)]; exact R24 a k q
    · rw [eH1, zR_sI, zR_sRs]
  have E1 : ∀ a j, ¬ (a = 400 + nm ∨ (a = 10 ∧ j = 13)) → zI H1 a j = zI h a j := fun a j q => by rw [eH1, zI_sIn (by omega), zI_sR]; exact I24 a j (by omega)
  have F1 : ∀ j, zI H1 (400 + nm) j = zI h24 (400 + nm) j := fun j => by rw [eH1, zI_sIa (by omega), zI_sR]
  have j5 : zI H1 10 13 = nI nm + 1 := by rw [eH1, zI_sIs]
  have n4 : zN H1 4 = L := by rw [eH1, zN_sI, zN_sR, N24 4 (by omega)]; exact q1
  clear eH1
  have c17 : zI H1 200 17 = nI nm := by rw [E1 200 17 (by omega)]; exact cm.1
  have c9 : zI H1 200 9 = nI np := by rw [E1 200 9 (by omega)]; exact cp.1
  have c208 : ¬ zI H1 208 p = 0 := by rw [E1 208 p (by omega)]; exact c6
  refine wX11_man (X11_town_t c1 (Z1 ⟨(shM S1).1, X11_pit_t (shM S1).1 c9 b1 hp (N1 (X11_in_t c3 rfl rfl (Z1 (X11_in_t c4 rfl rfl (Z1 (X11_in_t c5 rfl rfl (N1 ?_)))))))⟩))
  simp (disch := omega) only [zK_sI, zN_sI, zR_sI, zI_sIs, zI_sIa, c17, e1, v1, ep, vp, shM S1, ne_eq, forall_eq]
  refine ⟨trivial, by decide, trivial, trivial, Bf' c208 (Bf' n24 ⟨by decide, trivial, trivial, by decide, trivial, trivial, trivial, by decide, trivial, trivial, trivial, by decide, trivial, trivial, trivial, by decide, trivial, trivial, trivial, by decide, trivial, trivial, trivial, hz, by decide, trivial, trivial, trivial, trivial, trivial, ?_⟩)⟩
  refine ⟨by rw [nI_1, nI_pred], Jx.nm (fun H2 eH => ?_)⟩
  have E2 : ∀ a j, ¬ ((a = 200 ∧ j = 17) ∨ ((211 ≤ a ∧ a ≤ 217) ∧ j = nm)) → zI H2 a j = zI H1 a j := fun a j q => by rw [eH]; simp (disch := omega) only [zI_sIn]
  have E : ∀ a j, ¬ (a = 400 + nm ∨ (a = 10 ∧ j = 13) ∨ (a = 200 ∧ j = 17) ∨ ((211 ≤ a ∧ a ≤ 217) ∧ j = nm)) → zI H2 a j = zI h a j := fun a j q => (E2 a j (by omega)).trans (E1 a j (by omega))
  have F2 : ∀ j, zI H2 (400 + nm) j = zI h24 (400 + nm) j := fun j => (E2 _ j (by omega)).trans (F1 j)
  have o1 : zI H2 200 17 = nI nm + 1 := by rw [eH]; simp (disch := omega) only [zI_sIs]
  have p0 : zI H2 211 nm = l1 := by rw [eH]; simp (disch := omega) only [zI_sIs, zI_sIa]
  have p1 : zI H2 212 nm = l2 := by rw [eH]; simp (disch := omega) only [zI_sIs, zI_sIa]
  have p2 : zI H2 213 nm = l3 := by rw [eH]; simp (disch := omega) only [zI_sIs, zI_sIa]
  have p3 : zI H2 214 nm = l4 := by rw [eH]; simp (disch := omega) only [zI_sIs, zI_sIa]
  have p4 : zI H2 215 nm = nI p := by rw [eH]; simp (disch := omega) only [zI_sIs, zI_sIa]
  have p5 : zI H2 216 nm = l6 := by rw [eH]; simp (disch := omega) only [zI_sIs, zI_sIa]
  have p6 : zI H2 217 nm = 0 := by rw [eH]; simp (disch := omega) only [zI_sIs, zI_sIa]
  have S2 : Sh H2 np (nm + 1) nh := S1.same (by rw [eH]; simp only [zK_sI]) (by rw [eH]; simp only [zN_sI]) (by rw [eH]; simp only [zR_sI])
  have n42 : zN H2 4 = L := by rw [eH]; simp only [zN_sI]; exact n4
  clear eH
  have C0 : JC H2 (i + 1) np (nm + 1) nh nw ns mo := by
    have := C.up
    unfold JC at this ⊢
    rw [o1, E2 10 13 (by omega), j5, E 200 9 (by omega), E 10 12 (by omega), E 60 5 (by omega), E 200 53 (by omega), E 10 14 (by omega), E 200 39 (by omega), E 60 9 (by omega), E 221 3 (by omega), E 24 1 (by omega), E 200 40 (by omega), E 60 10 (by omega), E 60 11 (by omega), E 200 41 (by omega), E 60 12 (by omega), E 200 42 (by omega)]
    exact ⟨this.1, ⟨nI_1 nm, nI_1 nm, by omega⟩, this.2.2⟩
  have M0 : JM H2 np (nm + 1) := fun k hk => by
    by_cases e : k = nm
    · subst e
      rw [F2 0, F2 1, F2 2, F2 3, F2 4, F2 5, F2 6, i0, i1, i2, i3, i4, i5, i6, p0, p1, p2, p3, p4, p5, p6]
      exact ⟨rfl, rfl, rfl, rfl, rfl, rfl, rfl, rg_of c3 (by decide) (by decide), rg_of c4 (by decide) (by decide), rg_of c5 (by decide) (by decide), rg_of c1 (by decide) (by decide), hz, ⟨by decide, by decide⟩, Or.inl ⟨rfl, p, hp, rfl⟩⟩
    · have := M k (by omega)
      rw [E _ 0 (by omega), E _ 1 (by omega), E _ 2 (by omega), E _ 3 (by omega), E _ 4 (by omega), E _ 5 (by omega), E _ 6 (by omega), E 211 k (by omega), E 212 k (by omega), E 213 k (by omega), E 214 k (by omega), E 215 k (by omega), E 216 k (by omega), E 217 k (by omega)]
      exact this
  exact ⟨np, nm + 1, nh, nw, ns, mo, ⟨S2, C0, T.congr (fun a j q => E a j (by omega)), P.congr (fun a j q => E a j (by omega)) cp.2.2.2, M0, St.congr (fun a j q => E a j (by omega)), G.congr (fun a j q => E a j (by omega)), R.congr (fun a j q => E a j (by omega)), W.congr (fun a j q => E a j (by omega)), V.congr (fun a j q => E a j (by omega)), X.congr (fun a j q => E a j (by omega)) ch.2.2⟩, n42, fun j hj => by rw [E 4 j (by omega)]; exact q2 j hj⟩
end MAN
