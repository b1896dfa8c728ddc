section PIT
variable {h : ZH} {i L : Nat} {xs : Nat → Int32}
theorem Sh.pit {H : ZH} {np nm nh A : Nat} (S : Sh h np nm nh) (hA : A = 300 + 3 * np) (h8 : np < 8) (h24 : nm ≤ 24) (h10 : nh ≤ 10)
    (eK : ∀ a, a ≠ A → a ≠ A + 1 → a ≠ A + 2 → zK H a = zK h a) (kA : zK H A = 5) (kB : zK H (A + 1) = 6) (kC : zK H (A + 2) = 20) (nC : zN H (A + 2) = 3) (eN : ∀ a, a ≠ A → a ≠ A + 1 → a ≠ A + 2 → zN H a = zN h a)
    (eR : ∀ a k, a ≠ A → a ≠ A + 1 → a ≠ A + 2 → ¬ (a = 20 ∧ k = np) → zR H a k = zR h a k) (r20 : zR H 20 np = A) (rA0 : zR H A 0 = A + 1) (rA4 : zR H A 4 = A + 2) : Sh H (np + 1) nm nh := by
  obtain ⟨s1, s2, s3, s4, s5, s6, s7, s8, s9⟩ := S
  refine ⟨fun a ha => ?_, fun a ha h4 => ?_, fun a k e => ?_, fun p hp => ?_, fun p h1 h2 => ?_, fun m hm => ?_, fun m h1 h2 => ?_, fun k hk => ?_, fun k h1 h2 => ?_⟩
  · rw [eK a (by omega) (by omega) (by omega)]; exact s1 a ha
  · rw [eN a (by omega) (by omega) (by omega)]; exact s2 a ha h4
  · have := cR_lt e
    rw [eR a k (by omega) (by omega) (by omega) (by omega)]; exact s3 a k e
  · by_cases e : p = np
    · subst e
      rw [show 301 + 3 * p = A + 1 by omega, show 302 + 3 * p = A + 2 by omega, ← hA]
      exact ⟨r20, kA, kB, kC, nC, rA0, rA4⟩
    · rw [eR 20 p (by omega) (by omega) (by omega) (by omega), eK _ (by omega) (by omega) (by omega), eK _ (by omega) (by omega) (by omega), eK _ (by omega) (by omega) (by omega), eN _ (by omega) (by omega) (by omega), eR _ 0 (by omega) (by omega) (by omega) (by omega), eR _ 4 (by omega) (by omega) (by omega) (by omega)]; exact s4 p (by omega)
  · rw [eK _ (by omega) (by omega) (by omega), eK _ (by omega) (by omega) (by omega), eK _ (by omega) (by omega) (by omega)]; exact s5 p (by omega) h2
  · rw [eR 21 m (by omega) (by omega) (by omega) (by omega), eK _ (by omega) (by omega) (by omega)]; exact s6 m hm
  · rw [eK _ (by omega) (by omega) (by omega)]; exact s7 m h1 h2
  · rw [eR 22 k (by omega) (by omega) (by omega) (by omega), eK _ (by omega) (by omega) (by omega), eK _ (by omega) (by omega) (by omega), eR _ 0 (by omega) (by omega) (by omega) (by omega)]; exact s8 k hk
  · rw [eK _ (by omega) (by omega) (by omega), eK _ (by omega) (by omega) (by omega)]; exact s9 k h1 h2
set_option maxHeartbeats 4000000 in
theorem op_pit {l1 l2 l3 l4 l5 : Int32} (J : Jx h i L xs) : ZcI mX10_pit [.ref 10, .int l1, .int l2, .int l3, .int l4, .int l5] h (fun v h1 => ZcI mX11_pit [.ref 200, .int l1, .int l2, .int l3, .int l4, .int l5] h1 (fun v' h2 => v = v' ∧ Jx h2 (i + 1) L xs)) := by
  have J0 := J
  obtain ⟨np, nm, nh, nw, ns, mo, ⟨S, C, T, P, M, St, G, R, W, V, X⟩, q1, q2⟩ := J
  have kX : zK h 10 = 11 := (shX S).1
  have kM : zK h 200 = 12 := (shM S).1
  have cp := C.1
  have cm := C.2.1
  have ch := C.2.2.1
  have cw := C.2.2.2.1
  have cs := C.2.2.2.2.1
  have b1 : np < 2 ^ 31 := by omega
  have b2 : nm < 2 ^ 31 := by omega
  have b3 : nh < 2 ^ 31 := by omega
  by_cases c1 : (0 ≤ l1 ∧ l1 ≤ 99) ∧ 0 ≤ l2 ∧ l2 ≤ 99
  rotate_left
  · exact wX10_pit (X10_place_f c1 (Z0 (wX11_pit (X11_place_f c1 (Z0 ⟨rfl, J0.up⟩)))))
  by_cases c2 : 0 ≤ l3 ∧ l3 ≤ 1000
  rotate_left
  · exact wX10_pit (X10_place_t c1 (Z1 (X10_within_f c2 (Z0 (wX11_pit (X11_place_t c1 (Z1 (X11_in_f c2 rfl rfl (Z0 ⟨rfl, J0.up⟩)))))))))
  by_cases c3 : 0 ≤ l4 ∧ l4 ≤ 200
  rotate_left
  · exact wX10_pit (X10_place_t c1 (Z1 (X10_within_t c2 (Z1 (X10_within_f c3 (Z0 (wX11_pit (X11_place_t c1 (Z1 (X11_in_t c2 rfl rfl (Z1 (X11_in_f c3 rfl rfl (Z0 ⟨rfl, J0.up⟩)))))))))))))
  by_cases c4 : 1 ≤ l5 ∧ l5 ≤ 1000
  rotate_left
  · exact wX10_pit (X10_place_t c1 (Z1 (X10_within_t c2 (Z1 (X10_within_t c3 (Z1 (X10_within_f c4 (N0 (wX11_pit (X11_place_t c1 (Z1 (X11_in_t c2 rfl rfl (Z1 (X11_in_t c3 rfl rfl (Z1 (X11_in_f c4 rfl rfl (N0 ⟨rfl, J0.up⟩)))))))))))))))))
  refine wX10_pit (X10_place_t c1 (Z1 (X10_within_t c2 (Z1 (X10_within_t c3 (Z1 (X10_within_t c4 (N1 ⟨kX, ?_⟩))))))))
  by_cases c5 : np < 8
  rotate_left
  · have e8 : np = 8 := by omega
    subst e8
    refine ⟨fun z => absurd z (by rw [cp.2.1]; decide), fun _ => wX11_pit (X11_place_t c1 (Z1 (X11_in_t c2 rfl rfl (Z1 (X11_in_t c3 rfl rfl (Z1 (X11_in_t c4 rfl rfl (N1 ⟨kM, ?_⟩))))))))⟩
    exact ⟨fun z => absurd cp.1 z, fun _ => ⟨rfl, J0.up⟩⟩
  have e1 := nI_clamp (n := np) (by omega)
  have v1 : vp_in (nI np) 8 := vp_in_nI (by omega) (by omega)
  have l8 : nI np < 8 := nI_lt (b := 8) (by omega) (by omega)
  have n8 : ¬ nI np = 8 := by rw [show (8 : Int32) = nI 8 from rfl, nI_eq (by omega) (by omega)]; omega
  have fr := S.2.2.2.2.1 np (Nat.le_refl _) c5
  have k20 : zK h 20 = 25 := S.1 20 (by decide)
  have n20 : zN h 20 = 8 := S.2.1 20 (by decide) (by decide)
  have r1 : zR h 10 1 = 20 := S.2.2.1 10 1 (by decide)
  obtain ⟨A, hA⟩ : ∃ A, A = 300 + 3 * np := ⟨_, rfl⟩
  rw [show 301 + 3 * np = A + 1 by omega, show 302 + 3 * np = A + 2 by omega, ← hA] at fr
  refine ⟨fun _ => ⟨by rw [r1]; decide, A, by omega, fr.1, ?_⟩, fun z => absurd (by rw [cp.2.1]; exact l8) z⟩
  intro h14 e14
  refine ⟨A + 1, by omega, by rw [e14, zK_mkn (by omega)]; exact fr.2.1, ?_⟩
  intro h19 e19
  refine wX5_init ⟨by rw [e19, zK_mks], ?_⟩
  refine ZcV.nm (fun h21 e21 => wX4_init ⟨A + 2, by omega, by rw [e21, zK_sI, zK_sI, e19, zK_mkn (by omega), e14, zK_mkn (by omega)]; exact fr.2.2, fun h4 e4 => ⟨by rw [e4, zK_mkn (by omega), e21, zK_sI, zK_sI, e19, zK_mkn (by omega), e14, zK_mks], ?_⟩⟩)
  generalize e22 : zsI (zsI (zsI (zsR (zsI (zsI (zsR h4 A 4 (A + 2)) A 5 1) A 7 99) A 0 (A + 1)) A 1 l3) A 2 l4) A 3 l5 = h22
  have K22 : ∀ a, a ≠ A → a ≠ A + 1 → a ≠ A + 2 → zK h22 a = zK h a := fun a q1 q2 q3 => by rw [← e22]; simp only [zK_sI, zK_sR]; rw [e4, zK_mkn q3, e21]; simp only [zK_sI]; rw [e19, zK_mkn q2, e14, zK_mkn q1]
  have N22 : ∀ a, a ≠ A → a ≠ A + 1 → a ≠ A + 2 → zN h22 a = zN h a := fun a q1 q2 q3 => by rw [← e22]; simp only [zN_sI, zN_sR]; rw [e4, zN_mkn q3, e21]; simp only [zN_sI]; rw [e19, zN_mkn q2, e14, zN_mkn q1]
  have R22 : ∀ a k, a ≠ A → a ≠ A + 1 → a ≠ A + 2 → zR h22 a k = zR h a k := fun a k q1 q2 q3 => by rw [← e22]; simp (disch := omega) only [zR_sI, zR_sRn]; rw [e4, zR_mkn q3, e21]; simp only [zR_sI]; rw [e19, zR_mkn q2, e14, zR_mkn q1]
  have I22 : ∀ a k, a ≠ A → a ≠ A + 1 → a ≠ A + 2 → zI h22 a k = zI h a k := fun a k q1 q2 q3 => by rw [← e22]; simp (disch := omega) only [zI_sIa, zI_sR]; rw [e4, zI_mkn q3, e21, zI_sIa q2, zI_sIa q2, e19, zI_mkn q2, e14, zI_mkn q1]
  have kA : zK h22 A = 5 := by rw [← e22]; simp only [zK_sI, zK_sR]; rw [e4, zK_mkn (by omega), e21]; simp only [zK_sI]; rw [e19, zK_mkn (by omega), e14, zK_mks]
  have kB : zK h22 (A + 1) = 6 := by rw [← e22]; simp only [zK_sI, zK_sR]; rw [e4, zK_mkn (by omega), e21]; simp only [zK_sI]; rw [e19, zK_mks]
  have kC : zK h22 (A + 2) = 20 := by rw [← e22]; simp only [zK_sI, zK_sR]; rw [e4, zK_mks]
  have nC : zN h22 (A + 2) = 3 := by rw [← e22]; simp only [zN_sI, zN_sR]; rw [e4, zN_mks]
  have rA0 : zR h22 A 0 = A + 1 := by rw [← e22]; simp only [zR_sI, zR_sRs]
  have rA4 : zR h22 A 4 = A + 2 := by rw [← e22]; simp (disch := omega) only [zR_sI, zR_sRs, zR_sRn]
  have i1 : zI h22 A 1 = l3 := by rw [← e22]; simp (disch := omega) only [zI_sIs, zI_sIj, zI_sR]
  have i2 : zI h22 A 2 = l4 := by rw [← e22]; simp (disch := omega) only [zI_sIs, zI_sIj, zI_sR]
  have i3 : zI h22 A 3 = l5 := by rw [← e22]; simp (disch := omega) only [zI_sIs, zI_sIj, zI_sR]
  have i5 : zI h22 A 5 = 1 := by rw [← e22]; simp (disch := omega) only [zI_sIs, zI_sIj, zI_sR]
  have i6 : zI h22 A 6 = 0 := by rw [← e22]; simp (disch := omega) only [zI_sIs, zI_sIj, zI_sR]; rw [e4, zI_mkn (by omega), e21, zI_sIa (by omega), zI_sIa (by omega), e19, zI_mkn (by omega), e14, zI_mk0]
  have i7 : zI h22 A 7 = 99 := by rw [← e22]; simp (disch := omega) only [zI_sIs, zI_sIj, zI_sR]
  have i8 : zI h22 (A + 1) 0 = l1 := by rw [← e22]; simp (disch := omega) only [zI_sIa, zI_sR]; rw [e4, zI_mkn (by omega), e21, zI_sIj (by decide), zI_sIs]
  have i9 : zI h22 (A + 1) 1 = l2 := by rw [← e22]; simp (disch := omega) only [zI_sIa, zI_sR]; rw [e4, zI_mkn (by omega), e21, zI_sIs]
  have i10 : ∀ t, zI h22 (A + 2) t = 0 := fun t => by rw [← e22]; simp (disch := omega) only [zI_sIa, zI_sR]; rw [e4, zI_mk0]
  clear e22 e4 e21 e19 e14
  rw [r1, cp.2.1, e1]
  refine ⟨by rw [K22 20 (by omega) (by omega) (by omega)]; exact k20, by rw [N22 20 (by omega) (by omega) (by omega), n20]; exact v1, kA, ?_⟩
  intro h26 e26
  have S1 : Sh h26 (np + 1) nm nh := by
    refine S.pit hA c5 cm.2.2 ch.2.2 (fun a q1 q2 q3 => ?_) ?_ ?_ ?_ ?_ (fun a q1 q2 q3 => ?_) (fun a k q1 q2 q3 q4 => ?_) ?_ ?_ ?_
    · rw [e26, zK_sR]; exact K22 a q1 q2 q3
    · rw [e26, zK_sR]; exact kA
    · rw [e26, zK_sR]; exact kB
    · rw [e26, zK_sR]; exact kC
    · rw [e26, zN_sR]; exact nC
    · rw [e26, zN_sR]; exact N22 a q1 q2 q3
    · rw [e26, zR_sRn (by omega)]; exact R22 a k q1 q2 q3
    · rw [e26, zR_sRs]
    · rw [e26, zR_sRn (by omega)]; exact rA0
    · rw [e26, zR_sRn (by omega)]; exact rA4
  have I26 : ∀ a k, zI h26 a k = zI h22 a k := fun a k => by rw [e26, zI_sR]
  have n26 : zN h26 4 = L := by rw [e26, zN_sR, N22 4 (by omega) (by omega) (by omega)]; exact q1
  clear e26
  have E0 : ∀ a j, ¬ (a = A ∨ a = A + 1 ∨ a = A + 2) → zI h26 a j = zI h a j := fun a j q => by rw [I26]; exact I22 a j (by omega) (by omega) (by omega)
  have b5 : zI h26 60 5 = nI np := by rw [E0 60 5 (by omega)]; exact cp.2.2.1
  simp only [shX S1, ne_eq]
  refine ⟨trivial, by decide, (shW S1).1, wX9_addBasin ?_⟩
  simp (disch := omega) only [zK_sI, zN_sI, zR_sI, zI_sIa, shW S1, b5, e1, v1, ne_eq, forall_eq]
  refine ⟨trivial, Bf (Int32.not_le.mpr l8) ⟨by decide, trivial, trivial, by decide, trivial, trivial, trivial, by decide, trivial, trivial, trivial, trivial, ?_⟩⟩
  have b12 : zI h26 10 12 = nI np := by rw [E0 10 12 (by omega)]; exact cp.2.1
  simp (disch := omega) only [zK_sI, zI_sIa, b12, (shX S1).1]
  refine ⟨trivial, ZcI.nm (fun H1 eH1 => ?_)⟩
  have S1' : Sh H1 (np + 1) nm nh := S1.same (by rw [eH1]; simp only [zK_sI]) (by rw [eH1]; simp only [zN_sI]) (by rw [eH1]; simp only [zR_sI])
  have n41 : zN H1 4 = L := by rw [eH1]; simp only [zN_sI]; exact n26
  have E1 : ∀ a j, ¬ (a = A ∨ a = A + 1 ∨ a = A + 2 ∨ ((a = 61 ∨ a = 64 ∨ a = 65) ∧ j = np) ∨ (a = 60 ∧ j = 5) ∨ (a = 10 ∧ j = 12)) → zI H1 a j = zI h a j := fun a j q => by rw [eH1]; simp (disch := omega) only [zI_sIn]; exact E0 a j (by omega)
  have F1 : ∀ a j, (a = A ∨ a = A + 1 ∨ a = A + 2) → zI H1 a j = zI h22 a j := fun a j q => by rw [eH1]; simp (disch := omega) only [zI_sIa]; exact I26 a j
  have g1 : zI H1 61 np = l5 := by rw [eH1]; simp (disch := omega) only [zI_sIa, zI_sIs]
  have g2 : zI H1 64 np = 1 := by rw [eH1]; simp (disch := omega) only [zI_sIa, zI_sIs]
  have g3 : zI H1 65 np = -6 := by rw [eH1]; simp (disch := omega) only [zI_sIa, zI_sIs]
  have g4 : zI H1 60 5 = nI np + 1 := by rw [eH1]; simp (disch := omega) only [zI_sIa, zI_sIs]
  have g5 : zI H1 10 12 = nI np + 1 := by rw [eH1]; simp (disch := omega) only [zI_sIa, zI_sIs]
  clear eH1
  have c9 : zI H1 200 9 = nI np := by rw [E1 200 9 (by omega)]; exact cp.1
  refine wX11_pit (X11_place_t c1 (Z1 (X11_in_t c2 rfl rfl (Z1 (X11_in_t c3 rfl rfl (Z1 (X11_in_t c4 rfl rfl (N1 ?_))))))))
  simp (disch := omega) only [zK_sI, zN_sI, zR_sI, zI_sIs, zI_sIa, c9, e1, v1, shM S1', ne_eq, forall_eq]
  refine ⟨trivial, Bf' n8 ⟨by decide, trivial, trivial, by decide, trivial, trivial, trivial, by decide, trivial, trivial, trivial, by decide, trivial, trivial, trivial, by decide, trivial, trivial, trivial, by decide, trivial, trivial, trivial, by decide, trivial, trivial, trivial, by decide, trivial, trivial, trivial, by decide, trivial, trivial, trivial, trivial, trivial, ?_⟩⟩
  refine ⟨by rw [nI_1, nI_pred], Jx.nm (fun H2 eH => ?_)⟩
  have S2 : Sh H2 (np + 1) nm nh := S1'.same (by rw [eH]; simp only [zK_sI]) (by rw [eH]; simp only [zN_sI]) (by rw [eH]; simp only [zR_sI])
  have n42 : zN H2 4 = L := by rw [eH]; simp only [zN_sI]; exact n41
  have E2 : ∀ a j, ¬ ((a = 200 ∧ j = 9) ∨ (((203 ≤ a ∧ a ≤ 208) ∨ a = 235 ∨ a = 236 ∨ a = 249) ∧ j = np)) → zI H2 a j = zI H1 a j := fun a j q => by rw [eH]; simp (disch := omega) only [zI_sIn]
  have E : ∀ a j, ¬ (a = A ∨ a = A + 1 ∨ a = A + 2 ∨ ((a = 61 ∨ a = 64 ∨ a = 65) ∧ j = np) ∨ (a = 60 ∧ j = 5) ∨ (a = 10 ∧ j = 12) ∨ (a = 200 ∧ j = 9) ∨ (((203 ≤ a ∧ a ≤ 208) ∨ a = 235 ∨ a = 236 ∨ a = 249) ∧ j = np)) → zI H2 a j = zI h a j := fun a j q => (E2 a j (by omega)).trans (E1 a j (by omega))
  have F2 : ∀ a j, (a = A ∨ a = A + 1 ∨ a = A + 2) → zI H2 a j = zI h22 a j := fun a j q => (E2 a j (by omega)).trans (F1 a j q)
  have o9 : zI H2 200 9 = nI np + 1 := by rw [eH]; simp (disch := omega) only [zI_sIs]
  have p3 : zI H2 203 np = l1 := by rw [eH]; simp (disch := omega) only [zI_sIs, zI_sIa]
  have p4 : zI H2 204 np = l2 := by rw [eH]; simp (disch := omega) only [zI_sIs, zI_sIa]
  have p5 : zI H2 205 np = l3 := by rw [eH]; simp (disch := omega) only [zI_sIs, zI_sIa]
  have p6 : zI H2 206 np = l4 := by rw [eH]; simp (disch := omega) only [zI_sIs, zI_sIa]
  have p7 : zI H2 207 np = l5 := by rw [eH]; simp (disch := omega) only [zI_sIs, zI_sIa]
  have p8 : zI H2 208 np = 1 := by rw [eH]; simp (disch := omega) only [zI_sIs, zI_sIa]
  have p35 : zI H2 235 np = 1 := by rw [eH]; simp (disch := omega) only [zI_sIs, zI_sIa]
  have p36 : zI H2 236 np = -6 := by rw [eH]; simp (disch := omega) only [zI_sIs, zI_sIa]
  have p49 : zI H2 249 np = 99 := by rw [eH]; simp (disch := omega) only [zI_sIs, zI_sIa]
  clear eH
  have C0 : JC H2 (i + 1) (np + 1) nm nh nw ns mo := by
    have := C.up
    unfold JC at this ⊢
    rw [o9, E2 10 12 (by omega), g5, E2 60 5 (by omega), g4, E 200 17 (by omega), E 10 13 (by omega), E 200 53 (by omega), E 10 14 (by omega), E 200 39 (by omega), E 60 9 (by omega), E 221 3 (by omega), E 24 1 (by omega), E 200 40 (by omega), E 60 10 (by omega), E 60 11 (by omega), E 200 41 (by omega), E 60 12 (by omega), E 200 42 (by omega)]
    exact ⟨⟨nI_1 np, nI_1 np, nI_1 np, by omega⟩, this.2⟩
  have P0 : JP H2 (np + 1) := by
    refine ⟨fun p hp => ?_, fun p t hp ht => ?_, fun p h1 h2 => ?_, fun p t h1 h2 h3 => ?_⟩
    · by_cases e : p = np
      · subst e
        rw [show 301 + 3 * p = A + 1 by omega, ← hA, F2 _ 0 (by omega), F2 (A + 1) 1 (by omega), F2 A 1 (by omega), F2 A 2 (by omega), F2 A 3 (by omega), F2 A 5 (by omega), F2 A 6 (by omega), F2 A 7 (by omega), p3, p4, p5, p6, p7, p8, p49, E 248 p (by omega), P.2.2.1 p (by omega) (by omega), i1, i2, i3, i5, i6, i7, i8, i9]
        exact ⟨rfl, rfl, rfl, rfl, rfl, rfl, rfl, rfl, rg_of c1.1 (by decide) (by decide), rg_of c1.2 (by decide) (by decide), rg_of c2 (by decide) (by decide), rg_of c3 (by decide) (by decide), rg_of c4 (by decide) (by decide), Or.inr rfl, ⟨by decide, by decide⟩, ⟨by decide, by decide⟩⟩
      · have := P.1 p (by omega)
        rw [E (301 + 3 * p) 0 (by omega), E (301 + 3 * p) 1 (by omega), E (300 + 3 * p) 1 (by omega), E (300 + 3 * p) 2 (by omega), E (300 + 3 * p) 3 (by omega), E (300 + 3 * p) 5 (by omega), E (300 + 3 * p) 6 (by omega), E (300 + 3 * p) 7 (by omega), E 203 p (by omega), E 204 p (by omega), E 205 p (by omega), E 206 p (by omega), E 207 p (by omega), E 208 p (by omega), E 248 p (by omega), E 249 p (by omega)]
        exact this
    · by_cases e : p = np
      · subst e
        rw [show 302 + 3 * p = A + 2 by omega, F2 _ t (by omega), i10, E 209 _ (by omega), P.2.2.2 p t (by omega) (by omega) ht]
        exact ⟨rfl, by decide, by decide⟩
      · have := P.2.1 p t (by omega) ht
        rw [E (302 + 3 * p) t (by omega), E 209 _ (by omega)]
        exact this
    · rw [E 248 p (by omega)]; exact P.2.2.1 p (by omega) h2
    · rw [E 209 _ (by omega)]; exact P.2.2.2 p t (by omega) h2 h3
  have M0 : JM H2 (np + 1) nm := fun m hm => by
    have := M.congr (h1 := H2) (fun a j q => E a j (by omega)) cm.2.2 m hm
    refine ⟨this.1, this.2.1, this.2.2.1, this.2.2.2.1, this.2.2.2.2.1, this.2.2.2.2.2.1, this.2.2.2.2.2.2.1, this.2.2.2.2.2.2.2.1, this.2.2.2.2.2.2.2.2.1, this.2.2.2.2.2.2.2.2.2.1, this.2.2.2.2.2.2.2.2.2.2.1, this.2.2.2.2.2.2.2.2.2.2.2.1, this.2.2.2.2.2.2.2.2.2.2.2.2.1, ?_⟩
    rcases this.2.2.2.2.2.2.2.2.2.2.2.2.2 with ⟨z, p, hp, e⟩ | z
    · exact Or.inl ⟨z, p, by omega, e⟩
    · exact Or.inr z
  have W0 : JW H2 (np + 1) nw := by
    refine ⟨fun p hp => ?_, fun p hp => ?_, fun w hw => ?_⟩
    · have := W.1 p hp
      rw [E 62 p (by omega), E 63 p (by omega), E 233 p (by omega), E 234 p (by omega)]
      exact ⟨this.1, this.2.1, fun z => ⟨(this.2.2 (by omega)).1, (this.2.2 (by omega)).2.1, by rw [E 64 p (by omega)]; exact (this.2.2 (by omega)).2.2⟩⟩
    · by_cases e : p = np
      · subst e
        have := (W.1 p (by omega)).2.2 (Nat.le_refl _)
        rw [E2 61 p (by omega), g1, E2 64 p (by omega), g2, E2 65 p (by omega), g3, p7, p35, p36, E 233 p (by omega), E 234 p (by omega), this.1, this.2.1]
        have c4' := rg_of (x := 1) (y := 1000) c4 (by decide) (by decide)
        have z0 : (0 : Int32).toInt = 0 := by decide
        exact ⟨rfl, rfl, Or.inr rfl, rfl, Or.inl rfl, ⟨by decide, by decide⟩, by decide, by have := c4'.1; omega⟩
      · have := W.2.1 p (by omega)
        rw [E 61 p (by omega), E 64 p (by omega), E 65 p (by omega), E 207 p (by omega), E 233 p (by omega), E 234 p (by omega), E 235 p (by omega), E 236 p (by omega)]
        exact this
    · have := W.2.2 w hw
      rw [E 66 w (by omega), E 67 w (by omega), E 68 w (by omega), E 237 w (by omega), E 238 w (by omega), E 239 w (by omega)]
      obtain ⟨a1, a2, a3, ⟨x, y, a4, a5, a6, a7, a8⟩, a9⟩ := this
      exact ⟨a1, a2, a3, ⟨x, y, by omega, by omega, a6, a7, a8⟩, a9⟩
  exact ⟨np + 1, nm, nh, nw, ns, mo, ⟨S2, C0, T.congr (fun a j q => E a j (by omega)), P0, M0, St.congr (fun a j q => E a j (by omega)), G.congr (fun a j q => E a j (by omega)), R.congr (fun a j q => E a j (by omega)), W0, V.congr (fun a j q => E a j (by omega)), X.congr (fun a j q => E a j (by omega)) ch.2.2⟩, n42, fun j hj => by rw [E 4 j (by omega)]; exact q2 j hj⟩
end PIT
