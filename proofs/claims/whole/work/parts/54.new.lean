theorem zI_mkn {h : ZH} {a k n b j : Nat} (e : b ≠ a) : zI (zmk h a k n) b j = zI h b j := if_neg e
theorem zI_mk0 {h : ZH} {a k n j : Nat} : zI (zmk h a k n) a j = 0 := if_pos rfl
theorem zK_mkn {h : ZH} {a k n b : Nat} (e : b ≠ a) : zK (zmk h a k n) b = zK h b := if_neg e
theorem zK_mks {h : ZH} {a k n : Nat} : zK (zmk h a k n) a = k := if_pos rfl
theorem zN_mkn {h : ZH} {a k n b : Nat} (e : b ≠ a) : zN (zmk h a k n) b = zN h b := if_neg e
theorem zN_mks {h : ZH} {a k n : Nat} : zN (zmk h a k n) a = n := if_pos rfl
theorem zR_mkn {h : ZH} {a k n b j : Nat} (e : b ≠ a) : zR (zmk h a k n) b j = zR h b j := if_neg e
theorem zR_sRn {h : ZH} {a i b j v : Nat} (e : ¬ (b = a ∧ j = i)) : zR (zsR h a i v) b j = zR h b j := if_neg e
theorem zR_sRs {h : ZH} {a i v : Nat} : zR (zsR h a i v) a i = v := if_pos ⟨rfl, rfl⟩
theorem cR_lt {a k : Nat} (e : cR a k ≠ 0) : a < 300 ∧ a ≠ 20 ∧ a ≠ 21 ∧ a ≠ 22 := by
  unfold cR at e
  split at e <;> first | (exact absurd rfl e) | (refine ⟨by decide, by decide, by decide, by decide⟩)
theorem ZcV.nm {y : ZM} {av : List Value} {X : ZH} {ψ : ZH → Prop} (k : ∀ H : ZH, H = X → ZcV y av H ψ) : ZcV y av X ψ := k X rfl
theorem ZcI.nm {y : ZM} {av : List Value} {X : ZH} {ψ : Int32 → ZH → Prop} (k : ∀ H : ZH, H = X → ZcI y av H ψ) : ZcI y av X ψ := k X rfl
section NEW
variable {h : ZH} {i L : Nat} {xs : Nat → Int32}
theorem Sh.harm {H : ZH} {np nm nh A B : Nat} (S : Sh h np nm nh) (hA : A = 500 + 2 * nh) (hB : B = 501 + 2 * nh) (h8 : np ≤ 8) (h24 : nm ≤ 24) (h10 : nh < 10)
    (eK : ∀ a, a ≠ A → a ≠ B → zK H a = zK h a) (kA : zK H A = 1) (kB : zK H B = 6) (eN : ∀ a, a ≠ A → a ≠ B → zN H a = zN h a) (eR : ∀ a k, a ≠ A → a ≠ B → ¬ (a = 22 ∧ k = nh) → zR H a k = zR h a k) (rA : zR H A 0 = B) (r22 : zR H 22 nh = A) : Sh H np nm (nh + 1) := by
  obtain ⟨s1, s2, s3, s4, s5, s6, s7, s8, s9⟩ := S
  refine ⟨fun a ha => ?_, fun a ha h4 => ?_, fun a k e => ?_, fun p hp => ?_, fun p h1 h2 => ?_, fun m hm => ?_, fun m h1 h2 => ?_, fun k hk => ?_, fun k h1 h2 => ?_⟩
  · rw [eK a (by omega) (by omega)]; exact s1 a ha
  · rw [eN a (by omega) (by omega)]; exact s2 a ha h4
  · have := cR_lt e
    rw [eR a k (by omega) (by omega) (by omega)]; exact s3 a k e
  · rw [eR 20 p (by omega) (by omega) (by omega), eK _ (by omega) (by omega), eK _ (by omega) (by omega), eK _ (by omega) (by omega), eN _ (by omega) (by omega), eR _ 0 (by omega) (by omega) (by omega), eR _ 4 (by omega) (by omega) (by omega)]; exact s4 p hp
  · rw [eK _ (by omega) (by omega), eK _ (by omega) (by omega), eK _ (by omega) (by omega)]; exact s5 p h1 h2
  · rw [eR 21 m (by omega) (by omega) (by omega), eK _ (by omega) (by omega)]; exact s6 m hm
  · rw [eK _ (by omega) (by omega)]; exact s7 m h1 h2
  · by_cases e : k = nh
    · subst e
      rw [← hA, ← hB]
      exact ⟨r22, kA, kB, rA⟩
    · rw [eR 22 k (by omega) (by omega) (by omega), eK _ (by omega) (by omega), eK _ (by omega) (by omega), eR _ 0 (by omega) (by omega) (by omega)]; exact s8 k (by omega)
  · rw [eK _ (by omega) (by omega), eK _ (by omega) (by omega)]; exact s9 k (by omega) h2
set_option maxHeartbeats 4000000 in
theorem op_harm {l1 l2 l3 l4 : Int32} (J : Jx h i L xs) : ZcI mX10_harm [.ref 10, .int l1, .int l2, .int l3, .int l4] h (fun v h1 => ZcI mX11_harm [.ref 200, .int l1, .int l2, .int l3, .int l4] h1 (fun v' h2 => v = v' ∧ Jx h2 (i + 1) L xs)) := by
  have J0 := J
  obtain ⟨np, nm, nh, nw, ns, mo, ⟨S, C, T, P, M, St, G, R, W, V, X⟩, q1, q2⟩ := J
  have kX : zK h 10 = 11 := (shX S).1
  have kM : zK h 200 = 12 := (shM S).1
  have cp := C.1
  have cm := C.2.1
  have ch := C.2.2.1
  have cw := C.2.2.2.1
  have cs := C.2.2.2.2.1
  have b1 : np < 2 ^ 31 := by omega
  have b2 : nm < 2 ^ 31 := by omega
  have b3 : nh < 2 ^ 31 := by omega
  by_cases c1 : (0 ≤ l1 ∧ l1 ≤ 99) ∧ 0 ≤ l2 ∧ l2 ≤ 99
  rotate_left
  · exact wX10_harm (X10_place_f c1 (Z0 (wX11_harm (X11_place_f c1 (Z0 ⟨rfl, J0.up⟩)))))
  by_cases c2 : 0 ≤ l3 ∧ l3 ≤ 99
  rotate_left
  · exact wX10_harm (X10_place_t c1 (Z1 (X10_within_f c2 (Z0 (wX11_harm (X11_place_t c1 (Z1 (X11_in_f c2 rfl rfl (Z0 ⟨rfl, J0.up⟩)))))))))
  by_cases c3 : 0 ≤ l4 ∧ l4 ≤ 100000
  rotate_left
  · exact wX10_harm (X10_place_t c1 (Z1 (X10_within_t c2 (Z1 (X10_within_f c3 (N0 (wX11_harm (X11_place_t c1 (Z1 (X11_in_t c2 rfl rfl (Z1 (X11_in_f c3 rfl rfl (N0 ⟨rfl, J0.up⟩)))))))))))))
  refine wX10_harm (X10_place_t c1 (Z1 (X10_within_t c2 (Z1 (X10_within_t c3 (N1 ⟨kX, ?_⟩))))))
  by_cases c4 : nh < 10
  rotate_left
  · have e10 : nh = 10 := by omega
    subst e10
    refine ⟨fun z => absurd z (by rw [ch.2.1]; decide), fun _ => wX11_harm (X11_place_t c1 (Z1 (X11_in_t c2 rfl rfl (Z1 (X11_in_t c3 rfl rfl (N1 ⟨kM, ?_⟩))))))⟩
    exact ⟨fun z => absurd ch.1 z, fun _ => ⟨rfl, J0.up⟩⟩
  have e1 := nI_clamp (n := nh) (by omega)
  have v1 : vp_in (nI nh) 10 := vp_in_nI (by omega) (by omega)
  have l10 : nI nh < 10 := nI_lt (b := 10) (by omega) (by omega)
  have n10 : ¬ nI nh = 10 := by rw [show (10 : Int32) = nI 10 from rfl, nI_eq (by omega) (by omega)]; omega
  have fr := S.2.2.2.2.2.2.2.2 nh (Nat.le_refl _) c4
  have k22 : zK h 22 = 23 := S.1 22 (by decide)
  have n22 : zN h 22 = 10 := S.2.1 22 (by decide) (by decide)
  have r3 : zR h 10 3 = 22 := S.2.2.1 10 3 (by decide)
  refine ⟨fun _ => ⟨by rw [r3]; decide, 500 + 2 * nh, by omega, fr.1, ?_⟩, fun z => absurd (by rw [ch.2.1]; exact l10) z⟩
  intro h12 e12
  refine ⟨501 + 2 * nh, by omega, by rw [e12, zK_mkn (by omega)]; exact fr.2, ?_⟩
  intro h17 e17
  refine wX5_init ⟨by rw [e17, zK_mks], ?_⟩
  refine ZcV.nm (fun h18 e18 => wX0_init ⟨by rw [e18, zK_sI, zK_sI, e17, zK_mkn (by omega), e12, zK_mks], ?_⟩)
  generalize e20 : zsI (zsI (zsR h18 (500 + 2 * nh) 0 (501 + 2 * nh)) (500 + 2 * nh) 1 l3) (500 + 2 * nh) 2 l4 = h20
  have K20 : ∀ a, a ≠ 500 + 2 * nh → a ≠ 501 + 2 * nh → zK h20 a = zK h a := fun a q1 q2 => by rw [← e20, zK_sI, zK_sI, zK_sR, e18, zK_sI, zK_sI, e17, zK_mkn q2, e12, zK_mkn q1]
  have N20 : ∀ a, a ≠ 500 + 2 * nh → a ≠ 501 + 2 * nh → zN h20 a = zN h a := fun a q1 q2 => by rw [← e20, zN_sI, zN_sI, zN_sR, e18, zN_sI, zN_sI, e17, zN_mkn q2, e12, zN_mkn q1]
  have R20 : ∀ a k, a ≠ 500 + 2 * nh → a ≠ 501 + 2 * nh → zR h20 a k = zR h a k := fun a k q1 q2 => by rw [← e20, zR_sI, zR_sI, zR_sRn (by omega), e18, zR_sI, zR_sI, e17, zR_mkn q2, e12, zR_mkn q1]
  have I20 : ∀ a k, a ≠ 500 + 2 * nh → a ≠ 501 + 2 * nh → zI h20 a k = zI h a k := fun a k q1 q2 => by rw [← e20, zI_sIa q1, zI_sIa q1, zI_sR, e18, zI_sIa q2, zI_sIa q2, e17, zI_mkn q2, e12, zI_mkn q1]
  have kA : zK h20 (500 + 2 * nh) = 1 := by rw [← e20, zK_sI, zK_sI, zK_sR, e18, zK_sI, zK_sI, e17, zK_mkn (by omega), e12, zK_mks]
  have kB : zK h20 (501 + 2 * nh) = 6 := by rw [← e20, zK_sI, zK_sI, zK_sR, e18, zK_sI, zK_sI, e17, zK_mks]
  have rA : zR h20 (500 + 2 * nh) 0 = 501 + 2 * nh := by rw [← e20, zR_sI, zR_sI, zR_sRs]
  have i1 : zI h20 (500 + 2 * nh) 1 = l3 := by rw [← e20, zI_sIj (by decide), zI_sIs]
  have i2 : zI h20 (500 + 2 * nh) 2 = l4 := by rw [← e20, zI_sIs]
  have i3 : zI h20 (501 + 2 * nh) 0 = l1 := by rw [← e20, zI_sIa (by omega), zI_sIa (by omega), zI_sR, e18, zI_sIj (by decide), zI_sIs]
  have i4 : zI h20 (501 + 2 * nh) 1 = l2 := by rw [← e20, zI_sIa (by omega), zI_sIa (by omega), zI_sR, e18, zI_sIs]
  clear e20 e18 e17 e12
  rw [r3, ch.2.1, e1]
  refine ⟨by rw [K20 22 (by omega) (by omega)]; exact k22, by rw [N20 22 (by omega) (by omega), n22]; exact v1, kA, by rw [K20 10 (by omega) (by omega)]; exact kX, ?_⟩
  rw [I20 10 14 (by omega) (by omega), ch.2.1]
  refine ZcI.nm (fun H1 eH1 => ?_)
  have S1 : Sh H1 np nm (nh + 1) := by
    refine S.harm rfl rfl cp.2.2.2 cm.2.2 c4 (fun a q1 q2 => ?_) ?_ ?_ (fun a q1 q2 => ?_) (fun a k q1 q2 q3 => ?_) ?_ ?_
    · rw [eH1]; exact K20 a q1 q2
    · rw [eH1]; exact kA
    · rw [eH1]; exact kB
    · rw [eH1]; exact N20 a q1 q2
    · rw [eH1, zR_sI, zR_sRn (by omega)]; exact R20 a k q1 q2
    · rw [eH1, zR_sI, zR_sRn (by omega)]; exact rA
    · rw [eH1, zR_sI, zR_sRs]
  have E1 : ∀ a j, ¬ (a = 500 + 2 * nh ∨ a = 501 + 2 * nh ∨ (a = 10 ∧ j = 14)) → zI H1 a j = zI h a j := fun a j q => by rw [eH1, zI_sIn (by omega), zI_sR]; exact I20 a j (by omega) (by omega)
  have j1 : zI H1 (500 + 2 * nh) 1 = l3 := by rw [eH1, zI_sIa (by omega), zI_sR]; exact i1
  have j2 : zI H1 (500 + 2 * nh) 2 = l4 := by rw [eH1, zI_sIa (by omega), zI_sR]; exact i2
  have j3 : zI H1 (501 + 2 * nh) 0 = l1 := by rw [eH1, zI_sIa (by omega), zI_sR]; exact i3
  have j4 : zI H1 (501 + 2 * nh) 1 = l2 := by rw [eH1, zI_sIa (by omega), zI_sR]; exact i4
  have j5 : zI H1 10 14 = nI nh + 1 := by rw [eH1, zI_sIs]
  have n4 : zN H1 4 = L := by rw [eH1]; show zN h20 4 = L; rw [N20 4 (by omega) (by omega)]; exact q1
  clear eH1
  have c53 : zI H1 200 53 = nI nh := by rw [E1 200 53 (by omega)]; exact ch.1
  refine wX11_harm (X11_place_t c1 (Z1 (X11_in_t c2 rfl rfl (Z1 (X11_in_t c3 rfl rfl (N1 ?_))))))
  simp (disch := omega) only [zK_sI, zN_sI, zR_sI, zI_sIs, zI_sIa, c53, e1, v1, shM S1, ne_eq, forall_eq]
  refine ⟨trivial, Bf' n10 ⟨by decide, trivial, trivial, by decide, trivial, trivial, trivial, by decide, trivial, trivial, trivial, by decide, trivial, trivial, trivial, trivial, trivial, ?_⟩⟩
  refine ⟨by rw [nI_1, nI_pred], Jx.nm (fun H2 eH => ?_)⟩
  have E2 : ∀ a j, ¬ ((a = 200 ∧ j = 53) ∨ ((a = 250 ∨ a = 251 ∨ a = 252 ∨ a = 253) ∧ j = nh)) → zI H2 a j = zI H1 a j := fun a j q => by rw [eH]; simp (disch := omega) only [zI_sIn]
  have E : ∀ a j, ¬ (a = 500 + 2 * nh ∨ a = 501 + 2 * nh ∨ (a = 10 ∧ j = 14) ∨ (a = 200 ∧ j = 53) ∨ ((a = 250 ∨ a = 251 ∨ a = 252 ∨ a = 253) ∧ j = nh)) → zI H2 a j = zI h a j := fun a j q => (E2 a j (by omega)).trans (E1 a j (by omega))
  have o1 : zI H2 200 53 = nI nh + 1 := by rw [eH]; simp (disch := omega) only [zI_sIs]
  have o2 : zI H2 250 nh = l1 := by rw [eH]; simp (disch := omega) only [zI_sIs, zI_sIa]
  have o3 : zI H2 251 nh = l2 := by rw [eH]; simp (disch := omega) only [zI_sIs, zI_sIa]
  have o4 : zI H2 252 nh = l3 := by rw [eH]; simp (disch := omega) only [zI_sIs, zI_sIa]
  have o5 : zI H2 253 nh = l4 := by rw [eH]; simp (disch := omega) only [zI_sIs, zI_sIa]
  have S2 : Sh H2 np nm (nh + 1) := by rw [eH]; exact S1
  have n42 : zN H2 4 = L := by rw [eH]; exact n4
  clear eH
  have C0 : JC H2 (i + 1) np nm (nh + 1) nw ns mo := by
    have := C.up
    unfold JC at this ⊢
    rw [o1, E2 10 14 (by omega), j5, E 200 9 (by omega), E 10 12 (by omega), E 60 5 (by omega), E 200 17 (by omega), E 10 13 (by omega), E 200 39 (by omega), E 60 9 (by omega), E 221 3 (by omega), E 24 1 (by omega), E 200 40 (by omega), E 60 10 (by omega), E 60 11 (by omega), E 200 41 (by omega), E 60 12 (by omega), E 200 42 (by omega)]
    exact ⟨this.1, this.2.1, ⟨nI_1 nh, nI_1 nh, by omega⟩, this.2.2.2⟩
  have X0 : JH H2 (nh + 1) := fun k hk => by
    by_cases e : k = nh
    · subst e
      rw [o2, o3, o4, o5, E2 (501 + 2 * k) 0 (by omega), E2 (501 + 2 * k) 1 (by omega), E2 (500 + 2 * k) 1 (by omega), E2 (500 + 2 * k) 2 (by omega)]
      exact ⟨j3, j4, j1, j2, rg_of c1.1 (by decide) (by decide), rg_of c1.2 (by decide) (by decide), rg_of c2 (by decide) (by decide), rg_of c3 (by decide) (by decide)⟩
    · have := X k (by omega)
      rw [E _ 0 (by omega), E _ 1 (by omega), E _ 1 (by omega), E _ 2 (by omega), E 250 k (by omega), E 251 k (by omega), E 252 k (by omega), E 253 k (by omega)]
      exact this
  exact ⟨np, nm, nh + 1, nw, ns, mo, ⟨S2, C0, T.congr (fun a j q => E a j (by omega)), P.congr (fun a j q => E a j (by omega)) cp.2.2.2, M.congr (fun a j q => E a j (by omega)) cm.2.2, St.congr (fun a j q => E a j (by omega)), G.congr (fun a j q => E a j (by omega)), R.congr (fun a j q => E a j (by omega)), W.congr (fun a j q => E a j (by omega)), V.congr (fun a j q => E a j (by omega)), X0⟩, n42, fun j hj => by rw [E 4 j (by omega)]; exact q2 j hj⟩
end NEW
