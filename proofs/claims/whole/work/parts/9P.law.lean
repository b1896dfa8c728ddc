section LAW
variable {h : ZH} {i L rc rs : Nat} {xs : Nat → Int32} {ψ : Int32 → ZH → Prop}
set_option maxRecDepth 20000 in
set_option maxHeartbeats 8000000 in
theorem law_step (J : Jx h i L xs) (hi : 7 * i + 7 ≤ L) (hL : L ≤ 3584) (hrc : 3 ≤ rc) (hrs : 13 ≤ rs)
    (nx : ∀ h2 rc' rs', Jx h2 (i + 1) L xs → rc ≤ rc' + 3 → rs ≤ rs' + 13 → Zt mL_law (zPI ψ) rc' rs' 18 [some (.ref 4), some (.ref 10), some (.ref 200), some (.int (nI (7 * i + 7)))] [] h2) :
    Zt mL_law (zPI ψ) rc rs 18 [some (.ref 4), some (.ref 10), some (.ref 200), some (.int (nI (7 * i)))] [] h := by
  have hi1000 : i < 1000 := by omega
  have facts : zK h 4 = 30 ∧ zK h 10 = 11 ∧ zK h 200 = 12 ∧ zN h 4 = L := by
    obtain ⟨np, nm, nh, nw, ns, mo, ⟨S, _⟩, q1, _⟩ := J
    exact ⟨S.1 4 (by decide), (shX S).1, (shM S).1, q1⟩
  obtain ⟨K4, K10, K200, N4⟩ := facts
  have aft : ∀ h1, kpt h h1 → zK h1 4 = 30 ∧ zN h1 4 = L ∧ zK h1 200 = 12 ∧ ∀ k, k < 7 → zI h1 4 (7 * i + k) = zI h 4 (7 * i + k) := fun h1 kp => by
    obtain ⟨r1, r2⟩ := kp.2 4 K4
    exact ⟨(kp.1 4 (by rw [K4]; decide)).trans K4, r1.trans N4, (kp.1 200 (by rw [K200]; decide)).trans K200, fun k hk => r2 _ (by rw [N4]; omega)⟩
  have fin : ∀ (y : ZM) (av : List Value) (h1 : ZH) (x : Int32) (B : ZH → Prop), ZcI y av h1 (fun v' h2 => x = v' ∧ Jx h2 (i + 1) L xs) → (∀ h2, Jx h2 (i + 1) L xs → B h2) → ZcI y av h1 (fun v' h2 => (x = v' → B h2) ∧ (¬ x = v' → ψ 0 h2)) := fun y av h1 x B q b => ZcI.mono q (fun v' h2 ⟨ev, J2⟩ => ⟨fun _ => b h2 J2, fun z => absurd ev z⟩)
  have f1 : nI (7 * i) + 1 = nI (7 * i + 1) := nI_1 _
  have f2 : nI (7 * i) + 2 = nI (7 * i + 2) := nI_add _ 2
  have f3 : nI (7 * i) + 3 = nI (7 * i + 3) := nI_add _ 3
  have f4 : nI (7 * i) + 4 = nI (7 * i + 4) := nI_add _ 4
  have f5 : nI (7 * i) + 5 = nI (7 * i + 5) := nI_add _ 5
  have f6 : nI (7 * i) + 6 = nI (7 * i + 6) := nI_add _ 6
  have f7 : nI (7 * i) + 7 = nI (7 * i + 7) := nI_add _ 7
  have c0 := nI_clamp (n := 7 * i) (by omega)
  have c1 := nI_clamp (n := 7 * i + 1) (by omega)
  have c2 := nI_clamp (n := 7 * i + 2) (by omega)
  have c3 := nI_clamp (n := 7 * i + 3) (by omega)
  have c4 := nI_clamp (n := 7 * i + 4) (by omega)
  have c5 := nI_clamp (n := 7 * i + 5) (by omega)
  have c6 := nI_clamp (n := 7 * i + 6) (by omega)
  have v0 : vp_in (nI (7 * i)) L := vp_in_nI (by omega) (by omega)
  have v1 : vp_in (nI (7 * i + 1)) L := vp_in_nI (by omega) (by omega)
  have v2 : vp_in (nI (7 * i + 2)) L := vp_in_nI (by omega) (by omega)
  have v3 : vp_in (nI (7 * i + 3)) L := vp_in_nI (by omega) (by omega)
  have v4 : vp_in (nI (7 * i + 4)) L := vp_in_nI (by omega) (by omega)
  have v5 : vp_in (nI (7 * i + 5)) L := vp_in_nI (by omega) (by omega)
  have v6 : vp_in (nI (7 * i + 6)) L := vp_in_nI (by omega) (by omega)
  have nl : ¬ Int32.ofNat L - 7 < nI (7 * i) := by
    have e : (nI L - 7).toInt = (L : Int) - 7 := by
      have t7 : (7 : Int32).toInt = 7 := by decide
      rw [tI_sub (by rw [nI_toInt (by omega), t7]; omega) (by rw [nI_toInt (by omega), t7]; omega), nI_toInt (by omega), t7]
    show ¬ nI L - 7 < nI (7 * i)
    rw [tI_lt, e, nI_toInt (by omega)]
    omega
  refine wL_law_18 ?_
  simp only [K4, K10, N4, f1, f2, f3, f4, f5, f6, f7, c0, c1, c2, c3, c4, c5, c6, v0, v1, v2, v3, v4, v5, v6]
  refine ⟨trivial, fun z => absurd z nl, fun _ => ⟨by decide, trivial, ?_⟩⟩
  refine ⟨fun z => ?_, fun z => ?_, fun z => ?_, fun z => ?_, fun z => ?_, fun z => ?_, fun z => ?_, fun z => ?_, fun z => ?_, fun z => ?_, fun z => ?_, fun z => ?_, fun z => ?_, fun z => ?_, fun z => ?_, fun z => ?_, fun z => ?_, fun z => ?_, fun z => ?_, fun z => ?_, fun z => ?_, fun z => ?_, fun z => ?_, fun z => ?_, fun z => ?_, fun z => ?_, fun z => ?_, fun z => ?_, fun z => ?_, fun z => ?_, fun z => ?_, fun z => ?_, fun n0 n1 n2 n3 n4 n5 n6 n7 n8 n9 n10 n11 n12 n13 n14 n15 n16 n17 n18 n19 n20 n21 n22 n23 n24 n25 n26 n27 n28 n29 n30 n31 => ?_⟩
  · refine ⟨trivial, trivial, trivial, trivial, ZcI.mono (ZcI.keep (op_town J)) (fun x h1 ⟨q, kp⟩ => ?_)⟩
    obtain ⟨a4, aN, a2, ab⟩ := aft h1 kp
    simp only [a4, aN, a2, ab 1 (by omega), ab 2 (by omega), ab 3 (by omega), v1, v2, v3, v4, v5, v6]
    exact ⟨by decide, trivial, trivial, trivial, trivial, fin _ _ _ _ _ q (fun h2 J2 => nx h2 (rc) (rs) J2 (by omega) (by omega))⟩
  · refine ⟨trivial, trivial, trivial, trivial, trivial, rc - 3, rs - 13, by omega, by omega, trivial, ZcI.mono (ZcI.keep (op_pit J)) (fun x h1 ⟨q, kp⟩ => ?_)⟩
    obtain ⟨a4, aN, a2, ab⟩ := aft h1 kp
    simp only [a4, aN, a2, ab 1 (by omega), ab 2 (by omega), ab 3 (by omega), ab 4 (by omega), ab 5 (by omega), v1, v2, v3, v4, v5, v6]
    exact ⟨by decide, trivial, trivial, trivial, trivial, trivial, trivial, fin _ _ _ _ _ q (fun h2 J2 => nx h2 (rc - 3) (rs - 13) J2 (by omega) (by omega))⟩
  · refine ⟨trivial, trivial, trivial, ZcI.mono (ZcI.keep (op_about J)) (fun x h1 ⟨q, kp⟩ => ?_)⟩
    obtain ⟨a4, aN, a2, ab⟩ := aft h1 kp
    simp only [a4, aN, a2, ab 1 (by omega), ab 2 (by omega), v1, v2, v3, v4, v5, v6]
    exact ⟨by decide, trivial, trivial, trivial, fin _ _ _ _ _ q (fun h2 J2 => nx h2 (rc) (rs) J2 (by omega) (by omega))⟩
  · refine ⟨trivial, trivial, trivial, trivial, trivial, trivial, fun c => ?_, fun c => ?_⟩
    · refine wL_law_355 ⟨rc - 1, rs - 7, by omega, by omega, K10, ZcI.mono (ZcI.keep (op_man (l6 := 0) (Or.inl rfl) J)) (fun x h1 ⟨q, kp⟩ => ?_)⟩
      obtain ⟨a4, aN, a2, ab⟩ := aft h1 kp
      simp only [f1, f2, f3, f4, f5, f6, f7, c1, c2, c3, c4, c5, c6, a4, aN, a2, ab 1 (by omega), ab 2 (by omega), ab 3 (by omega), ab 4 (by omega), ab 5 (by omega), ab 6 (by omega), v1, v2, v3, v4, v5, v6]
      exact ⟨by decide, trivial, trivial, trivial, trivial, trivial, trivial, fun _ => ⟨trivial, fin _ _ _ _ _ q (fun h2 J2 => nx h2 (rc - 1) (rs - 7) J2 (by omega) (by omega))⟩, fun d => absurd c d⟩
    · refine wL_law_355 ⟨rc - 1, rs - 7, by omega, by omega, K10, ZcI.mono (ZcI.keep (op_man (l6 := 1) (Or.inr rfl) J)) (fun x h1 ⟨q, kp⟩ => ?_)⟩
      obtain ⟨a4, aN, a2, ab⟩ := aft h1 kp
      simp only [f1, f2, f3, f4, f5, f6, f7, c1, c2, c3, c4, c5, c6, a4, aN, a2, ab 1 (by omega), ab 2 (by omega), ab 3 (by omega), ab 4 (by omega), ab 5 (by omega), ab 6 (by omega), v1, v2, v3, v4, v5, v6]
      exact ⟨by decide, trivial, trivial, trivial, trivial, trivial, trivial, fun d => absurd d c, fun _ => ⟨trivial, fin _ _ _ _ _ q (fun h2 J2 => nx h2 (rc - 1) (rs - 7) J2 (by omega) (by omega))⟩⟩
  · refine ⟨trivial, trivial, trivial, ZcI.mono (ZcI.keep (op_ofMan J)) (fun x h1 ⟨q, kp⟩ => ?_)⟩
    obtain ⟨a4, aN, a2, ab⟩ := aft h1 kp
    simp only [a4, aN, a2, ab 1 (by omega), ab 2 (by omega), v1, v2, v3, v4, v5, v6]
    exact ⟨by decide, trivial, trivial, trivial, fin _ _ _ _ _ q (fun h2 J2 => nx h2 (rc) (rs) J2 (by omega) (by omega))⟩
  · refine ⟨trivial, trivial, ZcI.mono (ZcI.keep (op_leave J)) (fun x h1 ⟨q, kp⟩ => ?_)⟩
    obtain ⟨a4, aN, a2, ab⟩ := aft h1 kp
    simp only [a4, aN, a2, ab 1 (by omega), v1, v2, v3, v4, v5, v6]
    exact ⟨by decide, trivial, trivial, fin _ _ _ _ _ q (fun h2 J2 => nx h2 (rc) (rs) J2 (by omega) (by omega))⟩
  · refine ⟨trivial, trivial, trivial, trivial, ZcI.mono (ZcI.keep (op_posts J)) (fun x h1 ⟨q, kp⟩ => ?_)⟩
    obtain ⟨a4, aN, a2, ab⟩ := aft h1 kp
    simp only [a4, aN, a2, ab 1 (by omega), ab 2 (by omega), ab 3 (by omega), v1, v2, v3, v4, v5, v6]
    exact ⟨by decide, trivial, trivial, trivial, trivial, fin _ _ _ _ _ q (fun h2 J2 => nx h2 (rc) (rs) J2 (by omega) (by omega))⟩
  · refine ⟨trivial, trivial, trivial, ZcI.mono (ZcI.keep (op_set J)) (fun x h1 ⟨q, kp⟩ => ?_)⟩
    obtain ⟨a4, aN, a2, ab⟩ := aft h1 kp
    simp only [a4, aN, a2, ab 1 (by omega), ab 2 (by omega), v1, v2, v3, v4, v5, v6]
    exact ⟨by decide, trivial, trivial, trivial, fin _ _ _ _ _ q (fun h2 J2 => nx h2 (rc) (rs) J2 (by omega) (by omega))⟩
  · refine ⟨trivial, ZcI.mono (ZcI.keep (op_year J)) (fun x h1 ⟨q, kp⟩ => ?_)⟩
    obtain ⟨a4, aN, a2, ab⟩ := aft h1 kp
    simp only [a4, aN, a2, v1, v2, v3, v4, v5, v6]
    exact ⟨trivial, fin _ _ _ _ _ q (fun h2 J2 => nx h2 (rc) (rs) J2 (by omega) (by omega))⟩
  · refine ⟨trivial, trivial, ZcI.mono (ZcI.keep (op_say J)) (fun x h1 ⟨q, kp⟩ => ?_)⟩
    obtain ⟨a4, aN, a2, ab⟩ := aft h1 kp
    simp only [a4, aN, a2, ab 1 (by omega), v1, v2, v3, v4, v5, v6]
    exact ⟨by decide, trivial, trivial, fin _ _ _ _ _ q (fun h2 J2 => nx h2 (rc) (rs) J2 (by omega) (by omega))⟩
  · refine ⟨trivial, ZcI.mono (ZcI.keep (op_wipe J)) (fun x h1 ⟨q, kp⟩ => ?_)⟩
    obtain ⟨a4, aN, a2, ab⟩ := aft h1 kp
    simp only [a4, aN, a2, v1, v2, v3, v4, v5, v6]
    exact ⟨trivial, fin _ _ _ _ _ q (fun h2 J2 => nx h2 (rc) (rs) J2 (by omega) (by omega))⟩
  · refine ⟨trivial, ZcI.mono (ZcI.keep (op_fault J)) (fun x h1 ⟨q, kp⟩ => ?_)⟩
    obtain ⟨a4, aN, a2, ab⟩ := aft h1 kp
    simp only [a4, aN, a2, v1, v2, v3, v4, v5, v6]
    exact ⟨trivial, fin _ _ _ _ _ q (fun h2 J2 => nx h2 (rc) (rs) J2 (by omega) (by omega))⟩
  · refine ⟨trivial, trivial, ZcI.mono (ZcI.keep (op_rule J)) (fun x h1 ⟨q, kp⟩ => ?_)⟩
    obtain ⟨a4, aN, a2, ab⟩ := aft h1 kp
    simp only [a4, aN, a2, ab 1 (by omega), v1, v2, v3, v4, v5, v6]
    exact ⟨by decide, trivial, trivial, fin _ _ _ _ _ q (fun h2 J2 => nx h2 (rc) (rs) J2 (by omega) (by omega))⟩
  · refine ⟨trivial, trivial, trivial, ZcI.mono (ZcI.keep (op_worth J)) (fun x h1 ⟨q, kp⟩ => ?_)⟩
    obtain ⟨a4, aN, a2, ab⟩ := aft h1 kp
    simp only [a4, aN, a2, ab 1 (by omega), ab 2 (by omega), v1, v2, v3, v4, v5, v6]
    exact ⟨by decide, trivial, trivial, trivial, fin _ _ _ _ _ q (fun h2 J2 => nx h2 (rc) (rs) J2 (by omega) (by omega))⟩
  · refine ⟨trivial, trivial, trivial, ZcI.mono (ZcI.keep (op_move J)) (fun x h1 ⟨q, kp⟩ => ?_)⟩
    obtain ⟨a4, aN, a2, ab⟩ := aft h1 kp
    simp only [a4, aN, a2, ab 1 (by omega), ab 2 (by omega), v1, v2, v3, v4, v5, v6]
    exact ⟨by decide, trivial, trivial, trivial, fin _ _ _ _ _ q (fun h2 J2 => nx h2 (rc) (rs) J2 (by omega) (by omega))⟩
  · refine ⟨trivial, trivial, ZcI.mono (ZcI.keep (op_close J)) (fun x h1 ⟨q, kp⟩ => ?_)⟩
    obtain ⟨a4, aN, a2, ab⟩ := aft h1 kp
    simp only [a4, aN, a2, ab 1 (by omega), v1, v2, v3, v4, v5, v6]
    exact ⟨by decide, trivial, trivial, fin _ _ _ _ _ q (fun h2 J2 => nx h2 (rc) (rs) J2 (by omega) (by omega))⟩
  · refine ⟨trivial, trivial, trivial, ZcI.mono (ZcI.keep (op_inflow J)) (fun x h1 ⟨q, kp⟩ => ?_)⟩
    obtain ⟨a4, aN, a2, ab⟩ := aft h1 kp
    simp only [a4, aN, a2, ab 1 (by omega), ab 2 (by omega), v1, v2, v3, v4, v5, v6]
    exact ⟨by decide, trivial, trivial, trivial, fin _ _ _ _ _ q (fun h2 J2 => nx h2 (rc) (rs) J2 (by omega) (by omega))⟩
  · refine ⟨trivial, trivial, fun c => ⟨trivial, ZcI.mono (ZcI.keep (op_pump (l2 := 0) (Or.inl rfl) J)) (fun x h1 ⟨q, kp⟩ => ?_)⟩, fun c => ⟨trivial, ZcI.mono (ZcI.keep (op_pump (l2 := 1) (Or.inr rfl) J)) (fun x h1 ⟨q, kp⟩ => ?_)⟩⟩
    · obtain ⟨a4, aN, a2, ab⟩ := aft h1 kp
      simp only [a4, aN, a2, ab 1 (by omega), ab 2 (by omega), v1, v2]
      exact ⟨by decide, trivial, trivial, fun _ => ⟨trivial, fin _ _ _ _ _ q (fun h2 J2 => nx h2 rc rs J2 (by omega) (by omega))⟩, fun d => absurd c d⟩
    · obtain ⟨a4, aN, a2, ab⟩ := aft h1 kp
      simp only [a4, aN, a2, ab 1 (by omega), ab 2 (by omega), v1, v2]
      exact ⟨by decide, trivial, trivial, fun d => absurd d c, fun _ => ⟨trivial, fin _ _ _ _ _ q (fun h2 J2 => nx h2 rc rs J2 (by omega) (by omega))⟩⟩
  · refine ⟨trivial, trivial, trivial, trivial, ZcI.mono (ZcI.keep (op_way J)) (fun x h1 ⟨q, kp⟩ => ?_)⟩
    obtain ⟨a4, aN, a2, ab⟩ := aft h1 kp
    simp only [a4, aN, a2, ab 1 (by omega), ab 2 (by omega), ab 3 (by omega), v1, v2, v3, v4, v5, v6]
    exact ⟨by decide, trivial, trivial, trivial, trivial, fin _ _ _ _ _ q (fun h2 J2 => nx h2 (rc) (rs) J2 (by omega) (by omega))⟩
  · refine ⟨trivial, trivial, ZcI.mono (ZcI.keep (op_months hi1000 J)) (fun x h1 ⟨q, kp⟩ => ?_)⟩
    obtain ⟨a4, aN, a2, ab⟩ := aft h1 kp
    simp only [a4, aN, a2, ab 1 (by omega), v1, v2, v3, v4, v5, v6]
    exact ⟨by decide, trivial, trivial, fin _ _ _ _ _ q (fun h2 J2 => nx h2 (rc) (rs) J2 (by omega) (by omega))⟩
  · refine ⟨trivial, trivial, trivial, ZcI.mono (ZcI.keep (op_threat hi1000 J)) (fun x h1 ⟨q, kp⟩ => ?_)⟩
    obtain ⟨a4, aN, a2, ab⟩ := aft h1 kp
    simp only [a4, aN, a2, ab 1 (by omega), ab 2 (by omega), v1, v2, v3, v4, v5, v6]
    exact ⟨by decide, trivial, trivial, trivial, fin _ _ _ _ _ q (fun h2 J2 => nx h2 (rc) (rs) J2 (by omega) (by omega))⟩
  · refine ⟨trivial, trivial, trivial, trivial, ZcI.mono (ZcI.keep (op_price J)) (fun x h1 ⟨q, kp⟩ => ?_)⟩
    obtain ⟨a4, aN, a2, ab⟩ := aft h1 kp
    simp only [a4, aN, a2, ab 1 (by omega), ab 2 (by omega), ab 3 (by omega), v1, v2, v3, v4, v5, v6]
    exact ⟨by decide, trivial, trivial, trivial, trivial, fin _ _ _ _ _ q (fun h2 J2 => nx h2 (rc) (rs) J2 (by omega) (by omega))⟩
  · refine ⟨trivial, trivial, trivial, ZcI.mono (ZcI.keep (op_plan J)) (fun x h1 ⟨q, kp⟩ => ?_)⟩
    obtain ⟨a4, aN, a2, ab⟩ := aft h1 kp
    simp only [a4, aN, a2, ab 1 (by omega), ab 2 (by omega), v1, v2, v3, v4, v5, v6]
    exact ⟨by decide, trivial, trivial, trivial, fin _ _ _ _ _ q (fun h2 J2 => nx h2 (rc) (rs) J2 (by omega) (by omega))⟩
  · refine ⟨trivial, trivial, ZcI.mono (ZcI.keep (op_best J)) (fun x h1 ⟨q, kp⟩ => ?_)⟩
    obtain ⟨a4, aN, a2, ab⟩ := aft h1 kp
    simp only [a4, aN, a2, ab 1 (by omega), v1, v2, v3, v4, v5, v6]
    exact ⟨by decide, trivial, trivial, fin _ _ _ _ _ q (fun h2 J2 => nx h2 (rc) (rs) J2 (by omega) (by omega))⟩
  · refine ⟨trivial, trivial, trivial, ZcI.mono (ZcI.keep (op_vote J)) (fun x h1 ⟨q, kp⟩ => ?_)⟩
    obtain ⟨a4, aN, a2, ab⟩ := aft h1 kp
    simp only [a4, aN, a2, ab 1 (by omega), ab 2 (by omega), v1, v2, v3, v4, v5, v6]
    exact ⟨by decide, trivial, trivial, trivial, fin _ _ _ _ _ q (fun h2 J2 => nx h2 (rc) (rs) J2 (by omega) (by omega))⟩
  · refine ⟨trivial, trivial, trivial, trivial, ZcI.mono (ZcI.keep (op_worked J)) (fun x h1 ⟨q, kp⟩ => ?_)⟩
    obtain ⟨a4, aN, a2, ab⟩ := aft h1 kp
    simp only [a4, aN, a2, ab 1 (by omega), ab 2 (by omega), ab 3 (by omega), v1, v2, v3, v4, v5, v6]
    exact ⟨by decide, trivial, trivial, trivial, trivial, fin _ _ _ _ _ q (fun h2 J2 => nx h2 (rc) (rs) J2 (by omega) (by omega))⟩
  · refine ⟨trivial, trivial, trivial, trivial, rc - 2, rs - 5, by omega, by omega, trivial, ZcI.mono (ZcI.keep (op_harm J)) (fun x h1 ⟨q, kp⟩ => ?_)⟩
    obtain ⟨a4, aN, a2, ab⟩ := aft h1 kp
    simp only [a4, aN, a2, ab 1 (by omega), ab 2 (by omega), ab 3 (by omega), ab 4 (by omega), v1, v2, v3, v4, v5, v6]
    exact ⟨by decide, trivial, trivial, trivial, trivial, trivial, fin _ _ _ _ _ q (fun h2 J2 => nx h2 (rc - 2) (rs - 5) J2 (by omega) (by omega))⟩
  · refine ⟨trivial, trivial, ZcI.mono (ZcI.keep (op_whose J)) (fun x h1 ⟨q, kp⟩ => ?_)⟩
    obtain ⟨a4, aN, a2, ab⟩ := aft h1 kp
    simp only [a4, aN, a2, ab 1 (by omega), v1, v2, v3, v4, v5, v6]
    exact ⟨by decide, trivial, trivial, fin _ _ _ _ _ q (fun h2 J2 => nx h2 (rc) (rs) J2 (by omega) (by omega))⟩
  · refine ⟨trivial, trivial, trivial, ZcI.mono (ZcI.keep (op_part J)) (fun x h1 ⟨q, kp⟩ => ?_)⟩
    obtain ⟨a4, aN, a2, ab⟩ := aft h1 kp
    simp only [a4, aN, a2, ab 1 (by omega), ab 2 (by omega), v1, v2, v3, v4, v5, v6]
    exact ⟨by decide, trivial, trivial, trivial, fin _ _ _ _ _ q (fun h2 J2 => nx h2 (rc) (rs) J2 (by omega) (by omega))⟩
  · refine ⟨trivial, trivial, trivial, ZcI.mono (ZcI.keep (op_work J)) (fun x h1 ⟨q, kp⟩ => ?_)⟩
    obtain ⟨a4, aN, a2, ab⟩ := aft h1 kp
    simp only [a4, aN, a2, ab 1 (by omega), ab 2 (by omega), v1, v2, v3, v4, v5, v6]
    exact ⟨by decide, trivial, trivial, trivial, fin _ _ _ _ _ q (fun h2 J2 => nx h2 (rc) (rs) J2 (by omega) (by omega))⟩
  · refine ⟨trivial, ZcI.mono (ZcI.keep (op_lone J)) (fun x h1 ⟨q, kp⟩ => ?_)⟩
    obtain ⟨a4, aN, a2, ab⟩ := aft h1 kp
    simp only [a4, aN, a2, v1, v2, v3, v4, v5, v6]
    exact ⟨trivial, fin _ _ _ _ _ q (fun h2 J2 => nx h2 (rc) (rs) J2 (by omega) (by omega))⟩
  · refine ⟨trivial, trivial, ZcI.mono (ZcI.keep (op_told J)) (fun x h1 ⟨q, kp⟩ => ?_)⟩
    obtain ⟨a4, aN, a2, ab⟩ := aft h1 kp
    simp only [a4, aN, a2, ab 1 (by omega), v1, v2, v3, v4, v5, v6]
    exact ⟨by decide, trivial, trivial, fin _ _ _ _ _ q (fun h2 J2 => nx h2 (rc) (rs) J2 (by omega) (by omega))⟩
  · exfalso
    obtain ⟨k, hk, ek⟩ := and31 (zI h 4 (7 * i))
    rw [ek] at n0 n1 n2 n3 n4 n5 n6 n7 n8 n9 n10 n11 n12 n13 n14 n15 n16 n17 n18 n19 n20 n21 n22 n23 n24 n25 n26 n27 n28 n29 n30 n31
    have kk : k = 0 ∨ k = 1 ∨ k = 2 ∨ k = 3 ∨ k = 4 ∨ k = 5 ∨ k = 6 ∨ k = 7 ∨ k = 8 ∨ k = 9 ∨ k = 10 ∨ k = 11 ∨ k = 12 ∨ k = 13 ∨ k = 14 ∨ k = 15 ∨ k = 16 ∨ k = 17 ∨ k = 18 ∨ k = 19 ∨ k = 20 ∨ k = 21 ∨ k = 22 ∨ k = 23 ∨ k = 24 ∨ k = 25 ∨ k = 26 ∨ k = 27 ∨ k = 28 ∨ k = 29 ∨ k = 30 ∨ k = 31 := by omega
    rcases kk with rfl | rfl | rfl | rfl | rfl | rfl | rfl | rfl | rfl | rfl | rfl | rfl | rfl | rfl | rfl | rfl | rfl | rfl | rfl | rfl | rfl | rfl | rfl | rfl | rfl | rfl | rfl | rfl | rfl | rfl | rfl | rfl
    · exact n0 rfl
    · exact n1 rfl
    · exact n2 rfl
    · exact n3 rfl
    · exact n4 rfl
    · exact n5 rfl
    · exact n6 rfl
    · exact n7 rfl
    · exact n8 rfl
    · exact n9 rfl
    · exact n10 rfl
    · exact n11 rfl
    · exact n12 rfl
    · exact n13 rfl
    · exact n14 rfl
    · exact n15 rfl
    · exact n16 rfl
    · exact n17 rfl
    · exact n18 rfl
    · exact n19 rfl
    · exact n20 rfl
    · exact n21 rfl
    · exact n22 rfl
    · exact n23 rfl
    · exact n24 rfl
    · exact n25 rfl
    · exact n26 rfl
    · exact n27 rfl
    · exact n28 rfl
    · exact n29 rfl
    · exact n30 rfl
    · exact n31 rfl
theorem law_loop (hL : L ≤ 3584) : ∀ (d i rc rs : Nat) (h : ZH), i + d = 512 → Jx h i L xs → 3 * d ≤ rc → 13 * d ≤ rs → Zt mL_law (zPI (fun v _ => v = 1)) rc rs 18 [some (.ref 4), some (.ref 10), some (.ref 200), some (.int (nI (7 * i)))] [] h
  | 0, i, rc, rs, h, hd, J, _, _ => by
    have facts : zK h 4 = 30 ∧ zN h 4 = L := by
      obtain ⟨np, nm, nh, nw, ns, mo, ⟨S, _⟩, q1, _⟩ := J
      exact ⟨S.1 4 (by decide), q1⟩
    refine wL_law_18 ⟨facts.1, fun _ => rfl, fun z => absurd ?_ z⟩
    rw [facts.2]
    show nI L - 7 < nI (7 * i)
    have t7 : (7 : Int32).toInt = 7 := by decide
    rw [tI_lt, tI_sub (by rw [nI_toInt (by omega), t7]; omega) (by rw [nI_toInt (by omega), t7]; omega), nI_toInt (by omega), nI_toInt (by omega), t7]
    omega
  | d + 1, i, rc, rs, h, hd, J, h1, h2 => by
    by_cases c : 7 * i + 7 ≤ L
    · refine law_step J c hL (by omega) (by omega) (fun h2 rc' rs' J2 g1 g2 => ?_)
      have := law_loop hL d (i + 1) rc' rs' h2 (by omega) J2 (by omega) (by omega)
      rw [show 7 * (i + 1) = 7 * i + 7 by omega] at this
      exact this
    · have facts : zK h 4 = 30 ∧ zN h 4 = L := by
        obtain ⟨np, nm, nh, nw, ns, mo, ⟨S, _⟩, q1, _⟩ := J
        exact ⟨S.1 4 (by decide), q1⟩
      refine wL_law_18 ⟨facts.1, fun _ => rfl, fun z => absurd ?_ z⟩
      rw [facts.2]
      show nI L - 7 < nI (7 * i)
      have t7 : (7 : Int32).toInt = 7 := by decide
      rw [tI_lt, tI_sub (by rw [nI_toInt (by omega), t7]; omega) (by rw [nI_toInt (by omega), t7]; omega), nI_toInt (by omega), nI_toInt (by omega), t7]
      omega
end LAW
