def lC : List Nat := (32 :: (31 :: (30 :: (29 :: (28 :: (27 :: (17 :: (16 :: (15 :: (14 :: (13 :: (12 :: (88 :: (87 :: (86 :: (List.range' 160 9 ++ (85 :: (List.range' 150 9 ++ (84 :: (List.range' 100 48 ++ (83 :: (82 :: (81 :: (List.range' 90 3 ++ (80 :: (78 :: (77 :: (76 :: (75 :: (74 :: (73 :: (72 :: (71 :: (70 :: (68 :: (67 :: (66 :: (65 :: (64 :: (63 :: (62 :: (61 :: (60 :: (47 :: (46 :: (45 :: (44 :: (43 :: (42 :: (41 :: (List.range' 50 9 ++ (40 :: (39 :: (38 :: (37 :: (36 :: (35 :: (34 :: (33 :: (26 :: (25 :: (24 :: (23 :: (22 :: (21 :: (20 :: (11 :: [10, 4, 3, 2, 1])))))))))))))))))))))))))))))))))))))))))))))))))))))))))))))))))))
def eC : List (Nat × Nat) := ((26, 2) :: ((31, 0) :: ((26, 1) :: ((29, 0) :: ((26, 0) :: ((27, 0) :: ((11, 5) :: ((11, 4) :: ((11, 3) :: ((11, 2) :: ((11, 1) :: ((11, 0) :: ((10, 11) :: ((80, 7) :: ((80, 6) :: ((80, 5) :: ((List.range 9).map (fun j => (86, j)) ++ ((80, 4) :: ((List.range 9).map (fun j => (85, j)) ++ ((80, 3) :: ((List.range 48).map (fun j => (84, j)) ++ ((80, 2) :: ((80, 1) :: ((80, 0) :: ((List.range 3).map (fun j => (81, j)) ++ ((10, 10) :: ((70, 8) :: ((70, 7) :: ((70, 6) :: ((70, 4) :: ((70, 3) :: ((70, 2) :: ((70, 1) :: ((70, 0) :: ((10, 9) :: ((60, 8) :: ((60, 7) :: ((60, 6) :: ((60, 4) :: ((60, 3) :: ((60, 2) :: ((60, 1) :: ((60, 0) :: ((10, 8) :: ((35, 6) :: ((40, 6) :: ((40, 5) :: ((40, 4) :: ((40, 3) :: ((40, 2) :: ((40, 1) :: ((40, 0) :: ((List.range 9).map (fun j => (41, j)) ++ ((35, 5) :: ((35, 3) :: ((35, 1) :: ((35, 0) :: ((10, 7) :: ((33, 0) :: ((10, 6) :: ((10, 5) :: ((24, 0) :: ((10, 4) :: ((10, 3) :: ((10, 2) :: ((10, 1) :: ((10, 0) :: [])))))))))))))))))))))))))))))))))))))))))))))))))))))))))))))))))))

section CTOR10
variable {M : Nat} {h : ZH} {f : Nat → Nat → Int32}
theorem ST.zero2 {l : List Nat} {e : List (Nat × Nat)} {F : Nat → Nat → Int32} {a : Nat} (S : ST M l e F h) (q : l.contains a = true) (hF : ∀ j, F a j = 0) : ST M l e F (zsI (zsI h a 0 0) a 1 0) := by
  refine S.re rfl rfl rfl (fun b hb j => ?_)
  by_cases c : b = a
  · subst c
    by_cases d : j = 1
    · subst d; rw [zI_sIs, hF]
    · rw [zI_sIj d]
      by_cases d0 : j = 0
      · subst d0; rw [zI_sIs, hF]
      · rw [zI_sIj d0]; exact S.2.2.2.1 b hb j
  · rw [zI_sIa c, zI_sIa c]; exact S.2.2.2.1 b hb j
set_option maxRecDepth 100000 in
set_option maxHeartbeats 2000000 in
theorem s_prices {ψ : ZH → Prop} {l : List Nat} {e : List (Nat × Nat)} (S : ST M l e (Fz0 f) h) (c1 : l.contains 80 = true ∧ l.contains 81 = true) (c2 : l.contains 90 = true ∧ l.contains 91 = true ∧ l.contains 92 = true) (c3 : e.contains (80, 0) = true) (c4 : e.contains (81, 0) = true ∧ e.contains (81, 1) = true ∧ e.contains (81, 2) = true) (k : ∀ H, ST M l e (Fz1 f) H → ψ H) : Zt mX6_init (zPV ψ) 0 0 81 [some (.ref 80), some (.int 0), none] [] h := by
  have k80 : ∀ H, zK H = zK h → zK H 80 = 7 := fun H q => by rw [q, S.kd c1.1 (by decide)]; decide
  have k81 : ∀ H, zK H = zK h → zK H 81 = 28 := fun H q => by rw [q, S.kd c1.2 (by decide)]; decide
  have n81 : ∀ H, zN H = zN h → zN H 81 = 3 := fun H q => by rw [q, S.ln c1.2 (by decide) (by decide)]; decide
  have r80 : ∀ H, zR H = zR h → zR H 80 0 = 81 := fun H q => by rw [q, S.rf c3]; decide
  have row : ∀ r, r < 3 → ∀ H, zK H = zK h → zN H = zN h → zR H = zR h → zR H 81 r = 90 + r ∧ zK H (90 + r) = 20 ∧ zN H (90 + r) = 5 := fun r hr H q1 q2 q3 => by
    rw [q1, q2, q3]
    match r, hr with
    | 0, _ => exact ⟨by rw [S.rf c4.1]; decide, by rw [S.kd c2.1 (by decide)]; decide, by rw [S.ln c2.1 (by decide) (by decide)]; decide⟩
    | 1, _ => exact ⟨by rw [S.rf c4.2.1]; decide, by rw [S.kd c2.2.1 (by decide)]; decide, by rw [S.ln c2.2.1 (by decide) (by decide)]; decide⟩
    | 2, _ => exact ⟨by rw [S.rf c4.2.2]; decide, by rw [S.kd c2.2.2 (by decide)]; decide, by rw [S.ln c2.2.2 (by decide) (by decide)]; decide⟩
  have main := down (n := 3) (I := fun r => ∀ H, zK H = zK h → zN H = zN h → zR H = zR h → (∀ a j, ¬ (90 ≤ a ∧ a < 90 + r ∧ j < 5) → zI H a j = zI h a j) → (∀ a j, 90 ≤ a → a < 90 + r → j < 5 → zI H a j = 100) → Zt mX6_init (zPV ψ) 0 0 81 [some (.ref 80), some (.int (nI r)), none] [] H) ?_ ?_
  · exact main h rfl rfl rfl (fun _ _ _ => rfl) (fun a j h1 h2 => absurd h2 (by omega))
  · intro H kk kn kr E g
    refine wX6_init_81 ⟨fun _ => k H (S.re kk kn kr (fun b hb j => ?_)), fun z => absurd (by decide) z⟩
    unfold Fz1
    by_cases c : 90 ≤ b ∧ b ≤ 92 ∧ j < 5
    · rw [if_pos c]; exact g b j c.1 (by omega) c.2.2
    · rw [if_neg c, E b j (by omega)]; exact S.2.2.2.1 b hb j
  · intro r hr ih H kk kn kr E g
    refine wX6_init_81 ⟨fun z => absurd z (cnt_le (n := 3) (by omega) hr), fun _ => ?_⟩
    have inner := down (n := 5) (I := fun t => ∀ H2, zK H2 = zK h → zN H2 = zN h → zR H2 = zR h → (∀ a j, ¬ (90 ≤ a ∧ a < 90 + r ∧ j < 5) → ¬ (a = 90 + r ∧ j < t) → zI H2 a j = zI h a j) → (∀ a j, 90 ≤ a → a < 90 + r → j < 5 → zI H2 a j = 100) → (∀ j, j < t → zI H2 (90 + r) j = 100) → Zt mX6_init (zPV ψ) 0 0 88 [some (.ref 80), some (.int (nI r)), some (.int (nI t))] [] H2) ?_ ?_
    · exact inner H kk kn kr (fun a j q _ => E a j q) g (fun j hj => absurd hj (by omega))
    · intro H2 kk2 kn2 kr2 E2 g2 g3
      refine wX6_init_88 ⟨fun _ => ?_, fun z => absurd (by decide) z⟩
      rw [nI_1]
      refine ih H2 kk2 kn2 kr2 (fun a j q => E2 a j (by omega) (by omega)) (fun a j h1 h2 h3 => ?_)
      by_cases c : a = 90 + r
      · subst c; exact g3 j h3
      · exact g2 a j h1 (by omega) h3
    · intro t ht ih2 H2 kk2 kn2 kr2 E2 g2 g3
      obtain ⟨w1, w2, w3⟩ := row r hr H2 kk2 kn2 kr2
      have er := nI_clamp (n := r) (by omega)
      have vr : vp_in (nI r) 3 := vp_in_nI (by omega) (by omega)
      have et := nI_clamp (n := t) (by omega)
      have vt : vp_in (nI t) 5 := vp_in_nI (by omega) (by omega)
      refine wX6_init_88 ⟨fun z => absurd z (cnt_le (n := 5) (by omega) ht), fun _ => ?_⟩
      rw [k80 H2 kk2, r80 H2 kr2, k81 H2 kk2, n81 H2 kn2, er, et, w1, w2, w3, nI_1]
      refine ⟨rfl, by decide, rfl, vr, by omega, rfl, vt, ih2 _ kk2 kn2 kr2 (fun a j q1 q2 => ?_) (fun a j h1 h2 h3 => ?_) (fun j hj => ?_)⟩
      · rw [zI_sIn (by omega)]; exact E2 a j q1 (by omega)
      · rw [zI_sIa (by omega)]; exact g2 a j h1 h2 h3
      · by_cases c : j = t
        · subst c; rw [zI_sIs]
        · rw [zI_sIj c]; exact g3 j (by omega)
set_option maxRecDepth 100000 in
set_option maxHeartbeats 8000000 in
theorem s_X10_init {ψ : ZH → Prop} (S0 : ST M [10, 4, 3, 2, 1] [] (Fz0 f) h) (k : ∀ H, ST M lC eC (Fz1 f) H → ∀ h9, h9 = zcp H 1 0 23 0 7 → ψ h9) : ZcV mX10_init [.ref 10] h ψ := by
  refine wX10_init ?_
  refine ⟨11, by decide, S0.zz (by decide) (by decide), fun H1 e1 => ?_⟩
  have S1 := S0.mk (a := 11) (k := 26) (n := 6) (by decide) (by decide) (by decide) (by decide) (Fz0_0 (by decide))
  rw [← e1] at S1
  clear e1 S0
  refine ⟨(S1.kd (b := 10) (by decide) (by decide)).trans (by decide), ?_⟩
  refine ⟨20, by decide, S1.zz (by decide) (by decide), fun H2 e2 => ?_⟩
  have S2 := (S1.sR (a := 10) (k := 0) (v := 11) (by decide) (by decide)).mk (a := 20) (k := 25) (n := 8) (by decide) (by decide) (by decide) (by decide) (Fz0_0 (by decide))
  rw [← e2] at S2
  clear e2 S1
  refine ⟨(S2.kd (b := 10) (by decide) (by decide)).trans (by decide), ?_⟩
  refine ⟨21, by decide, S2.zz (by decide) (by decide), fun H3 e3 => ?_⟩
  have S3 := (S2.sR (a := 10) (k := 1) (v := 20) (by decide) (by decide)).mk (a := 21) (k := 24) (n := 24) (by decide) (by decide) (by decide) (by decide) (Fz0_0 (by decide))
  rw [← e3] at S3
  clear e3 S2
  refine ⟨(S3.kd (b := 10) (by decide) (by decide)).trans (by decide), ?_⟩
  refine ⟨22, by decide, S3.zz (by decide) (by decide), fun H4 e4 => ?_⟩
  have S4 := (S3.sR (a := 10) (k := 2) (v := 21) (by decide) (by decide)).mk (a := 22) (k := 23) (n := 10) (by decide) (by decide) (by decide) (by decide) (Fz0_0 (by decide))
  rw [← e4] at S4
  clear e4 S3
  refine ⟨(S4.kd (b := 10) (by decide) (by decide)).trans (by decide), ?_⟩
  refine ⟨(S4.kd (b := 1) (by decide) (by decide)).trans (by decide), by rw [S4.ln (b := 1) (by decide) (by decide) (by decide)]; decide, ?_⟩
  refine ⟨23, by decide, S4.zz (by decide) (by decide), fun H5 e5 => ?_⟩
  have S5 := (S4.sR (a := 10) (k := 3) (v := 22) (by decide) (by decide)).mk (a := 23) (k := 20) (n := 7) (by decide) (by decide) (by decide) (by decide) (Fz0_0 (by decide))
  rw [← e5] at S5
  clear e5 S4
  refine ⟨(S5.kd (b := 10) (by decide) (by decide)).trans (by decide), ?_⟩
  refine ⟨24, by decide, S5.zz (by decide) (by decide), fun H6 e6 => ?_⟩
  have S6 := (S5.sR (a := 10) (k := 4) (v := 23) (by decide) (by decide)).mk (a := 24) (k := 9) (n := 0) (by decide) (by decide) (by decide) (by decide) (Fz0_0 (by decide))
  rw [← e6] at S6
  clear e6 S5
  refine wX8_init ?_
  refine ⟨25, by decide, S6.zz (by decide) (by decide), fun H7 e7 => ?_⟩
  have S7 := S6.mk (a := 25) (k := 20) (n := 40) (by decide) (by decide) (by decide) (by decide) (Fz0_0 (by decide))
  rw [← e7] at S7
  clear e7 S6
  refine ⟨(S7.kd (b := 24) (by decide) (by decide)).trans (by decide), ?_⟩
  have S8 := (S7.sR (a := 24) (k := 0) (v := 25) (by decide) (by decide))
  clear S7
  generalize zsR H7 24 0 25 = G8 at S8 ⊢
  refine ⟨(S8.kd (b := 10) (by decide) (by decide)).trans (by decide), ?_⟩
  refine ⟨26, by decide, S8.zz (by decide) (by decide), fun H9 e9 => ?_⟩
  have S9 := (S8.sR (a := 10) (k := 5) (v := 24) (by decide) (by decide)).mk (a := 26) (k := 27) (n := 3) (by decide) (by decide) (by decide) (by decide) (Fz0_0 (by decide))
  rw [← e9] at S9
  clear e9 S8
  refine ⟨(S9.kd (b := 10) (by decide) (by decide)).trans (by decide), ?_⟩
  refine ⟨33, by decide, S9.zz (by decide) (by decide), fun H10 e10 => ?_⟩
  have S10 := (S9.sR (a := 10) (k := 6) (v := 26) (by decide) (by decide)).mk (a := 33) (k := 4) (n := 0) (by decide) (by decide) (by decide) (by decide) (Fz0_0 (by decide))
  rw [← e10] at S10
  clear e10 S9
  refine wX3_init ?_
  refine ⟨34, by decide, S10.zz (by decide) (by decide), fun H11 e11 => ?_⟩
  have S11 := S10.mk (a := 34) (k := 20) (n := 5) (by decide) (by decide) (by decide) (by decide) (Fz0_0 (by decide))
  rw [← e11] at S11
  clear e11 S10
  refine ⟨(S11.kd (b := 33) (by decide) (by decide)).trans (by decide), ?_⟩
  have S12 := (S11.sR (a := 33) (k := 0) (v := 34) (by decide) (by decide))
  clear S11
  generalize zsR H11 33 0 34 = G12 at S12 ⊢
  refine ⟨(S12.kd (b := 10) (by decide) (by decide)).trans (by decide), ?_⟩
  refine ⟨35, by decide, S12.zz (by decide) (by decide), fun H13 e13 => ?_⟩
  have S13 := (S12.sR (a := 10) (k := 7) (v := 33) (by decide) (by decide)).mk (a := 35) (k := 8) (n := 0) (by decide) (by decide) (by decide) (by decide) (Fz0_0 (by decide))
  rw [← e13] at S13
  clear e13 S12
  refine wX7_init ?_
  refine ⟨36, by decide, S13.zz (by decide) (by decide), fun H14 e14 => ?_⟩
  have S14 := S13.mk (a := 36) (k := 20) (n := 12) (by decide) (by decide) (by decide) (by decide) (Fz0_0 (by decide))
  rw [← e14] at S14
  clear e14 S13
  refine ⟨(S14.kd (b := 35) (by decide) (by decide)).trans (by decide), ?_⟩
  refine ⟨37, by decide, S14.zz (by decide) (by decide), fun H15 e15 => ?_⟩
  have S15 := (S14.sR (a := 35) (k := 0) (v := 36) (by decide) (by decide)).mk (a := 37) (k := 20) (n := 12) (by decide) (by decide) (by decide) (by decide) (Fz0_0 (by decide))
  rw [← e15] at S15
  clear e15 S14
  refine ⟨(S15.kd (b := 35) (by decide) (by decide)).trans (by decide), ?_⟩
  refine ⟨38, by decide, S15.zz (by decide) (by decide), fun H16 e16 => ?_⟩
  have S16 := (S15.sR (a := 35) (k := 1) (v := 37) (by decide) (by decide)).mk (a := 38) (k := 20) (n := 9) (by decide) (by decide) (by decide) (by decide) (Fz0_0 (by decide))
  rw [← e16] at S16
  clear e16 S15
  refine ⟨(S16.kd (b := 35) (by decide) (by decide)).trans (by decide), ?_⟩
  refine ⟨39, by decide, S16.zz (by decide) (by decide), fun H17 e17 => ?_⟩
  have S17 := (S16.sR (a := 35) (k := 3) (v := 38) (by decide) (by decide)).mk (a := 39) (k := 20) (n := 9) (by decide) (by decide) (by decide) (by decide) (Fz0_0 (by decide))
  rw [← e17] at S17
  clear e17 S16
  refine ⟨(S17.kd (b := 35) (by decide) (by decide)).trans (by decide), ?_⟩
  refine ⟨40, by decide, S17.zz (by decide) (by decide), fun H18 e18 => ?_⟩
  have S18 := (S17.sR (a := 35) (k := 5) (v := 39) (by decide) (by decide)).mk (a := 40) (k := 3) (n := 0) (by decide) (by decide) (by decide) (by decide) (Fz0_0 (by decide))
  rw [← e18] at S18
  clear e18 S17
  refine wX2_init ?_
  refine ⟨41, 50, by decide, S18.zz (by decide) (by decide), by decide, fun j hj => S18.zr (g := 50) (n := 9) (by decide) (by decide) hj, by decide, fun H19 e19 => ?_⟩
  have S19 := S18.mM (a := 41) (ko := 29) (n := 9) (g := 50) (ki := 22) (m := 21) (by decide) (by decide) (by decide) (by decide) (Fz0_0 (by decide)) (fun b h1 h2 j => Fz0_0 (by omega) j)
  rw [← e19] at S19
  clear e19 S18
  refine ⟨(S19.kd (b := 40) (by decide) (by decide)).trans (by decide), ?_⟩
  refine ⟨42, by decide, S19.zz (by decide) (by decide), fun H20 e20 => ?_⟩
  have S20 := (S19.sR (a := 40) (k := 0) (v := 41) (by decide) (by decide)).mk (a := 42) (k := 22) (n := 10) (by decide) (by decide) (by decide) (by decide) (Fz0_0 (by decide))
  rw [← e20] at S20
  clear e20 S19
  refine ⟨(S20.kd (b := 40) (by decide) (by decide)).trans (by decide), ?_⟩
  refine ⟨43, by decide, S20.zz (by decide) (by decide), fun H21 e21 => ?_⟩
  have S21 := (S20.sR (a := 40) (k := 1) (v := 42) (by decide) (by decide)).mk (a := 43) (k := 22) (n := 22) (by decide) (by decide) (by decide) (by decide) (Fz0_0 (by decide))
  rw [← e21] at S21
  clear e21 S20
  refine ⟨(S21.kd (b := 40) (by decide) (by decide)).trans (by decide), ?_⟩
  refine ⟨44, by decide, S21.zz (by decide) (by decide), fun H22 e22 => ?_⟩
  have S22 := (S21.sR (a := 40) (k := 2) (v := 43) (by decide) (by decide)).mk (a := 44) (k := 22) (n := 22) (by decide) (by decide) (by decide) (by decide) (Fz0_0 (by decide))
  rw [← e22] at S22
  clear e22 S21
  refine ⟨(S22.kd (b := 40) (by decide) (by decide)).trans (by decide), ?_⟩
  refine ⟨45, by decide, S22.zz (by decide) (by decide), fun H23 e23 => ?_⟩
  have S23 := (S22.sR (a := 40) (k := 3) (v := 44) (by decide) (by decide)).mk (a := 45) (k := 20) (n := 22) (by decide) (by decide) (by decide) (by decide) (Fz0_0 (by decide))
  rw [← e23] at S23
  clear e23 S22
  refine ⟨(S23.kd (b := 40) (by decide) (by decide)).trans (by decide), ?_⟩
  refine ⟨46, by decide, S23.zz (by decide) (by decide), fun H24 e24 => ?_⟩
  have S24 := (S23.sR (a := 40) (k := 4) (v := 45) (by decide) (by decide)).mk (a := 46) (k := 20) (n := 22) (by decide) (by decide) (by decide) (by decide) (Fz0_0 (by decide))
  rw [← e24] at S24
  clear e24 S23
  refine ⟨(S24.kd (b := 40) (by decide) (by decide)).trans (by decide), ?_⟩
  refine ⟨47, by decide, S24.zz (by decide) (by decide), fun H25 e25 => ?_⟩
  have S25 := (S24.sR (a := 40) (k := 5) (v := 46) (by decide) (by decide)).mk (a := 47) (k := 21) (n := 22) (by decide) (by decide) (by decide) (by decide) (Fz0_0 (by decide))
  rw [← e25] at S25
  clear e25 S24
  refine ⟨(S25.kd (b := 40) (by decide) (by decide)).trans (by decide), ?_⟩
  have S26 := (S25.sR (a := 40) (k := 6) (v := 47) (by decide) (by decide))
  clear S25
  generalize zsR H25 40 6 47 = G26 at S26 ⊢
  refine ⟨(S26.kd (b := 35) (by decide) (by decide)).trans (by decide), ?_⟩
  have S27 := (S26.sR (a := 35) (k := 6) (v := 40) (by decide) (by decide))
  clear S26
  generalize zsR G26 35 6 40 = G27 at S27 ⊢
  refine ⟨(S27.kd (b := 10) (by decide) (by decide)).trans (by decide), ?_⟩
  refine ⟨60, by decide, S27.zz (by decide) (by decide), fun H28 e28 => ?_⟩
  have S28 := (S27.sR (a := 10) (k := 8) (v := 35) (by decide) (by decide)).mk (a := 60) (k := 10) (n := 0) (by decide) (by decide) (by decide) (by decide) (Fz0_0 (by decide))
  rw [← e28] at S28
  clear e28 S27
  refine wX9_init ?_
  refine ⟨61, by decide, S28.zz (by decide) (by decide), fun H29 e29 => ?_⟩
  have S29 := S28.mk (a := 61) (k := 20) (n := 8) (by decide) (by decide) (by decide) (by decide) (Fz0_0 (by decide))
  rw [← e29] at S29
  clear e29 S28
  refine ⟨(S29.kd (b := 60) (by decide) (by decide)).trans (by decide), ?_⟩
  refine ⟨62, by decide, S29.zz (by decide) (by decide), fun H30 e30 => ?_⟩
  have S30 := (S29.sR (a := 60) (k := 0) (v := 61) (by decide) (by decide)).mk (a := 62) (k := 20) (n := 8) (by decide) (by decide) (by decide) (by decide) (Fz0_0 (by decide))
  rw [← e30] at S30
  clear e30 S29
  refine ⟨(S30.kd (b := 60) (by decide) (by decide)).trans (by decide), ?_⟩
  refine ⟨63, by decide, S30.zz (by decide) (by decide), fun H31 e31 => ?_⟩
  have S31 := (S30.sR (a := 60) (k := 1) (v := 62) (by decide) (by decide)).mk (a := 63) (k := 20) (n := 8) (by decide) (by decide) (by decide) (by decide) (Fz0_0 (by decide))
  rw [← e31] at S31
  clear e31 S30
  refine ⟨(S31.kd (b := 60) (by decide) (by decide)).trans (by decide), ?_⟩
  refine ⟨64, by decide, S31.zz (by decide) (by decide), fun H32 e32 => ?_⟩
  have S32 := (S31.sR (a := 60) (k := 2) (v := 63) (by decide) (by decide)).mk (a := 64) (k := 21) (n := 8) (by decide) (by decide) (by decide) (by decide) (Fz0_0 (by decide))
  rw [← e32] at S32
  clear e32 S31
  refine ⟨(S32.kd (b := 60) (by decide) (by decide)).trans (by decide), ?_⟩
  refine ⟨65, by decide, S32.zz (by decide) (by decide), fun H33 e33 => ?_⟩
  have S33 := (S32.sR (a := 60) (k := 3) (v := 64) (by decide) (by decide)).mk (a := 65) (k := 20) (n := 8) (by decide) (by decide) (by decide) (by decide) (Fz0_0 (by decide))
  rw [← e33] at S33
  clear e33 S32
  refine ⟨(S33.kd (b := 60) (by decide) (by decide)).trans (by decide), ?_⟩
  refine ⟨66, by decide, S33.zz (by decide) (by decide), fun H34 e34 => ?_⟩
  have S34 := (S33.sR (a := 60) (k := 4) (v := 65) (by decide) (by decide)).mk (a := 66) (k := 20) (n := 12) (by decide) (by decide) (by decide) (by decide) (Fz0_0 (by decide))
  rw [← e34] at S34
  clear e34 S33
  refine ⟨(S34.kd (b := 60) (by decide) (by decide)).trans (by decide), ?_⟩
  refine ⟨67, by decide, S34.zz (by decide) (by decide), fun H35 e35 => ?_⟩
  have S35 := (S34.sR (a := 60) (k := 6) (v := 66) (by decide) (by decide)).mk (a := 67) (k := 20) (n := 12) (by decide) (by decide) (by decide) (by decide) (Fz0_0 (by decide))
  rw [← e35] at S35
  clear e35 S34
  refine ⟨(S35.kd (b := 60) (by decide) (by decide)).trans (by decide), ?_⟩
  refine ⟨68, by decide, S35.zz (by decide) (by decide), fun H36 e36 => ?_⟩
  have S36 := (S35.sR (a := 60) (k := 7) (v := 67) (by decide) (by decide)).mk (a := 68) (k := 20) (n := 12) (by decide) (by decide) (by decide) (by decide) (Fz0_0 (by decide))
  rw [← e36] at S36
  clear e36 S35
  refine ⟨(S36.kd (b := 60) (by decide) (by decide)).trans (by decide), ?_⟩
  have S37 := (S36.sR (a := 60) (k := 8) (v := 68) (by decide) (by decide))
  clear S36
  generalize zsR H36 60 8 68 = G37 at S37 ⊢
  refine ⟨(S37.kd (b := 10) (by decide) (by decide)).trans (by decide), ?_⟩
  refine ⟨70, by decide, S37.zz (by decide) (by decide), fun H38 e38 => ?_⟩
  have S38 := (S37.sR (a := 10) (k := 9) (v := 60) (by decide) (by decide)).mk (a := 70) (k := 10) (n := 0) (by decide) (by decide) (by decide) (by decide) (Fz0_0 (by decide))
  rw [← e38] at S38
  clear e38 S37
  refine wX9_init ?_
  refine ⟨71, by decide, S38.zz (by decide) (by decide), fun H39 e39 => ?_⟩
  have S39 := S38.mk (a := 71) (k := 20) (n := 8) (by decide) (by decide) (by decide) (by decide) (Fz0_0 (by decide))
  rw [← e39] at S39
  clear e39 S38
  refine ⟨(S39.kd (b := 70) (by decide) (by decide)).trans (by decide), ?_⟩
  refine ⟨72, by decide, S39.zz (by decide) (by decide), fun H40 e40 => ?_⟩
  have S40 := (S39.sR (a := 70) (k := 0) (v := 71) (by decide) (by decide)).mk (a := 72) (k := 20) (n := 8) (by decide) (by decide) (by decide) (by decide) (Fz0_0 (by decide))
  rw [← e40] at S40
  clear e40 S39
  refine ⟨(S40.kd (b := 70) (by decide) (by decide)).trans (by decide), ?_⟩
  refine ⟨73, by decide, S40.zz (by decide) (by decide), fun H41 e41 => ?_⟩
  have S41 := (S40.sR (a := 70) (k := 1) (v := 72) (by decide) (by decide)).mk (a := 73) (k := 20) (n := 8) (by decide) (by decide) (by decide) (by decide) (Fz0_0 (by decide))
  rw [← e41] at S41
  clear e41 S40
  refine ⟨(S41.kd (b := 70) (by decide) (by decide)).trans (by decide), ?_⟩
  refine ⟨74, by decide, S41.zz (by decide) (by decide), fun H42 e42 => ?_⟩
  have S42 := (S41.sR (a := 70) (k := 2) (v := 73) (by decide) (by decide)).mk (a := 74) (k := 21) (n := 8) (by decide) (by decide) (by decide) (by decide) (Fz0_0 (by decide))
  rw [← e42] at S42
  clear e42 S41
  refine ⟨(S42.kd (b := 70) (by decide) (by decide)).trans (by decide), ?_⟩
  refine ⟨75, by decide, S42.zz (by decide) (by decide), fun H43 e43 => ?_⟩
  have S43 := (S42.sR (a := 70) (k := 3) (v := 74) (by decide) (by decide)).mk (a := 75) (k := 20) (n := 8) (by decide) (by decide) (by decide) (by decide) (Fz0_0 (by decide))
  rw [← e43] at S43
  clear e43 S42
  refine ⟨(S43.kd (b := 70) (by decide) (by decide)).trans (by decide), ?_⟩
  refine ⟨76, by decide, S43.zz (by decide) (by decide), fun H44 e44 => ?_⟩
  have S44 := (S43.sR (a := 70) (k := 4) (v := 75) (by decide) (by decide)).mk (a := 76) (k := 20) (n := 12) (by decide) (by decide) (by decide) (by decide) (Fz0_0 (by decide))
  rw [← e44] at S44
  clear e44 S43
  refine ⟨(S44.kd (b := 70) (by decide) (by decide)).trans (by decide), ?_⟩
  refine ⟨77, by decide, S44.zz (by decide) (by decide), fun H45 e45 => ?_⟩
  have S45 := (S44.sR (a := 70) (k := 6) (v := 76) (by decide) (by decide)).mk (a := 77) (k := 20) (n := 12) (by decide) (by decide) (by decide) (by decide) (Fz0_0 (by decide))
  rw [← e45] at S45
  clear e45 S44
  refine ⟨(S45.kd (b := 70) (by decide) (by decide)).trans (by decide), ?_⟩
  refine ⟨78, by decide, S45.zz (by decide) (by decide), fun H46 e46 => ?_⟩
  have S46 := (S45.sR (a := 70) (k := 7) (v := 77) (by decide) (by decide)).mk (a := 78) (k := 20) (n := 12) (by decide) (by decide) (by decide) (by decide) (Fz0_0 (by decide))
  rw [← e46] at S46
  clear e46 S45
  refine ⟨(S46.kd (b := 70) (by decide) (by decide)).trans (by decide), ?_⟩
  have S47 := (S46.sR (a := 70) (k := 8) (v := 78) (by decide) (by decide))
  clear S46
  generalize zsR H46 70 8 78 = G47 at S47 ⊢
  refine ⟨(S47.kd (b := 10) (by decide) (by decide)).trans (by decide), ?_⟩
  refine ⟨80, by decide, S47.zz (by decide) (by decide), fun H48 e48 => ?_⟩
  have S48 := (S47.sR (a := 10) (k := 10) (v := 70) (by decide) (by decide)).mk (a := 80) (k := 7) (n := 0) (by decide) (by decide) (by decide) (by decide) (Fz0_0 (by decide))
  rw [← e48] at S48
  clear e48 S47
  refine wX6_init ?_
  refine ⟨81, 90, by decide, S48.zz (by decide) (by decide), by decide, fun j hj => S48.zr (g := 90) (n := 3) (by decide) (by decide) hj, by decide, fun H49 e49 => ?_⟩
  have S49 := S48.mM (a := 81) (ko := 28) (n := 3) (g := 90) (ki := 20) (m := 5) (by decide) (by decide) (by decide) (by decide) (Fz0_0 (by decide)) (fun b h1 h2 j => Fz0_0 (by omega) j)
  rw [← e49] at S49
  clear e49 S48
  refine ⟨(S49.kd (b := 80) (by decide) (by decide)).trans (by decide), ?_⟩
  refine ⟨82, by decide, S49.zz (by decide) (by decide), fun H50 e50 => ?_⟩
  have S50 := (S49.sR (a := 80) (k := 0) (v := 81) (by decide) (by decide)).mk (a := 82) (k := 20) (n := 8) (by decide) (by decide) (by decide) (by decide) (Fz0_0 (by decide))
  rw [← e50] at S50
  clear e50 S49
  refine ⟨(S50.kd (b := 80) (by decide) (by decide)).trans (by decide), ?_⟩
  refine ⟨83, by decide, S50.zz (by decide) (by decide), fun H51 e51 => ?_⟩
  have S51 := (S50.sR (a := 80) (k := 1) (v := 82) (by decide) (by decide)).mk (a := 83) (k := 21) (n := 8) (by decide) (by decide) (by decide) (by decide) (Fz0_0 (by decide))
  rw [← e51] at S51
  clear e51 S50
  refine ⟨(S51.kd (b := 80) (by decide) (by decide)).trans (by decide), ?_⟩
  refine ⟨84, 100, by decide, S51.zz (by decide) (by decide), by decide, fun j hj => S51.zr (g := 100) (n := 48) (by decide) (by decide) hj, by decide, fun H52 e52 => ?_⟩
  have S52 := (S51.sR (a := 80) (k := 2) (v := 83) (by decide) (by decide)).mM (a := 84) (ko := 28) (n := 48) (g := 100) (ki := 20) (m := 3) (by decide) (by decide) (by decide) (by decide) (Fz0_0 (by decide)) (fun b h1 h2 j => Fz0_0 (by omega) j)
  rw [← e52] at S52
  clear e52 S51
  refine ⟨(S52.kd (b := 80) (by decide) (by decide)).trans (by decide), ?_⟩
  refine ⟨85, 150, by decide, S52.zz (by decide) (by decide), by decide, fun j hj => S52.zr (g := 150) (n := 9) (by decide) (by decide) hj, by decide, fun H53 e53 => ?_⟩
  have S53 := (S52.sR (a := 80) (k := 3) (v := 84) (by decide) (by decide)).mM (a := 85) (ko := 28) (n := 9) (g := 150) (ki := 20) (m := 3) (by decide) (by decide) (by decide) (by decide) (Fz0_0 (by decide)) (fun b h1 h2 j => Fz0_0 (by omega) j)
  rw [← e53] at S53
  clear e53 S52
  refine ⟨(S53.kd (b := 80) (by decide) (by decide)).trans (by decide), ?_⟩
  refine ⟨86, 160, by decide, S53.zz (by decide) (by decide), by decide, fun j hj => S53.zr (g := 160) (n := 9) (by decide) (by decide) hj, by decide, fun H54 e54 => ?_⟩
  have S54 := (S53.sR (a := 80) (k := 4) (v := 85) (by decide) (by decide)).mM (a := 86) (ko := 28) (n := 9) (g := 160) (ki := 20) (m := 3) (by decide) (by decide) (by decide) (by decide) (Fz0_0 (by decide)) (fun b h1 h2 j => Fz0_0 (by omega) j)
  rw [← e54] at S54
  clear e54 S53
  refine ⟨(S54.kd (b := 80) (by decide) (by decide)).trans (by decide), ?_⟩
  refine ⟨87, by decide, S54.zz (by decide) (by decide), fun H55 e55 => ?_⟩
  have S55 := (S54.sR (a := 80) (k := 5) (v := 86) (by decide) (by decide)).mk (a := 87) (k := 20) (n := 8) (by decide) (by decide) (by decide) (by decide) (Fz0_0 (by decide))
  rw [← e55] at S55
  clear e55 S54
  refine ⟨(S55.kd (b := 80) (by decide) (by decide)).trans (by decide), ?_⟩
  refine ⟨88, by decide, S55.zz (by decide) (by decide), fun H56 e56 => ?_⟩
  have S56 := (S55.sR (a := 80) (k := 6) (v := 87) (by decide) (by decide)).mk (a := 88) (k := 20) (n := 6) (by decide) (by decide) (by decide) (by decide) (Fz0_0 (by decide))
  rw [← e56] at S56
  clear e56 S55
  refine ⟨(S56.kd (b := 80) (by decide) (by decide)).trans (by decide), ?_⟩
  have S57 := (S56.sR (a := 80) (k := 7) (v := 88) (by decide) (by decide))
  clear S56
  generalize zsR H56 80 7 88 = G57 at S57 ⊢
  refine s_prices S57 (by decide) (by decide) (by decide) (by decide) (fun HP SP => ?_)
  clear S57
  refine ⟨(SP.kd (b := 10) (by decide) (by decide)).trans (by decide), ?_⟩
  have S58 := (SP.sR (a := 10) (k := 11) (v := 80) (by decide) (by decide))
  clear SP
  generalize zsR HP 10 11 80 = G58 at S58 ⊢
  refine wX10_init_126 ⟨fun z => absurd z (by decide), fun _ => ⟨(S58.kd (b := 10) (by decide) (by decide)).trans (by decide), by rw [S58.rf (a := 10) (k := 0) (by decide)]; decide, 11, 136, by decide, by decide, ?_⟩⟩
  rw [S58.rf (a := 10) (k := 0) (by decide), show cR 10 0 = 11 by decide]
  refine ⟨12, by decide, S58.zz (by decide) (by decide), fun H59 e59 => ?_⟩
  have S59 := S58.mk (a := 12) (k := 6) (n := 0) (by decide) (by decide) (by decide) (by decide) (Fz1_0 (by decide) (by decide))
  rw [← e59] at S59
  clear e59 S58
  refine wX5_init ⟨(S59.kd (b := 12) (by decide) (by decide)).trans (by decide), ?_⟩
  have S60 := S59.zero2 (a := 12) (by decide) (Fz1_0 (by decide) (by decide))
  clear S59
  generalize zsI (zsI H59 12 0 0) 12 1 0 = G60 at S60 ⊢
  refine ⟨(S60.kd (b := 11) (by decide) (by decide)).trans (by decide), by rw [S60.ln (b := 11) (by decide) (by decide) (by decide), show cN 11 = 6 by decide, show (0 : Int32) = nI 0 by decide]; exact vp_in_nI (by decide) (by decide), (S60.kd (b := 12) (by decide) (by decide)).trans (by decide), ?_⟩
  have S61 := S60.sR (a := 11) (k := 0) (v := 12) (by decide) (by decide)
  clear S60
  rw [show Int32.toNatClampNeg 0 = 0 by decide]
  generalize zsR G60 11 0 12 = G61 at S61 ⊢
  refine wX10_init_126 ⟨fun z => absurd z (by decide), fun _ => ⟨(S61.kd (b := 10) (by decide) (by decide)).trans (by decide), by rw [S61.rf (a := 10) (k := 0) (by decide)]; decide, 10, 134, by decide, by decide, ?_⟩⟩
  rw [S61.rf (a := 10) (k := 0) (by decide), show cR 10 0 = 11 by decide]
  refine ⟨13, by decide, S61.zz (by decide) (by decide), fun H62 e62 => ?_⟩
  have S62 := S61.mk (a := 13) (k := 6) (n := 0) (by decide) (by decide) (by decide) (by decide) (Fz1_0 (by decide) (by decide))
  rw [← e62] at S62
  clear e62 S61
  refine wX5_init ⟨(S62.kd (b := 13) (by decide) (by decide)).trans (by decide), ?_⟩
  have S63 := S62.zero2 (a := 13) (by decide) (Fz1_0 (by decide) (by decide))
  clear S62
  generalize zsI (zsI H62 13 0 0) 13 1 0 = G63 at S63 ⊢
  refine ⟨(S63.kd (b := 11) (by decide) (by decide)).trans (by decide), by rw [S63.ln (b := 11) (by decide) (by decide) (by decide), show cN 11 = 6 by decide, show (0 + 1 : Int32) = nI 1 by decide]; exact vp_in_nI (by decide) (by decide), (S63.kd (b := 13) (by decide) (by decide)).trans (by decide), ?_⟩
  have S64 := S63.sR (a := 11) (k := 1) (v := 13) (by decide) (by decide)
  clear S63
  rw [show Int32.toNatClampNeg (0 + 1) = 1 by decide]
  generalize zsR G63 11 1 13 = G64 at S64 ⊢
  refine wX10_init_126 ⟨fun z => absurd z (by decide), fun _ => ⟨(S64.kd (b := 10) (by decide) (by decide)).trans (by decide), by rw [S64.rf (a := 10) (k := 0) (by decide)]; decide, 9, 132, by decide, by decide, ?_⟩⟩
  rw [S64.rf (a := 10) (k := 0) (by decide), show cR 10 0 = 11 by decide]
  refine ⟨14, by decide, S64.zz (by decide) (by decide), fun H65 e65 => ?_⟩
  have S65 := S64.mk (a := 14) (k := 6) (n := 0) (by decide) (by decide) (by decide) (by decide) (Fz1_0 (by decide) (by decide))
  rw [← e65] at S65
  clear e65 S64
  refine wX5_init ⟨(S65.kd (b := 14) (by decide) (by decide)).trans (by decide), ?_⟩
  have S66 := S65.zero2 (a := 14) (by decide) (Fz1_0 (by decide) (by decide))
  clear S65
  generalize zsI (zsI H65 14 0 0) 14 1 0 = G66 at S66 ⊢
  refine ⟨(S66.kd (b := 11) (by decide) (by decide)).trans (by decide), by rw [S66.ln (b := 11) (by decide) (by decide) (by decide), show cN 11 = 6 by decide, show (0 + 1 + 1 : Int32) = nI 2 by decide]; exact vp_in_nI (by decide) (by decide), (S66.kd (b := 14) (by decide) (by decide)).trans (by decide), ?_⟩
  have S67 := S66.sR (a := 11) (k := 2) (v := 14) (by decide) (by decide)
  clear S66
  rw [show Int32.toNatClampNeg (0 + 1 + 1) = 2 by decide]
  generalize zsR G66 11 2 14 = G67 at S67 ⊢
  refine wX10_init_126 ⟨fun z => absurd z (by decide), fun _ => ⟨(S67.kd (b := 10) (by decide) (by decide)).trans (by decide), by rw [S67.rf (a := 10) (k := 0) (by decide)]; decide, 8, 130, by decide, by decide, ?_⟩⟩
  rw [S67.rf (a := 10) (k := 0) (by decide), show cR 10 0 = 11 by decide]
  refine ⟨15, by decide, S67.zz (by decide) (by decide), fun H68 e68 => ?_⟩
  have S68 := S67.mk (a := 15) (k := 6) (n := 0) (by decide) (by decide) (by decide) (by decide) (Fz1_0 (by decide) (by decide))
  rw [← e68] at S68
  clear e68 S67
  refine wX5_init ⟨(S68.kd (b := 15) (by decide) (by decide)).trans (by decide), ?_⟩
  have S69 := S68.zero2 (a := 15) (by decide) (Fz1_0 (by decide) (by decide))
  clear S68
  generalize zsI (zsI H68 15 0 0) 15 1 0 = G69 at S69 ⊢
  refine ⟨(S69.kd (b := 11) (by decide) (by decide)).trans (by decide), by rw [S69.ln (b := 11) (by decide) (by decide) (by decide), show cN 11 = 6 by decide, show (0 + 1 + 1 + 1 : Int32) = nI 3 by decide]; exact vp_in_nI (by decide) (by decide), (S69.kd (b := 15) (by decide) (by decide)).trans (by decide), ?_⟩
  have S70 := S69.sR (a := 11) (k := 3) (v := 15) (by decide) (by decide)
  clear S69
  rw [show Int32.toNatClampNeg (0 + 1 + 1 + 1) = 3 by decide]
  generalize zsR G69 11 3 15 = G70 at S70 ⊢
  refine wX10_init_126 ⟨fun z => absurd z (by decide), fun _ => ⟨(S70.kd (b := 10) (by decide) (by decide)).trans (by decide), by rw [S70.rf (a := 10) (k := 0) (by decide)]; decide, 7, 128, by decide, by decide, ?_⟩⟩
  rw [S70.rf (a := 10) (k := 0) (by decide), show cR 10 0 = 11 by decide]
  refine ⟨16, by decide, S70.zz (by decide) (by decide), fun H71 e71 => ?_⟩
  have S71 := S70.mk (a := 16) (k := 6) (n := 0) (by decide) (by decide) (by decide) (by decide) (Fz1_0 (by decide) (by decide))
  rw [← e71] at S71
  clear e71 S70
  refine wX5_init ⟨(S71.kd (b := 16) (by decide) (by decide)).trans (by decide), ?_⟩
  have S72 := S71.zero2 (a := 16) (by decide) (Fz1_0 (by decide) (by decide))
  clear S71
  generalize zsI (zsI H71 16 0 0) 16 1 0 = G72 at S72 ⊢
  refine ⟨(S72.kd (b := 11) (by decide) (by decide)).trans (by decide), by rw [S72.ln (b := 11) (by decide) (by decide) (by decide), show cN 11 = 6 by decide, show (0 + 1 + 1 + 1 + 1 : Int32) = nI 4 by decide]; exact vp_in_nI (by decide) (by decide), (S72.kd (b := 16) (by decide) (by decide)).trans (by decide), ?_⟩
  have S73 := S72.sR (a := 11) (k := 4) (v := 16) (by decide) (by decide)
  clear S72
  rw [show Int32.toNatClampNeg (0 + 1 + 1 + 1 + 1) = 4 by decide]
  generalize zsR G72 11 4 16 = G73 at S73 ⊢
  refine wX10_init_126 ⟨fun z => absurd z (by decide), fun _ => ⟨(S73.kd (b := 10) (by decide) (by decide)).trans (by decide), by rw [S73.rf (a := 10) (k := 0) (by decide)]; decide, 6, 126, by decide, by decide, ?_⟩⟩
  rw [S73.rf (a := 10) (k := 0) (by decide), show cR 10 0 = 11 by decide]
  refine ⟨17, by decide, S73.zz (by decide) (by decide), fun H74 e74 => ?_⟩
  have S74 := S73.mk (a := 17) (k := 6) (n := 0) (by decide) (by decide) (by decide) (by decide) (Fz1_0 (by decide) (by decide))
  rw [← e74] at S74
  clear e74 S73
  refine wX5_init ⟨(S74.kd (b := 17) (by decide) (by decide)).trans (by decide), ?_⟩
  have S75 := S74.zero2 (a := 17) (by decide) (Fz1_0 (by decide) (by decide))
  clear S74
  generalize zsI (zsI H74 17 0 0) 17 1 0 = G75 at S75 ⊢
  refine ⟨(S75.kd (b := 11) (by decide) (by decide)).trans (by decide), by rw [S75.ln (b := 11) (by decide) (by decide) (by decide), show cN 11 = 6 by decide, show (0 + 1 + 1 + 1 + 1 + 1 : Int32) = nI 5 by decide]; exact vp_in_nI (by decide) (by decide), (S75.kd (b := 17) (by decide) (by decide)).trans (by decide), ?_⟩
  have S76 := S75.sR (a := 11) (k := 5) (v := 17) (by decide) (by decide)
  clear S75
  rw [show Int32.toNatClampNeg (0 + 1 + 1 + 1 + 1 + 1) = 5 by decide]
  generalize zsR G75 11 5 17 = G76 at S76 ⊢
  refine wX10_init_126 ⟨fun _ => ?_, fun z => absurd (by decide) z⟩
  refine wX10_init_155 ⟨fun z => absurd z (by decide), fun _ => ⟨(S76.kd (b := 10) (by decide) (by decide)).trans (by decide), by rw [S76.rf (a := 10) (k := 6) (by decide)]; decide, 5, 124, by decide, by decide, ?_⟩⟩
  rw [S76.rf (a := 10) (k := 6) (by decide), show cR 10 6 = 26 by decide]
  refine ⟨27, by decide, S76.zz (by decide) (by decide), fun H77 e77 => ⟨4, 84, by decide, by decide, ?_⟩⟩
  have S77 := S76.mk (a := 27) (k := 9) (n := 0) (by decide) (by decide) (by decide) (by decide) (Fz1_0 (by decide) (by decide))
  rw [← e77] at S77
  clear e77 S76
  refine wX8_init ?_
  refine ⟨28, by decide, S77.zz (by decide) (by decide), fun H78 e78 => ?_⟩
  have S78 := S77.mk (a := 28) (k := 20) (n := 40) (by decide) (by decide) (by decide) (by decide) (Fz1_0 (by decide) (by decide))
  rw [← e78] at S78
  clear e78 S77
  refine ⟨(S78.kd (b := 27) (by decide) (by decide)).trans (by decide), ?_⟩
  have S79 := (S78.sR (a := 27) (k := 0) (v := 28) (by decide) (by decide))
  clear S78
  generalize zsR H78 27 0 28 = G79 at S79 ⊢
  refine ⟨(S79.kd (b := 26) (by decide) (by decide)).trans (by decide), by rw [S79.ln (b := 26) (by decide) (by decide) (by decide), show cN 26 = 3 by decide, show (0 : Int32) = nI 0 by decide]; exact vp_in_nI (by decide) (by decide), (S79.kd (b := 27) (by decide) (by decide)).trans (by decide), ?_⟩
  have S80 := S79.sR (a := 26) (k := 0) (v := 27) (by decide) (by decide)
  clear S79
  rw [show Int32.toNatClampNeg 0 = 0 by decide]
  generalize zsR G79 26 0 27 = G80 at S80 ⊢
  refine wX10_init_155 ⟨fun z => absurd z (by decide), fun _ => ⟨(S80.kd (b := 10) (by decide) (by decide)).trans (by decide), by rw [S80.rf (a := 10) (k := 6) (by decide)]; decide, 3, 82, by decide, by decide, ?_⟩⟩
  rw [S80.rf (a := 10) (k := 6) (by decide), show cR 10 6 = 26 by decide]
  refine ⟨29, by decide, S80.zz (by decide) (by decide), fun H81 e81 => ⟨2, 42, by decide, by decide, ?_⟩⟩
  have S81 := S80.mk (a := 29) (k := 9) (n := 0) (by decide) (by decide) (by decide) (by decide) (Fz1_0 (by decide) (by decide))
  rw [← e81] at S81
  clear e81 S80
  refine wX8_init ?_
  refine ⟨30, by decide, S81.zz (by decide) (by decide), fun H82 e82 => ?_⟩
  have S82 := S81.mk (a := 30) (k := 20) (n := 40) (by decide) (by decide) (by decide) (by decide) (Fz1_0 (by decide) (by decide))
  rw [← e82] at S82
  clear e82 S81
  refine ⟨(S82.kd (b := 29) (by decide) (by decide)).trans (by decide), ?_⟩
  have S83 := (S82.sR (a := 29) (k := 0) (v := 30) (by decide) (by decide))
  clear S82
  generalize zsR H82 29 0 30 = G83 at S83 ⊢
  refine ⟨(S83.kd (b := 26) (by decide) (by decide)).trans (by decide), by rw [S83.ln (b := 26) (by decide) (by decide) (by decide), show cN 26 = 3 by decide, show (0 + 1 : Int32) = nI 1 by decide]; exact vp_in_nI (by decide) (by decide), (S83.kd (b := 29) (by decide) (by decide)).trans (by decide), ?_⟩
  have S84 := S83.sR (a := 26) (k := 1) (v := 29) (by decide) (by decide)
  clear S83
  rw [show Int32.toNatClampNeg (0 + 1) = 1 by decide]
  generalize zsR G83 26 1 29 = G84 at S84 ⊢
  refine wX10_init_155 ⟨fun z => absurd z (by decide), fun _ => ⟨(S84.kd (b := 10) (by decide) (by decide)).trans (by decide), by rw [S84.rf (a := 10) (k := 6) (by decide)]; decide, 1, 40, by decide, by decide, ?_⟩⟩
  rw [S84.rf (a := 10) (k := 6) (by decide), show cR 10 6 = 26 by decide]
  refine ⟨31, by decide, S84.zz (by decide) (by decide), fun H85 e85 => ⟨0, 0, by decide, by decide, ?_⟩⟩
  have S85 := S84.mk (a := 31) (k := 9) (n := 0) (by decide) (by decide) (by decide) (by decide) (Fz1_0 (by decide) (by decide))
  rw [← e85] at S85
  clear e85 S84
  refine wX8_init ?_
  refine ⟨32, by decide, S85.zz (by decide) (by decide), fun H86 e86 => ?_⟩
  have S86 := S85.mk (a := 32) (k := 20) (n := 40) (by decide) (by decide) (by decide) (by decide) (Fz1_0 (by decide) (by decide))
  rw [← e86] at S86
  clear e86 S85
  refine ⟨(S86.kd (b := 31) (by decide) (by decide)).trans (by decide), ?_⟩
  have S87 := (S86.sR (a := 31) (k := 0) (v := 32) (by decide) (by decide))
  clear S86
  generalize zsR H86 31 0 32 = G87 at S87 ⊢
  refine ⟨(S87.kd (b := 26) (by decide) (by decide)).trans (by decide), by rw [S87.ln (b := 26) (by decide) (by decide) (by decide), show cN 26 = 3 by decide, show (0 + 1 + 1 : Int32) = nI 2 by decide]; exact vp_in_nI (by decide) (by decide), (S87.kd (b := 31) (by decide) (by decide)).trans (by decide), ?_⟩
  have S88 := S87.sR (a := 26) (k := 2) (v := 31) (by decide) (by decide)
  clear S87
  rw [show Int32.toNatClampNeg (0 + 1 + 1) = 2 by decide]
  generalize zsR G87 26 2 31 = G88 at S88 ⊢
  refine wX10_init_155 ⟨fun _ => ?_, fun z => absurd (by decide) z⟩
  rw [S88.rf (a := 10) (k := 4) (by decide), show cR 10 4 = 23 by decide]
  exact ⟨(S88.kd (b := 10) (by decide) (by decide)).trans (by decide), by decide, (S88.kd (b := 1) (by decide) (by decide)).trans (by decide), (S88.kd (b := 23) (by decide) (by decide)).trans (by decide), by decide, by rw [S88.ln (b := 1) (by decide) (by decide) (by decide)]; decide, by rw [S88.ln (b := 1) (by decide) (by decide) (by decide)]; decide, by rw [S88.ln (b := 23) (by decide) (by decide) (by decide)]; decide, fun h9 e9 => k _ S88 h9 e9⟩
end CTOR10
