set_option maxRecDepth 100000 in
set_option maxHeartbeats 4000000 in
theorem wX2_init {ψ : ZH → Prop} {l0 : Nat} {h : ZH} (hF : ∃ a1 b2 : Nat, a1 ≠ 0 ∧ zK h a1 = 0 ∧ b2 ≠ 0 ∧ (∀ j, j < 9 → zK h (b2 + j) = 0) ∧ (a1 < b2 ∨ b2 + 9 ≤ a1) ∧ ∀ h8 : ZH, h8 = (zmM h a1 29 9 b2 22 21) → (zK h8 l0 = 3) ∧ ∃ a11 : Nat, a11 ≠ 0 ∧ zK h8 a11 = 0 ∧ ∀ h14 : ZH, h14 = (zmk (zsR h8 l0 0 a1) a11 22 10) → (zK h14 l0 = 3) ∧ ∃ a17 : Nat, a17 ≠ 0 ∧ zK h14 a17 = 0 ∧ ∀ h20 : ZH, h20 = (zmk (zsR h14 l0 1 a11) a17 22 22) → (zK h20 l0 = 3) ∧ ∃ a23 : Nat, a23 ≠ 0 ∧ zK h20 a23 = 0 ∧ ∀ h26 : ZH, h26 = (zmk (zsR h20 l0 2 a17) a23 22 22) → (zK h26 l0 = 3) ∧ ∃ a29 : Nat, a29 ≠ 0 ∧ zK h26 a29 = 0 ∧ ∀ h32 : ZH, h32 = (zmk (zsR h26 l0 3 a23) a29 20 22) → (zK h32 l0 = 3) ∧ ∃ a35 : Nat, a35 ≠ 0 ∧ zK h32 a35 = 0 ∧ ∀ h38 : ZH, h38 = (zmk (zsR h32 l0 4 a29) a35 20 22) → (zK h38 l0 = 3) ∧ ∃ a41 : Nat, a41 ≠ 0 ∧ zK h38 a41 = 0 ∧ ∀ h44 : ZH, h44 = (zmk (zsR h38 l0 5 a35) a41 21 22) → (zK h44 l0 = 3) ∧ ψ (zsR h44 l0 6 a41)) : ZcV mX2_init [.ref l0] h ψ := by
  refine Zc.intro (L := [some (.ref l0)]) (show plainName RX2 = true by decide) rfl (Nat.le_of_ble_eq_true rfl) ?_
  show Zt _ _ 16 318 _ _ _ _
  refine z_aload_n (q := 1) dX2_init_0 rfl rfl rfl ?_
  refine z_objInit (q := 4) dX2_init_1 ow_X2_3 (Nat.le_of_ble_eq_true rfl) (by decide) rfl ?_
  refine z_aload_n (q := 5) dX2_init_4 rfl rfl rfl ?_
  refine z_bipush (q := 7) (v := 9) dX2_init_5 (by decide) rfl ?_
  refine z_bipush (q := 9) (v := 21) dX2_init_7 (by decide) rfl ?_
  obtain ⟨a1, b2, g3, g4, g5, g6, g7, hF⟩ := hF
  refine z_mna (rc := 6) (rs := 120) (a := a1) (g := b2) (ko := 29) (ki := 22) (n := 9) (m := 21) (ty := .long) (q := 13) dX2_init_9 cl_X2_11 ac_22 (by decide) (by decide) (by decide) (by decide) (by decide) (by decide) (by decide) g3 g4 g5 g6 g7 rfl ?_
  refine z_nameH (fun h8 eh9 => ?_)
  have hF := hF h8 eh9
  obtain ⟨g10, hF⟩ := hF
  refine z_putRF (c := 2) (k := 0) (r := (RX2, TX2, 8)) (q := 16) dX2_init_13 rfl (by decide) fw_X2_13 rfl rfl rfl rfl g10 rfl ?_
  refine z_aload_n (q := 17) dX2_init_16 rfl rfl rfl ?_
  refine z_bipush (q := 19) (v := 10) dX2_init_17 (by decide) rfl ?_
  obtain ⟨a11, g12, g13, hF⟩ := hF
  refine z_newa (rc := 5) (rs := 110) (a := a11) (kd := 22) (N := 10) (q := 21) dX2_init_19 rfl (by decide) ac_22 (by decide) (by decide) (by decide) g12 g13 rfl ?_
  refine z_nameH (fun h14 eh15 => ?_)
  have hF := hF h14 eh15
  obtain ⟨g16, hF⟩ := hF
  refine z_putRF (c := 2) (k := 1) (r := (RX2, TX2, 8)) (q := 24) dX2_init_21 rfl (by decide) fw_X2_16 rfl rfl rfl rfl g16 rfl ?_
  refine z_aload_n (q := 25) dX2_init_24 rfl rfl rfl ?_
  refine z_bipush (q := 27) (v := 22) dX2_init_25 (by decide) rfl ?_
  obtain ⟨a17, g18, g19, hF⟩ := hF
  refine z_newa (rc := 4) (rs := 88) (a := a17) (kd := 22) (N := 22) (q := 29) dX2_init_27 rfl (by decide) ac_22 (by decide) (by decide) (by decide) g18 g19 rfl ?_
  refine z_nameH (fun h20 eh21 => ?_)
  have hF := hF h20 eh21
  obtain ⟨g22, hF⟩ := hF
  refine z_putRF (c := 2) (k := 2) (r := (RX2, TX2, 8)) (q := 32) dX2_init_29 rfl (by decide) fw_X2_20 rfl rfl rfl rfl g22 rfl ?_
  refine z_aload_n (q := 33) dX2_init_32 rfl rfl rfl ?_
  refine z_bipush (q := 35) (v := 22) dX2_init_33 (by decide) rfl ?_
  obtain ⟨a23, g24, g25, hF⟩ := hF
  refine z_newa (rc := 3) (rs := 66) (a := a23) (kd := 22) (N := 22) (q := 37) dX2_init_35 rfl (by decide) ac_22 (by decide) (by decide) (by decide) g24 g25 rfl ?_
  refine z_nameH (fun h26 eh27 => ?_)
  have hF := hF h26 eh27
  obtain ⟨g28, hF⟩ := hF
  refine z_putRF (c := 2) (k := 3) (r := (RX2, TX2, 8)) (q := 40) dX2_init_37 rfl (by decide) fw_X2_23 rfl rfl rfl rfl g28 rfl ?_
  refine z_aload_n (q := 41) dX2_init_40 rfl rfl rfl ?_
  refine z_bipush (q := 43) (v := 22) dX2_init_41 (by decide) rfl ?_
  obtain ⟨a29, g30, g31, hF⟩ := hF
  refine z_newa (rc := 2) (rs := 44) (a := a29) (kd := 20) (N := 22) (q := 45) dX2_init_43 rfl (by decide) ac_20 (by decide) (by decide) (by decide) g30 g31 rfl ?_
  refine z_nameH (fun h32 eh33 => ?_)
  have hF := hF h32 eh33
  obtain ⟨g34, hF⟩ := hF
  refine z_putRF (c := 2) (k := 4) (r := (RX2, TX2, 8)) (q := 48) dX2_init_45 rfl (by decide) fw_X2_26 rfl rfl rfl rfl g34 rfl ?_
  refine z_aload_n (q := 49) dX2_init_48 rfl rfl rfl ?_
  refine z_bipush (q := 51) (v := 22) dX2_init_49 (by decide) rfl ?_
  obtain ⟨a35, g36, g37, hF⟩ := hF
  refine z_newa (rc := 1) (rs := 22) (a := a35) (kd := 20) (N := 22) (q := 53) dX2_init_51 rfl (by decide) ac_20 (by decide) (by decide) (by decide) g36 g37 rfl ?_
  refine z_nameH (fun h38 eh39 => ?_)
  have hF := hF h38 eh39
  obtain ⟨g40, hF⟩ := hF
  refine z_putRF (c := 2) (k := 5) (r := (RX2, TX2, 8)) (q := 56) dX2_init_53 rfl (by decide) fw_X2_30 rfl rfl rfl rfl g40 rfl ?_
  refine z_aload_n (q := 57) dX2_init_56 rfl rfl rfl ?_
  refine z_bipush (q := 59) (v := 22) dX2_init_57 (by decide) rfl ?_
  obtain ⟨a41, g42, g43, hF⟩ := hF
  refine z_newa (rc := 0) (rs := 0) (a := a41) (kd := 21) (N := 22) (q := 61) dX2_init_59 rfl (by decide) ac_21 (by decide) (by decide) (by decide) g42 g43 rfl ?_
  refine z_nameH (fun h44 eh45 => ?_)
  have hF := hF h44 eh45
  obtain ⟨g46, hF⟩ := hF
  refine z_putRF (c := 2) (k := 6) (r := (RX2, TX2, 8)) (q := 64) dX2_init_61 rfl (by decide) fw_X2_33 rfl rfl rfl rfl g46 rfl ?_
  exact z_return dX2_init_64 rfl ⟨rfl, hF⟩
set_option maxRecDepth 100000 in
set_option maxHeartbeats 4000000 in
theorem wX2_bar_2 {ψ : ZH → Prop} {l0 : Nat} {l1 : Int32} {l2 : Int32} {l3 : Int32} {h : ZH} (hF : ((l2 ≤ l3 → ψ h) ∧ (¬ l2 ≤ l3 → (zK h l0 = 3) ∧ ((zR h l0 0) ≠ 0) ∧ (zK h (zR h l0 0) = 29) ∧ (vp_in l1 (zN h (zR h l0 0))) ∧ ((zR h (zR h l0 0) (Int32.toNatClampNeg l1)) ≠ 0) ∧ (zK h (zR h (zR h l0 0) (Int32.toNatClampNeg l1)) = 22) ∧ (vp_in l3 (zN h (zR h (zR h l0 0) (Int32.toNatClampNeg l1)))) ∧ Zt mX2_bar (zPV ψ) 0 0 2 [some (.ref l0), some (.int l1), some (.int l2), some (.int (l3 + 1))] [] (zsL h (zR h (zR h l0 0) (Int32.toNatClampNeg l1)) (Int32.toNatClampNeg l3) 100000000000000000)))) : Zt mX2_bar (zPV ψ) 0 0 2 [some (.ref l0), some (.int l1), some (.int l2), some (.int l3)] [] h := by
  refine z_iload_n (q := 3) dX2_bar_2 rfl rfl rfl ?_
  refine z_iload_n (q := 4) dX2_bar_3 rfl rfl rfl ?_
  refine z_icmp_ge (t := 24) (q := 7) dX2_bar_4 (by decide) rfl (fun hc => ?_) (fun hc => ?_)
  · have hF := hF.1 hc
    exact z_return dX2_bar_24 rfl ⟨rfl, hF⟩
  · have hF := hF.2 hc
    refine z_aload_n (q := 8) dX2_bar_7 rfl rfl rfl ?_
    obtain ⟨g1, hF⟩ := hF
    obtain ⟨g2, hF⟩ := hF
    refine z_getR (c := 2) (k := 0) (r := (RX2, TX2, 8)) (q := 11) dX2_bar_8 rfl (by decide) fl_X2_13 rfl g1 g2 rfl ?_
    refine z_iload_n (q := 12) dX2_bar_11 rfl rfl rfl ?_
    obtain ⟨g3, hF⟩ := hF
    obtain ⟨g4, hF⟩ := hF
    obtain ⟨g5, hF⟩ := hF
    refine y_aald (kd := 29) (j := (Int32.toNatClampNeg l1)) (q := 13) dX2_bar_12 g3 (by decide) (by decide) rfl g4 rfl g5 rfl ?_
    refine z_iload_n (q := 14) dX2_bar_13 rfl rfl rfl ?_
    refine z_ldc2 (q := 17) (v := 100000000000000000) dX2_bar_14 cw_X2_37 rfl ?_
    obtain ⟨g6, hF⟩ := hF
    obtain ⟨g7, hF⟩ := hF
    refine y_last (j := (Int32.toNatClampNeg l3)) (q := 18) dX2_bar_17 g6 g7 rfl rfl ?_
    refine z_iinc (q := 21) (v := (l3 + 1)) (L' := [some (.ref l0), some (.int l1), some (.int l2), some (.int (l3 + 1))]) dX2_bar_18 rfl rfl (Nat.le_of_ble_eq_true rfl) rfl rfl rfl ?_
    refine z_goto (q := 2) dX2_bar_21 (by decide) ?_
    exact hF
set_option maxRecDepth 100000 in
set_option maxHeartbeats 4000000 in
theorem wX2_bar {ψ : ZH → Prop} {l0 : Nat} {l1 : Int32} {l2 : Int32} {h : ZH} (hF : Zt mX2_bar (zPV ψ) 0 0 2 [some (.ref l0), some (.int l1), some (.int l2), some (.int 0)] [] h) : ZcV mX2_bar [.ref l0, .int l1, .int l2] h ψ := by
  refine Zc.intro (L := [some (.ref l0), some (.int l1), some (.int l2), none]) (show plainName RX2 = true by decide) rfl (Nat.le_of_ble_eq_true rfl) ?_
  show Zt _ _ 0 0 _ _ _ _
  refine z_iconst (q := 1) (v := 0) dX2_bar_0 (by decide) rfl ?_
  refine z_istore_n (q := 2) (L' := [some (.ref l0), some (.int l1), some (.int l2), some (.int 0)]) dX2_bar_1 rfl (Nat.le_of_ble_eq_true rfl) rfl rfl rfl ?_
  exact hF
set_option maxRecDepth 100000 in
set_option maxHeartbeats 4000000 in
theorem wX2_solve_37 {ψ : ZH → Prop} {l0 : Nat} {l1 : Int32} {l3 : Int32} {h : ZH} (hF : ((l1 < l3 → ψ h) ∧ (¬ l1 < l3 → (zK h l0 = 3) ∧ ((zR h l0 1) ≠ 0) ∧ (zK h (zR h l0 1) = 22) ∧ (vp_in l3 (zN h (zR h l0 1))) ∧ ZcV mX2_seat [.ref l0, .int l3] (zsL h (zR h l0 1) (Int32.toNatClampNeg l3) 0) (fun h5 => Zt mX2_solve (zPV ψ) 0 0 37 [some (.ref l0), some (.int l1), none, some (.int (l3 + 1))] [] h5)))) : Zt mX2_solve (zPV ψ) 0 0 37 [some (.ref l0), some (.int l1), none, some (.int l3)] [] h := by
  refine z_iload_n (q := 38) dX2_solve_37 rfl rfl rfl ?_
  refine z_iload_n (q := 39) dX2_solve_38 rfl rfl rfl ?_
  refine z_icmp_gt (t := 60) (q := 42) dX2_solve_39 (by decide) rfl (fun hc => ?_) (fun hc => ?_)
  · have hF := hF.1 hc
    exact z_return dX2_solve_60 rfl ⟨rfl, hF⟩
  · have hF := hF.2 hc
    refine z_aload_n (q := 43) dX2_solve_42 rfl rfl rfl ?_
    obtain ⟨g1, hF⟩ := hF
    obtain ⟨g2, hF⟩ := hF
    refine z_getR (c := 2) (k := 1) (r := (RX2, TX2, 8)) (q := 46) dX2_solve_43 rfl (by decide) fl_X2_16 rfl g1 g2 rfl ?_
    refine z_iload_n (q := 47) dX2_solve_46 rfl rfl rfl ?_
    refine z_lconst (q := 48) (v := 0) dX2_solve_47 (by decide) rfl ?_
    obtain ⟨g3, hF⟩ := hF
    obtain ⟨g4, hF⟩ := hF
    refine y_last (j := (Int32.toNatClampNeg l3)) (q := 49) dX2_solve_48 g3 g4 rfl rfl ?_
    refine z_aload_n (q := 50) dX2_solve_49 rfl rfl rfl ?_
    refine z_iload_n (q := 51) dX2_solve_50 rfl rfl rfl ?_
    refine z_callVV (rc := 0) (rs := 0) (b := l0) (av := [.int l3]) (ci := 2) (r := (RX2, TX2, 8)) (q := 54) hF dX2_solve_51 ml_X2_43 ok_X2_seat in_X2_seat se_X2_seat rfl rfl g1 rfl (Nat.le_of_ble_eq_true rfl) (by decide) (Nat.le_of_ble_eq_true rfl) rfl rfl rfl rfl (fun h5 hF => ?_)
    refine z_iinc (q := 57) (v := (l3 + 1)) (L' := [some (.ref l0), some (.int l1), none, some (.int (l3 + 1))]) dX2_solve_54 rfl rfl (Nat.le_of_ble_eq_true rfl) rfl rfl rfl ?_
    refine z_goto (q := 37) dX2_solve_57 (by decide) ?_
    exact hF
set_option maxRecDepth 100000 in
set_option maxHeartbeats 4000000 in
theorem wX2_solve_7 {ψ : ZH → Prop} {l0 : Nat} {l1 : Int32} {l3 : Int32} {h : ZH} (hF : (zK h l0 = 3) ∧ (((zI h l0 7) < l3 → Zt mX2_solve (zPV ψ) 0 0 37 [some (.ref l0), some (.int l1), none, some (.int 1)] [] h) ∧ (¬ (zI h l0 7) < l3 → ((zR h l0 2) ≠ 0) ∧ (zK h (zR h l0 2) = 22) ∧ (vp_in l3 (zN h (zR h l0 2))) ∧ ((zR h l0 4) ≠ 0) ∧ (zK h (zR h l0 4) = 20) ∧ (vp_in l3 (zN h (zR h l0 4))) ∧ Zt mX2_solve (zPV ψ) 0 0 7 [some (.ref l0), some (.int l1), none, some (.int (l3 + 1))] [] (zsI (zsL h (zR h l0 2) (Int32.toNatClampNeg l3) 0) (zR h l0 4) (Int32.toNatClampNeg l3) 0)))) : Zt mX2_solve (zPV ψ) 0 0 7 [some (.ref l0), some (.int l1), none, some (.int l3)] [] h := by
  refine z_iload_n (q := 8) dX2_solve_7 rfl rfl rfl ?_
  refine z_aload_n (q := 9) dX2_solve_8 rfl rfl rfl ?_
  obtain ⟨g6, hF⟩ := hF
  refine z_getI (c := 2) (k := 7) (r := (RX2, TX2, 8)) (q := 12) dX2_solve_9 rfl (by decide) fl_X2_39 rfl g6 rfl ?_
  refine z_icmp_gt (t := 35) (q := 15) dX2_solve_12 (by decide) rfl (fun hc => ?_) (fun hc => ?_)
  · have hF := hF.1 hc
    refine z_iconst (q := 36) (v := 1) dX2_solve_35 (by decide) rfl ?_
    refine z_istore_n (q := 37) (L' := [some (.ref l0), some (.int l1), none, some (.int 1)]) dX2_solve_36 rfl (Nat.le_of_ble_eq_true rfl) rfl rfl rfl ?_
    exact hF
  · have hF := hF.2 hc
    refine z_aload_n (q := 16) dX2_solve_15 rfl rfl rfl ?_
    obtain ⟨g7, hF⟩ := hF
    refine z_getR (c := 2) (k := 2) (r := (RX2, TX2, 8)) (q := 19) dX2_solve_16 rfl (by decide) fl_X2_20 rfl g6 g7 rfl ?_
    refine z_iload_n (q := 20) dX2_solve_19 rfl rfl rfl ?_
    refine z_lconst (q := 21) (v := 0) dX2_solve_20 (by decide) rfl ?_
    obtain ⟨g8, hF⟩ := hF
    obtain ⟨g9, hF⟩ := hF
    refine y_last (j := (Int32.toNatClampNeg l3)) (q := 22) dX2_solve_21 g8 g9 rfl rfl ?_
    refine z_aload_n (q := 23) dX2_solve_22 rfl rfl rfl ?_
    obtain ⟨g10, hF⟩ := hF
    refine z_getR (c := 2) (k := 4) (r := (RX2, TX2, 8)) (q := 26) dX2_solve_23 rfl (by decide) fl_X2_26 rfl g6 g10 rfl ?_
    refine z_iload_n (q := 27) dX2_solve_26 rfl rfl rfl ?_
    refine z_iconst (q := 28) (v := 0) dX2_solve_27 (by decide) rfl ?_
    obtain ⟨g11, hF⟩ := hF
    obtain ⟨g12, hF⟩ := hF
    refine y_iast (j := (Int32.toNatClampNeg l3)) (q := 29) dX2_solve_28 g11 g12 rfl rfl ?_
    refine z_iinc (q := 32) (v := (l3 + 1)) (L' := [some (.ref l0), some (.int l1), none, some (.int (l3 + 1))]) dX2_solve_29 rfl rfl (Nat.le_of_ble_eq_true rfl) rfl rfl rfl ?_
    refine z_goto (q := 7) dX2_solve_32 (by decide) ?_
    exact hF
set_option maxRecDepth 100000 in
set_option maxHeartbeats 4000000 in
theorem wX2_solve {ψ : ZH → Prop} {l0 : Nat} {l1 : Int32} {l2 : Int32} {h : ZH} (hF : (zK h l0 = 3) ∧ Zt mX2_solve (zPV ψ) 0 0 7 [some (.ref l0), some (.int l1), none, some (.int 0)] [] (zsI h l0 7 l2)) : ZcV mX2_solve [.ref l0, .int l1, .int l2] h ψ := by
  refine Zc.intro (L := [some (.ref l0), some (.int l1), some (.int l2), none]) (show plainName RX2 = true by decide) rfl (Nat.le_of_ble_eq_true rfl) ?_
  show Zt _ _ 0 0 _ _ _ _
  refine z_aload_n (q := 1) dX2_solve_0 rfl rfl rfl ?_
  refine z_iload_n (q := 2) dX2_solve_1 rfl rfl rfl ?_
  obtain ⟨g13, hF⟩ := hF
  refine z_putI (c := 2) (k := 7) (r := (RX2, TX2, 8)) (q := 5) dX2_solve_2 rfl (by decide) fl_X2_39 rfl rfl g13 rfl ?_
  refine z_iconst (q := 6) (v := 0) dX2_solve_5 (by decide) rfl ?_
  refine z_istore_n (q := 7) (L' := [some (.ref l0), some (.int l1), some (.int l2), some (.int 0)]) dX2_solve_6 rfl (Nat.le_of_ble_eq_true rfl) rfl rfl rfl ?_
  refine Zt.drop (i := 2) (L' := [some (.ref l0), some (.int l1), none, some (.int 0)]) rfl ?_
  exact hF
set_option maxRecDepth 100000 in
set_option maxHeartbeats 4000000 in
theorem wX2_seat_74 {ψ : ZH → Prop} {l0 : Nat} {l2 : Int32} {l3 : Int32} {h : ZH} (hF : (zK h l0 = 3) ∧ (((zI h l0 7) < l3 → ψ h) ∧ (¬ (zI h l0 7) < l3 → ((l2 = 0 → ψ h) ∧ (¬ l2 = 0 → ((zR h l0 4) ≠ 0) ∧ ((zR h l0 5) ≠ 0) ∧ (zK h (zR h l0 5) = 20) ∧ (vp_in l2 (zN h (zR h l0 5))) ∧ (zK h (zR h l0 4) = 20) ∧ (vp_in (zI h (zR h l0 5) (Int32.toNatClampNeg l2)) (zN h (zR h l0 4))) ∧ (vp_in l2 (zN h (zR h l0 4))) ∧ ∀ h9 : ZH, h9 = (zsI h (zR h l0 4) (Int32.toNatClampNeg l2) (zI h (zR h l0 4) (Int32.toNatClampNeg (zI h (zR h l0 5) (Int32.toNatClampNeg l2))))) → (zK h9 (zR h l0 5) = 20) ∧ (vp_in l2 (zN h9 (zR h l0 5))) ∧ ∀ v13 : Int32, v13 = (zI h9 (zR h l0 5) (Int32.toNatClampNeg l2)) → Zt mX2_seat (zPV ψ) 0 0 74 [some (.ref l0), none, some (.int v13), some (.int (l3 + 1))] [] h9))))) : Zt mX2_seat (zPV ψ) 0 0 74 [some (.ref l0), none, some (.int l2), some (.int l3)] [] h := by
  refine z_iload_n (q := 75) dX2_seat_74 rfl rfl rfl ?_
  refine z_aload_n (q := 76) dX2_seat_75 rfl rfl rfl ?_
  obtain ⟨g1, hF⟩ := hF
  refine z_getI (c := 2) (k := 7) (r := (RX2, TX2, 8)) (q := 79) dX2_seat_76 rfl (by decide) fl_X2_39 rfl g1 rfl ?_
  refine z_icmp_gt (t := 116) (q := 82) dX2_seat_79 (by decide) rfl (fun hc => ?_) (fun hc => ?_)
  · have hF := hF.1 hc
    exact z_return dX2_seat_116 rfl ⟨rfl, hF⟩
  · have hF := hF.2 hc
    refine z_iload_n (q := 83) dX2_seat_82 rfl rfl rfl ?_
    refine z_if_eq (t := 116) (q := 86) dX2_seat_83 (by decide) rfl (fun hc => ?_) (fun hc => ?_)
    · have hF := hF.1 hc
      exact z_return dX2_seat_116 rfl ⟨rfl, hF⟩
    · have hF := hF.2 hc
      refine z_aload_n (q := 87) dX2_seat_86 rfl rfl rfl ?_
      obtain ⟨g2, hF⟩ := hF
      refine z_getR (c := 2) (k := 4) (r := (RX2, TX2, 8)) (q := 90) dX2_seat_87 rfl (by decide) fl_X2_26 rfl g1 g2 rfl ?_
      refine z_iload_n (q := 91) dX2_seat_90 rfl rfl rfl ?_
      refine z_aload_n (q := 92) dX2_seat_91 rfl rfl rfl ?_
      refine z_getR (c := 2) (k := 4) (r := (RX2, TX2, 8)) (q := 95) dX2_seat_92 rfl (by decide) fl_X2_26 rfl g1 g2 rfl ?_
      refine z_aload_n (q := 96) dX2_seat_95 rfl rfl rfl ?_
      obtain ⟨g3, hF⟩ := hF
      refine z_getR (c := 2) (k := 5) (r := (RX2, TX2, 8)) (q := 99) dX2_seat_96 rfl (by decide) fl_X2_30 rfl g1 g3 rfl ?_
      refine z_iload_n (q := 100) dX2_seat_99 rfl rfl rfl ?_
      obtain ⟨g4, hF⟩ := hF
      obtain ⟨g5, hF⟩ := hF
      refine y_iald (j := (Int32.toNatClampNeg l2)) (q := 101) dX2_seat_100 (Or.inl g4) g5 rfl rfl ?_
      obtain ⟨g6, hF⟩ := hF
      obtain ⟨g7, hF⟩ := hF
      refine y_iald (j := (Int32.toNatClampNeg (zI h (zR h l0 5) (Int32.toNatClampNeg l2)))) (q := 102) dX2_seat_101 (Or.inl g6) g7 rfl rfl ?_
      obtain ⟨g8, hF⟩ := hF
      refine y_iast (j := (Int32.toNatClampNeg l2)) (q := 103) dX2_seat_102 g6 g8 rfl rfl ?_
      refine z_aload_n (q := 104) dX2_seat_103 rfl rfl rfl ?_
      refine z_getR (c := 2) (k := 5) (r := (RX2, TX2, 8)) (q := 107) dX2_seat_104 rfl (by decide) fl_X2_30 rfl g1 g3 rfl ?_
      refine z_iload_n (q := 108) dX2_seat_107 rfl rfl rfl ?_
      refine z_nameH (fun h9 eh10 => ?_)
      have hF := hF h9 eh10
      obtain ⟨g11, hF⟩ := hF
      obtain ⟨g12, hF⟩ := hF
      refine y_iald (j := (Int32.toNatClampNeg l2)) (q := 109) dX2_seat_108 (Or.inl g11) g12 rfl rfl ?_
      refine z_nameI (fun v13 ev14 => ?_)
      have hF := hF v13 ev14
      refine z_istore_n (q := 110) (L' := [some (.ref l0), none, some (.int v13), some (.int l3)]) dX2_seat_109 rfl (Nat.le_of_ble_eq_true rfl) rfl rfl rfl ?_
      refine z_iinc (q := 113) (v := (l3 + 1)) (L' := [some (.ref l0), none, some (.int v13), some (.int (l3 + 1))]) dX2_seat_110 rfl rfl (Nat.le_of_ble_eq_true rfl) rfl rfl rfl ?_
      refine z_goto (q := 74) dX2_seat_113 (by decide) ?_
      exact hF
set_option maxRecDepth 100000 in
set_option maxHeartbeats 4000000 in
theorem wX2_seat_43 {ψ : ZH → Prop} {l0 : Nat} {l2 : Int32} {l3 : Int32} {h : ZH} (hF : (zK h l0 = 3) ∧ (((zI h l0 7) < l3 → Zt mX2_seat (zPV ψ) 0 0 74 [some (.ref l0), none, some (.int l2), some (.int 0)] [] h) ∧ (¬ (zI h l0 7) < l3 → ((zR h l0 4) ≠ 0) ∧ (zK h (zR h l0 4) = 20) ∧ (vp_in l2 (zN h (zR h l0 4))) ∧ (((zI h (zR h l0 4) (Int32.toNatClampNeg l2)) = 0 → Zt mX2_seat (zPV ψ) 0 0 74 [some (.ref l0), none, some (.int l2), some (.int 0)] [] h) ∧ (¬ (zI h (zR h l0 4) (Int32.toNatClampNeg l2)) = 0 → ZcI mX2_reachNext [.ref l0, .int l2] h (fun x20 h19 => Zt mX2_seat (zPV ψ) 0 0 43 [some (.ref l0), none, some (.int x20), some (.int (l3 + 1))] [] h19)))))) : Zt mX2_seat (zPV ψ) 0 0 43 [some (.ref l0), none, some (.int l2), some (.int l3)] [] h := by
  refine z_iload_n (q := 44) dX2_seat_43 rfl rfl rfl ?_
  refine z_aload_n (q := 45) dX2_seat_44 rfl rfl rfl ?_
  obtain ⟨g15, hF⟩ := hF
  refine z_getI (c := 2) (k := 7) (r := (RX2, TX2, 8)) (q := 48) dX2_seat_45 rfl (by decide) fl_X2_39 rfl g15 rfl ?_
  refine z_icmp_gt (t := 72) (q := 51) dX2_seat_48 (by decide) rfl (fun hc => ?_) (fun hc => ?_)
  · have hF := hF.1 hc
    refine z_iconst (q := 73) (v := 0) dX2_seat_72 (by decide) rfl ?_
    refine z_istore_n (q := 74) (L' := [some (.ref l0), none, some (.int l2), some (.int 0)]) dX2_seat_73 rfl (Nat.le_of_ble_eq_true rfl) rfl rfl rfl ?_
    exact hF
  · have hF := hF.2 hc
    refine z_aload_n (q := 52) dX2_seat_51 rfl rfl rfl ?_
    obtain ⟨g16, hF⟩ := hF
    refine z_getR (c := 2) (k := 4) (r := (RX2, TX2, 8)) (q := 55) dX2_seat_52 rfl (by decide) fl_X2_26 rfl g15 g16 rfl ?_
    refine z_iload_n (q := 56) dX2_seat_55 rfl rfl rfl ?_
    obtain ⟨g17, hF⟩ := hF
    obtain ⟨g18, hF⟩ := hF
    refine y_iald (j := (Int32.toNatClampNeg l2)) (q := 57) dX2_seat_56 (Or.inl g17) g18 rfl rfl ?_
    refine z_if_eq (t := 72) (q := 60) dX2_seat_57 (by decide) rfl (fun hc => ?_) (fun hc => ?_)
    · have hF := hF.1 hc
      refine z_iconst (q := 73) (v := 0) dX2_seat_72 (by decide) rfl ?_
      refine z_istore_n (q := 74) (L' := [some (.ref l0), none, some (.int l2), some (.int 0)]) dX2_seat_73 rfl (Nat.le_of_ble_eq_true rfl) rfl rfl rfl ?_
      exact hF
    · have hF := hF.2 hc
      refine z_aload_n (q := 61) dX2_seat_60 rfl rfl rfl ?_
      refine z_iload_n (q := 62) dX2_seat_61 rfl rfl rfl ?_
      refine z_callVI (rc := 0) (rs := 0) (b := l0) (av := [.int l2]) (ci := 2) (r := (RX2, TX2, 8)) (q := 65) hF dX2_seat_62 ml_X2_49 ok_X2_reachNext in_X2_reachNext se_X2_reachNext rfl rfl g15 rfl (Nat.le_of_ble_eq_true rfl) (by decide) (Nat.le_of_ble_eq_true rfl) rfl rfl rfl rfl (fun x20 h19 hF => ?_)
      refine z_istore_n (q := 66) (L' := [some (.ref l0), none, some (.int x20), some (.int l3)]) dX2_seat_65 rfl (Nat.le_of_ble_eq_true rfl) rfl rfl rfl ?_
      refine z_iinc (q := 69) (v := (l3 + 1)) (L' := [some (.ref l0), none, some (.int x20), some (.int (l3 + 1))]) dX2_seat_66 rfl rfl (Nat.le_of_ble_eq_true rfl) rfl rfl rfl ?_
      refine z_goto (q := 43) dX2_seat_69 (by decide) ?_
      exact hF
set_option maxRecDepth 100000 in
set_option maxHeartbeats 4000000 in
theorem wX2_seat_2 {ψ : ZH → Prop} {l0 : Nat} {l1 : Int32} {l2 : Int32} {h : ZH} (hF : (zK h l0 = 3) ∧ (((zI h l0 7) < l2 → ((zR h l0 4) ≠ 0) ∧ (zK h (zR h l0 4) = 20) ∧ (0 < zN h (zR h l0 4)) ∧ Zt mX2_seat (zPV ψ) 0 0 43 [some (.ref l0), none, some (.int 0), some (.int 0)] [] (zsI h (zR h l0 4) 0 l1)) ∧ (¬ (zI h l0 7) < l2 → ((zR h l0 3) ≠ 0) ∧ (zK h (zR h l0 3) = 22) ∧ (vp_in l2 (zN h (zR h l0 3))) ∧ ((zR h l0 6) ≠ 0) ∧ (zK h (zR h l0 6) = 21) ∧ (vp_in l2 (zN h (zR h l0 6))) ∧ Zt mX2_seat (zPV ψ) 0 0 2 [some (.ref l0), some (.int l1), some (.int (l2 + 1)), none] [] (zsI (zsL h (zR h l0 3) (Int32.toNatClampNeg l2) 4000000000000000000) (zR h l0 6) (Int32.toNatClampNeg l2) 0)))) : Zt mX2_seat (zPV ψ) 0 0 2 [some (.ref l0), some (.int l1), some (.int l2), none] [] h := by
  refine z_iload_n (q := 3) dX2_seat_2 rfl rfl rfl ?_
  refine z_aload_n (q := 4) dX2_seat_3 rfl rfl rfl ?_
  obtain ⟨g21, hF⟩ := hF
  refine z_getI (c := 2) (k := 7) (r := (RX2, TX2, 8)) (q := 7) dX2_seat_4 rfl (by decide) fl_X2_39 rfl g21 rfl ?_
  refine z_icmp_gt (t := 32) (q := 10) dX2_seat_7 (by decide) rfl (fun hc => ?_) (fun hc => ?_)
  · have hF := hF.1 hc
    refine z_aload_n (q := 33) dX2_seat_32 rfl rfl rfl ?_
    obtain ⟨g22, hF⟩ := hF
    refine z_getR (c := 2) (k := 4) (r := (RX2, TX2, 8)) (q := 36) dX2_seat_33 rfl (by decide) fl_X2_26 rfl g21 g22 rfl ?_
    refine z_iconst (q := 37) (v := 0) dX2_seat_36 (by decide) rfl ?_
    refine z_iload_n (q := 38) dX2_seat_37 rfl rfl rfl ?_
    obtain ⟨g23, hF⟩ := hF
    obtain ⟨g24, hF⟩ := hF
    refine y_iast (j := 0) (q := 39) dX2_seat_38 g23 (zvin (by decide) (by decide) g24) (by decide) rfl ?_
    refine z_iconst (q := 40) (v := 0) dX2_seat_39 (by decide) rfl ?_
    refine z_istore_n (q := 41) (L' := [some (.ref l0), some (.int l1), some (.int 0), none]) dX2_seat_40 rfl (Nat.le_of_ble_eq_true rfl) rfl rfl rfl ?_
    refine z_iconst (q := 42) (v := 0) dX2_seat_41 (by decide) rfl ?_
    refine z_istore_n (q := 43) (L' := [some (.ref l0), some (.int l1), some (.int 0), some (.int 0)]) dX2_seat_42 rfl (Nat.le_of_ble_eq_true rfl) rfl rfl rfl ?_
    refine Zt.drop (i := 1) (L' := [some (.ref l0), none, some (.int 0), some (.int 0)]) rfl ?_
    exact hF
  · have hF := hF.2 hc
    refine z_aload_n (q := 11) dX2_seat_10 rfl rfl rfl ?_
    obtain ⟨g25, hF⟩ := hF
    refine z_getR (c := 2) (k := 3) (r := (RX2, TX2, 8)) (q := 14) dX2_seat_11 rfl (by decide) fl_X2_23 rfl g21 g25 rfl ?_
    refine z_iload_n (q := 15) dX2_seat_14 rfl rfl rfl ?_
    refine z_ldc2 (q := 18) (v := 4000000000000000000) dX2_seat_15 cw_X2_47 rfl ?_
    obtain ⟨g26, hF⟩ := hF
    obtain ⟨g27, hF⟩ := hF
    refine y_last (j := (Int32.toNatClampNeg l2)) (q := 19) dX2_seat_18 g26 g27 rfl rfl ?_
    refine z_aload_n (q := 20) dX2_seat_19 rfl rfl rfl ?_
    obtain ⟨g28, hF⟩ := hF
    refine z_getR (c := 2) (k := 6) (r := (RX2, TX2, 8)) (q := 23) dX2_seat_20 rfl (by decide) fl_X2_33 rfl g21 g28 rfl ?_
    refine z_iload_n (q := 24) dX2_seat_23 rfl rfl rfl ?_
    refine z_iconst (q := 25) (v := 0) dX2_seat_24 (by decide) rfl ?_
    obtain ⟨g29, hF⟩ := hF
    obtain ⟨g30, hF⟩ := hF
    refine y_bast (j := (Int32.toNatClampNeg l2)) (q := 26) dX2_seat_25 g29 g30 (by decide) rfl rfl ?_
    refine z_iinc (q := 29) (v := (l2 + 1)) (L' := [some (.ref l0), some (.int l1), some (.int (l2 + 1)), none]) dX2_seat_26 rfl rfl (Nat.le_of_ble_eq_true rfl) rfl rfl rfl ?_
    refine z_goto (q := 2) dX2_seat_29 (by decide) ?_
    exact hF
set_option maxRecDepth 100000 in
set_option maxHeartbeats 4000000 in
theorem wX2_seat {ψ : ZH → Prop} {l0 : Nat} {l1 : Int32} {h : ZH} (hF : Zt mX2_seat (zPV ψ) 0 0 2 [some (.ref l0), some (.int l1), some (.int 0), none] [] h) : ZcV mX2_seat [.ref l0, .int l1] h ψ := by
  refine Zc.intro (L := [some (.ref l0), some (.int l1), none, none]) (show plainName RX2 = true by decide) rfl (Nat.le_of_ble_eq_true rfl) ?_
  show Zt _ _ 0 0 _ _ _ _
  refine z_iconst (q := 1) (v := 0) dX2_seat_0 (by decide) rfl ?_
  refine z_istore_n (q := 2) (L' := [some (.ref l0), some (.int l1), some (.int 0), none]) dX2_seat_1 rfl (Nat.le_of_ble_eq_true rfl) rfl rfl rfl ?_
  exact hF
set_option maxRecDepth 100000 in
set_option maxHeartbeats 4000000 in
theorem wX2_reachNext_19 {ψ : Int32 → ZH → Prop} {l0 : Nat} {l1 : Int32} {l2 : Int32} {l3 : Int32} {l4 : Int32} {h : ZH} (hF : (zK h l0 = 3) ∧ (((zI h l0 7) < l4 → ((zR h l0 3) ≠ 0) ∧ (zK h (zR h l0 3) = 22) ∧ (vp_in l3 (zN h (zR h l0 3))) ∧ ZcV mX2_shiftWorths [.ref l0, .long (zL h (zR h l0 3) (Int32.toNatClampNeg l3))] h (fun h5 => ψ l3 h5)) ∧ (¬ (zI h l0 7) < l4 → ((zR h l0 6) ≠ 0) ∧ (zK h (zR h l0 6) = 21) ∧ (vp_in l4 (zN h (zR h l0 6))) ∧ ((¬ (zI h (zR h l0 6) (Int32.toNatClampNeg l4)) = 0 → Zt mX2_reachNext (zPI ψ) 0 0 19 [some (.ref l0), some (.int l1), some (.int l2), some (.int l3), some (.int (l4 + 1)), none, none] [] h) ∧ ((zI h (zR h l0 6) (Int32.toNatClampNeg l4)) = 0 → ((zR h l0 0) ≠ 0) ∧ (zK h (zR h l0 0) = 29) ∧ (vp_in (l2 - 1) (zN h (zR h l0 0))) ∧ ((zR h (zR h l0 0) (Int32.toNatClampNeg (l2 - 1))) ≠ 0) ∧ (zK h (zR h (zR h l0 0) (Int32.toNatClampNeg (l2 - 1))) = 22) ∧ (vp_in (l4 - 1) (zN h (zR h (zR h l0 0) (Int32.toNatClampNeg (l2 - 1))))) ∧ ((zR h l0 1) ≠ 0) ∧ (zK h (zR h l0 1) = 22) ∧ (vp_in l2 (zN h (zR h l0 1))) ∧ ((zR h l0 2) ≠ 0) ∧ (zK h (zR h l0 2) = 22) ∧ (vp_in l4 (zN h (zR h l0 2))) ∧ ∀ v21 : Int64, v21 = (((zL h (zR h (zR h l0 0) (Int32.toNatClampNeg (l2 - 1))) (Int32.toNatClampNeg (l4 - 1))) - (zL h (zR h l0 1) (Int32.toNatClampNeg l2))) - (zL h (zR h l0 2) (Int32.toNatClampNeg l4))) → ((zR h l0 3) ≠ 0) ∧ (zK h (zR h l0 3) = 22) ∧ (vp_in l4 (zN h (zR h l0 3))) ∧ ((0 ≤ (lg_cmp v21 (zL h (zR h l0 3) (Int32.toNatClampNeg l4))) → ((l3 = 0 → Zt mX2_reachNext (zPI ψ) 0 0 19 [some (.ref l0), some (.int l1), some (.int l2), some (.int l4), some (.int (l4 + 1)), none, none] [] h) ∧ (¬ l3 = 0 → (vp_in l3 (zN h (zR h l0 3))) ∧ ((0 ≤ (lg_cmp (zL h (zR h l0 3) (Int32.toNatClampNeg l4)) (zL h (zR h l0 3) (Int32.toNatClampNeg l3))) → Zt mX2_reachNext (zPI ψ) 0 0 19 [some (.ref l0), some (.int l1), some (.int l2), some (.int l3), some (.int (l4 + 1)), none, none] [] h) ∧ (¬ 0 ≤ (lg_cmp (zL h (zR h l0 3) (Int32.toNatClampNeg l4)) (zL h (zR h l0 3) (Int32.toNatClampNeg l3))) → Zt mX2_reachNext (zPI ψ) 0 0 19 [some (.ref l0), some (.int l1), some (.int l2), some (.int l4), some (.int (l4 + 1)), none, none] [] h))))) ∧ (¬ 0 ≤ (lg_cmp v21 (zL h (zR h l0 3) (Int32.toNatClampNeg l4))) → ((zR h l0 5) ≠ 0) ∧ (zK h (zR h l0 5) = 20) ∧ (vp_in l4 (zN h (zR h l0 5))) ∧ ((l3 = 0 → Zt mX2_reachNext (zPI ψ) 0 0 19 [some (.ref l0), some (.int l1), some (.int l2), some (.int l4), some (.int (l4 + 1)), none, none] [] (zsI (zsL h (zR h l0 3) (Int32.toNatClampNeg l4) v21) (zR h l0 5) (Int32.toNatClampNeg l4) l1)) ∧ (¬ l3 = 0 → ∀ h30 : ZH, h30 = (zsI (zsL h (zR h l0 3) (Int32.toNatClampNeg l4) v21) (zR h l0 5) (Int32.toNatClampNeg l4) l1) → (zK h30 (zR h l0 3) = 22) ∧ (vp_in l4 (zN h30 (zR h l0 3))) ∧ (zK h30 l0 = 3) ∧ ((zR h30 l0 3) ≠ 0) ∧ (zK h30 (zR h30 l0 3) = 22) ∧ (vp_in l3 (zN h30 (zR h30 l0 3))) ∧ ((0 ≤ (lg_cmp (zL h30 (zR h l0 3) (Int32.toNatClampNeg l4)) (zL h30 (zR h30 l0 3) (Int32.toNatClampNeg l3))) → Zt mX2_reachNext (zPI ψ) 0 0 19 [some (.ref l0), some (.int l1), some (.int l2), some (.int l3), some (.int (l4 + 1)), none, none] [] h30) ∧ (¬ 0 ≤ (lg_cmp (zL h30 (zR h l0 3) (Int32.toNatClampNeg l4)) (zL h30 (zR h30 l0 3) (Int32.toNatClampNeg l3))) → Zt mX2_reachNext (zPI ψ) 0 0 19 [some (.ref l0), some (.int l1), some (.int l2), some (.int l4), some (.int (l4 + 1)), none, none] [] h30))))))))))) : Zt mX2_reachNext (zPI ψ) 0 0 19 [some (.ref l0), some (.int l1), some (.int l2), some (.int l3), some (.int l4), none, none] [] h := by
  refine z_iload (q := 21) dX2_reachNext_19 rfl rfl ?_
  refine z_aload_n (q := 22) dX2_reachNext_21 rfl rfl rfl ?_
  obtain ⟨g1, hF⟩ := hF
  refine z_getI (c := 2) (k := 7) (r := (RX2, TX2, 8)) (q := 25) dX2_reachNext_22 rfl (by decide) fl_X2_39 rfl g1 rfl ?_
  refine z_icmp_gt (t := 128) (q := 28) dX2_reachNext_25 (by decide) rfl (fun hc => ?_) (fun hc => ?_)
  · have hF := hF.1 hc
    refine z_aload_n (q := 129) dX2_reachNext_128 rfl rfl rfl ?_
    refine z_aload_n (q := 130) dX2_reachNext_129 rfl rfl rfl ?_
    obtain ⟨g2, hF⟩ := hF
    refine z_getR (c := 2) (k := 3) (r := (RX2, TX2, 8)) (q := 133) dX2_reachNext_130 rfl (by decide) fl_X2_23 rfl g1 g2 rfl ?_
    refine z_iload_n (q := 134) dX2_reachNext_133 rfl rfl rfl ?_
    obtain ⟨g3, hF⟩ := hF
    obtain ⟨g4, hF⟩ := hF
    refine y_lald (j := (Int32.toNatClampNeg l3)) (q := 135) dX2_reachNext_134 g3 g4 rfl rfl ?_
    refine z_callVV (rc := 0) (rs := 0) (b := l0) (av := [.long (zL h (zR h l0 3) (Int32.toNatClampNeg l3))]) (ci := 2) (r := (RX2, TX2, 8)) (q := 138) hF dX2_reachNext_135 ml_X2_53 ok_X2_shiftWorths in_X2_shiftWorths se_X2_shiftWorths rfl rfl g1 rfl (Nat.le_of_ble_eq_true rfl) (by decide) (Nat.le_of_ble_eq_true rfl) rfl rfl rfl rfl (fun h5 hF => ?_)
    refine z_iload_n (q := 139) dX2_reachNext_138 rfl rfl rfl ?_
    exact z_ireturn dX2_reachNext_139 rfl ⟨_, rfl, hF⟩
  · have hF := hF.2 hc
    refine z_aload_n (q := 29) dX2_reachNext_28 rfl rfl rfl ?_
    obtain ⟨g6, hF⟩ := hF
    refine z_getR (c := 2) (k := 6) (r := (RX2, TX2, 8)) (q := 32) dX2_reachNext_29 rfl (by decide) fl_X2_33 rfl g1 g6 rfl ?_
    refine z_iload (q := 34) dX2_reachNext_32 rfl rfl ?_
    obtain ⟨g7, hF⟩ := hF
    obtain ⟨g8, hF⟩ := hF
    refine y_bald (j := (Int32.toNatClampNeg l4)) (q := 35) dX2_reachNext_34 g7 g8 rfl rfl ?_
    refine z_if_ne (t := 122) (q := 38) dX2_reachNext_35 (by decide) rfl (fun hc => ?_) (fun hc => ?_)
    · have hF := hF.1 hc
      refine z_iinc (q := 125) (v := (l4 + 1)) (L' := [some (.ref l0), some (.int l1), some (.int l2), some (.int l3), some (.int (l4 + 1)), none, none]) dX2_reachNext_122 rfl rfl (Nat.le_of_ble_eq_true rfl) rfl rfl rfl ?_
      refine z_goto (q := 19) dX2_reachNext_125 (by decide) ?_
      exact hF
    · have hF := hF.2 hc
      refine z_aload_n (q := 39) dX2_reachNext_38 rfl rfl rfl ?_
      obtain ⟨g9, hF⟩ := hF
      refine z_getR (c := 2) (k := 0) (r := (RX2, TX2, 8)) (q := 42) dX2_reachNext_39 rfl (by decide) fl_X2_13 rfl g1 g9 rfl ?_
      refine z_iload_n (q := 43) dX2_reachNext_42 rfl rfl rfl ?_
      refine z_iconst (q := 44) (v := 1) dX2_reachNext_43 (by decide) rfl ?_
      refine z_isub (q := 45) dX2_reachNext_44 rfl ?_
      obtain ⟨g10, hF⟩ := hF
      obtain ⟨g11, hF⟩ := hF
      obtain ⟨g12, hF⟩ := hF
      refine y_aald (kd := 29) (j := (Int32.toNatClampNeg (l2 - 1))) (q := 46) dX2_reachNext_45 g10 (by decide) (by decide) rfl g11 rfl g12 rfl ?_
      refine z_iload (q := 48) dX2_reachNext_46 rfl rfl ?_
      refine z_iconst (q := 49) (v := 1) dX2_reachNext_48 (by decide) rfl ?_
      refine z_isub (q := 50) dX2_reachNext_49 rfl ?_
      obtain ⟨g13, hF⟩ := hF
      obtain ⟨g14, hF⟩ := hF
      refine y_lald (j := (Int32.toNatClampNeg (l4 - 1))) (q := 51) dX2_reachNext_50 g13 g14 rfl rfl ?_
      refine z_aload_n (q := 52) dX2_reachNext_51 rfl rfl rfl ?_
      obtain ⟨g15, hF⟩ := hF
      refine z_getR (c := 2) (k := 1) (r := (RX2, TX2, 8)) (q := 55) dX2_reachNext_52 rfl (by decide) fl_X2_16 rfl g1 g15 rfl ?_
      refine z_iload_n (q := 56) dX2_reachNext_55 rfl rfl rfl ?_
      obtain ⟨g16, hF⟩ := hF
      obtain ⟨g17, hF⟩ := hF
      refine y_lald (j := (Int32.toNatClampNeg l2)) (q := 57) dX2_reachNext_56 g16 g17 rfl rfl ?_
      refine z_lsub (q := 58) dX2_reachNext_57 rfl ?_
      refine z_aload_n (q := 59) dX2_reachNext_58 rfl rfl rfl ?_
      obtain ⟨g18, hF⟩ := hF
      refine z_getR (c := 2) (k := 2) (r := (RX2, TX2, 8)) (q := 62) dX2_reachNext_59 rfl (by decide) fl_X2_20 rfl g1 g18 rfl ?_
      refine z_iload (q := 64) dX2_reachNext_62 rfl rfl ?_
      obtain ⟨g19, hF⟩ := hF
      obtain ⟨g20, hF⟩ := hF
      refine y_lald (j := (Int32.toNatClampNeg l4)) (q := 65) dX2_reachNext_64 g19 g20 rfl rfl ?_
      refine z_lsub (q := 66) dX2_reachNext_65 rfl ?_
      refine z_nameJ (fun v21 ev22 => ?_)
      have hF := hF v21 ev22
      refine z_lstore (q := 68) (L' := [some (.ref l0), some (.int l1), some (.int l2), some (.int l3), some (.int l4), some (.long v21), none]) dX2_reachNext_66 (Nat.le_of_ble_eq_true rfl) rfl rfl rfl rfl ?_
      refine z_lload (q := 70) dX2_reachNext_68 rfl rfl ?_
      refine z_aload_n (q := 71) dX2_reachNext_70 rfl rfl rfl ?_
      obtain ⟨g23, hF⟩ := hF
      refine z_getR (c := 2) (k := 3) (r := (RX2, TX2, 8)) (q := 74) dX2_reachNext_71 rfl (by decide) fl_X2_23 rfl g1 g23 rfl ?_
      refine z_iload (q := 76) dX2_reachNext_74 rfl rfl ?_
      obtain ⟨g24, hF⟩ := hF
      obtain ⟨g25, hF⟩ := hF
      refine y_lald (j := (Int32.toNatClampNeg l4)) (q := 77) dX2_reachNext_76 g24 g25 rfl rfl ?_
      refine z_lcmp (q := 78) dX2_reachNext_77 rfl ?_
      refine z_if_ge (t := 98) (q := 81) dX2_reachNext_78 (by decide) rfl (fun hc => ?_) (fun hc => ?_)
      · have hF := hF.1 hc
        refine z_iload_n (q := 99) dX2_reachNext_98 rfl rfl rfl ?_
        refine z_if_eq (t := 119) (q := 102) dX2_reachNext_99 (by decide) rfl (fun hc => ?_) (fun hc => ?_)
        · have hF := hF.1 hc
          refine z_iload (q := 121) dX2_reachNext_119 rfl rfl ?_
          refine z_istore_n (q := 122) (L' := [some (.ref l0), some (.int l1), some (.int l2), some (.int l4), some (.int l4), some (.long v21), none]) dX2_reachNext_121 rfl (Nat.le_of_ble_eq_true rfl) rfl rfl rfl ?_
          refine z_iinc (q := 125) (v := (l4 + 1)) (L' := [some (.ref l0), some (.int l1), some (.int l2), some (.int l4), some (.int (l4 + 1)), some (.long v21), none]) dX2_reachNext_122 rfl rfl (Nat.le_of_ble_eq_true rfl) rfl rfl rfl ?_
          refine z_goto (q := 19) dX2_reachNext_125 (by decide) ?_
          refine Zt.drop (i := 5) (L' := [some (.ref l0), some (.int l1), some (.int l2), some (.int l4), some (.int (l4 + 1)), none, none]) rfl ?_
          exact hF
        · have hF := hF.2 hc
          refine z_aload_n (q := 103) dX2_reachNext_102 rfl rfl rfl ?_
          refine z_getR (c := 2) (k := 3) (r := (RX2, TX2, 8)) (q := 106) dX2_reachNext_103 rfl (by decide) fl_X2_23 rfl g1 g23 rfl ?_
          refine z_iload (q := 108) dX2_reachNext_106 rfl rfl ?_
          refine y_lald (j := (Int32.toNatClampNeg l4)) (q := 109) dX2_reachNext_108 g24 g25 rfl rfl ?_
          refine z_aload_n (q := 110) dX2_reachNext_109 rfl rfl rfl ?_
          refine z_getR (c := 2) (k := 3) (r := (RX2, TX2, 8)) (q := 113) dX2_reachNext_110 rfl (by decide) fl_X2_23 rfl g1 g23 rfl ?_
          refine z_iload_n (q := 114) dX2_reachNext_113 rfl rfl rfl ?_
          obtain ⟨g26, hF⟩ := hF
          refine y_lald (j := (Int32.toNatClampNeg l3)) (q := 115) dX2_reachNext_114 g24 g26 rfl rfl ?_
          refine z_lcmp (q := 116) dX2_reachNext_115 rfl ?_
          refine z_if_ge (t := 122) (q := 119) dX2_reachNext_116 (by decide) rfl (fun hc => ?_) (fun hc => ?_)
          · have hF := hF.1 hc
            refine z_iinc (q := 125) (v := (l4 + 1)) (L' := [some (.ref l0), some (.int l1), some (.int l2), some (.int l3), some (.int (l4 + 1)), some (.long v21), none]) dX2_reachNext_122 rfl rfl (Nat.le_of_ble_eq_true rfl) rfl rfl rfl ?_
            refine z_goto (q := 19) dX2_reachNext_125 (by decide) ?_
            refine Zt.drop (i := 5) (L' := [some (.ref l0), some (.int l1), some (.int l2), some (.int l3), some (.int (l4 + 1)), none, none]) rfl ?_
            exact hF
          · have hF := hF.2 hc
            refine z_iload (q := 121) dX2_reachNext_119 rfl rfl ?_
            refine z_istore_n (q := 122) (L' := [some (.ref l0), some (.int l1), some (.int l2), some (.int l4), some (.int l4), some (.long v21), none]) dX2_reachNext_121 rfl (Nat.le_of_ble_eq_true rfl) rfl rfl rfl ?_
            refine z_iinc (q := 125) (v := (l4 + 1)) (L' := [some (.ref l0), some (.int l1), some (.int l2), some (.int l4), some (.int (l4 + 1)), some (.long v21), none]) dX2_reachNext_122 rfl rfl (Nat.le_of_ble_eq_true rfl) rfl rfl rfl ?_
            refine z_goto (q := 19) dX2_reachNext_125 (by decide) ?_
            refine Zt.drop (i := 5) (L' := [some (.ref l0), some (.int l1), some (.int l2), some (.int l4), some (.int (l4 + 1)), none, none]) rfl ?_
            exact hF
      · have hF := hF.2 hc
        refine z_aload_n (q := 82) dX2_reachNext_81 rfl rfl rfl ?_
        refine z_getR (c := 2) (k := 3) (r := (RX2, TX2, 8)) (q := 85) dX2_reachNext_82 rfl (by decide) fl_X2_23 rfl g1 g23 rfl ?_
        refine z_iload (q := 87) dX2_reachNext_85 rfl rfl ?_
        refine z_lload (q := 89) dX2_reachNext_87 rfl rfl ?_
        refine y_last (j := (Int32.toNatClampNeg l4)) (q := 90) dX2_reachNext_89 g24 g25 rfl rfl ?_
        refine z_aload_n (q := 91) dX2_reachNext_90 rfl rfl rfl ?_
        obtain ⟨g27, hF⟩ := hF
        refine z_getR (c := 2) (k := 5) (r := (RX2, TX2, 8)) (q := 94) dX2_reachNext_91 rfl (by decide) fl_X2_30 rfl g1 g27 rfl ?_
        refine z_iload (q := 96) dX2_reachNext_94 rfl rfl ?_
        refine z_iload_n (q := 97) dX2_reachNext_96 rfl rfl rfl ?_
        obtain ⟨g28, hF⟩ := hF
        obtain ⟨g29, hF⟩ := hF
        refine y_iast (j := (Int32.toNatClampNeg l4)) (q := 98) dX2_reachNext_97 g28 g29 rfl rfl ?_
        refine z_iload_n (q := 99) dX2_reachNext_98 rfl rfl rfl ?_
        refine z_if_eq (t := 119) (q := 102) dX2_reachNext_99 (by decide) rfl (fun hc => ?_) (fun hc => ?_)
        · have hF := hF.1 hc
          refine z_iload (q := 121) dX2_reachNext_119 rfl rfl ?_
          refine z_istore_n (q := 122) (L' := [some (.ref l0), some (.int l1), some (.int l2), some (.int l4), some (.int l4), some (.long v21), none]) dX2_reachNext_121 rfl (Nat.le_of_ble_eq_true rfl) rfl rfl rfl ?_
          refine z_iinc (q := 125) (v := (l4 + 1)) (L' := [some (.ref l0), some (.int l1), some (.int l2), some (.int l4), some (.int (l4 + 1)), some (.long v21), none]) dX2_reachNext_122 rfl rfl (Nat.le_of_ble_eq_true rfl) rfl rfl rfl ?_
          refine z_goto (q := 19) dX2_reachNext_125 (by decide) ?_
          refine Zt.drop (i := 5) (L' := [some (.ref l0), some (.int l1), some (.int l2), some (.int l4), some (.int (l4 + 1)), none, none]) rfl ?_
          exact hF
        · have hF := hF.2 hc
          refine z_aload_n (q := 103) dX2_reachNext_102 rfl rfl rfl ?_
          refine z_getR (c := 2) (k := 3) (r := (RX2, TX2, 8)) (q := 106) dX2_reachNext_103 rfl (by decide) fl_X2_23 rfl g1 g23 rfl ?_
          refine z_iload (q := 108) dX2_reachNext_106 rfl rfl ?_
          refine z_nameH (fun h30 eh31 => ?_)
          have hF := hF h30 eh31
          obtain ⟨g32, hF⟩ := hF
          obtain ⟨g33, hF⟩ := hF
          refine y_lald (j := (Int32.toNatClampNeg l4)) (q := 109) dX2_reachNext_108 g32 g33 rfl rfl ?_
          refine z_aload_n (q := 110) dX2_reachNext_109 rfl rfl rfl ?_
          obtain ⟨g34, hF⟩ := hF
          obtain ⟨g35, hF⟩ := hF
          refine z_getR (c := 2) (k := 3) (r := (RX2, TX2, 8)) (q := 113) dX2_reachNext_110 rfl (by decide) fl_X2_23 rfl g34 g35 rfl ?_
          refine z_iload_n (q := 114) dX2_reachNext_113 rfl rfl rfl ?_
          obtain ⟨g36, hF⟩ := hF
          obtain ⟨g37, hF⟩ := hF
          refine y_lald (j := (Int32.toNatClampNeg l3)) (q := 115) dX2_reachNext_114 g36 g37 rfl rfl ?_
          refine z_lcmp (q := 116) dX2_reachNext_115 rfl ?_
          refine z_if_ge (t := 122) (q := 119) dX2_reachNext_116 (by decide) rfl (fun hc => ?_) (fun hc => ?_)
          · have hF := hF.1 hc
            refine z_iinc (q := 125) (v := (l4 + 1)) (L' := [some (.ref l0), some (.int l1), some (.int l2), some (.int l3), some (.int (l4 + 1)), some (.long v21), none]) dX2_reachNext_122 rfl rfl (Nat.le_of_ble_eq_true rfl) rfl rfl rfl ?_
            refine z_goto (q := 19) dX2_reachNext_125 (by decide) ?_
            refine Zt.drop (i := 5) (L' := [some (.ref l0), some (.int l1), some (.int l2), some (.int l3), some (.int (l4 + 1)), none, none]) rfl ?_
            exact hF
          · have hF := hF.2 hc
            refine z_iload (q := 121) dX2_reachNext_119 rfl rfl ?_
            refine z_istore_n (q := 122) (L' := [some (.ref l0), some (.int l1), some (.int l2), some (.int l4), some (.int l4), some (.long v21), none]) dX2_reachNext_121 rfl (Nat.le_of_ble_eq_true rfl) rfl rfl rfl ?_
            refine z_iinc (q := 125) (v := (l4 + 1)) (L' := [some (.ref l0), some (.int l1), some (.int l2), some (.int l4), some (.int (l4 + 1)), some (.long v21), none]) dX2_reachNext_122 rfl rfl (Nat.le_of_ble_eq_true rfl) rfl rfl rfl ?_
            refine z_goto (q := 19) dX2_reachNext_125 (by decide) ?_
            refine Zt.drop (i := 5) (L' := [some (.ref l0), some (.int l1), some (.int l2), some (.int l4), some (.int (l4 + 1)), none, none]) rfl ?_
            exact hF
set_option maxRecDepth 100000 in
set_option maxHeartbeats 4000000 in
theorem wX2_reachNext {ψ : Int32 → ZH → Prop} {l0 : Nat} {l1 : Int32} {h : ZH} (hF : (zK h l0 = 3) ∧ ((zR h l0 6) ≠ 0) ∧ (zK h (zR h l0 6) = 21) ∧ (vp_in l1 (zN h (zR h l0 6))) ∧ ((zR h l0 4) ≠ 0) ∧ ∀ h43 : ZH, h43 = (zsI h (zR h l0 6) (Int32.toNatClampNeg l1) 1) → (zK h43 (zR h l0 4) = 20) ∧ (vp_in l1 (zN h43 (zR h l0 4))) ∧ ∀ v47 : Int32, v47 = (zI h43 (zR h l0 4) (Int32.toNatClampNeg l1)) → Zt mX2_reachNext (zPI ψ) 0 0 19 [some (.ref l0), some (.int l1), some (.int v47), some (.int 0), some (.int 1), none, none] [] h43) : ZcI mX2_reachNext [.ref l0, .int l1] h ψ := by
  refine Zc.intro (L := [some (.ref l0), some (.int l1), none, none, none, none, none]) (show plainName RX2 = true by decide) rfl (Nat.le_of_ble_eq_true rfl) ?_
  show Zt _ _ 0 0 _ _ _ _
  refine z_aload_n (q := 1) dX2_reachNext_0 rfl rfl rfl ?_
  obtain ⟨g38, hF⟩ := hF
  obtain ⟨g39, hF⟩ := hF
  refine z_getR (c := 2) (k := 6) (r := (RX2, TX2, 8)) (q := 4) dX2_reachNext_1 rfl (by decide) fl_X2_33 rfl g38 g39 rfl ?_
  refine z_iload_n (q := 5) dX2_reachNext_4 rfl rfl rfl ?_
  refine z_iconst (q := 6) (v := 1) dX2_reachNext_5 (by decide) rfl ?_
  obtain ⟨g40, hF⟩ := hF
  obtain ⟨g41, hF⟩ := hF
  refine y_bast (j := (Int32.toNatClampNeg l1)) (q := 7) dX2_reachNext_6 g40 g41 (by decide) rfl rfl ?_
  refine z_aload_n (q := 8) dX2_reachNext_7 rfl rfl rfl ?_
  obtain ⟨g42, hF⟩ := hF
  refine z_getR (c := 2) (k := 4) (r := (RX2, TX2, 8)) (q := 11) dX2_reachNext_8 rfl (by decide) fl_X2_26 rfl g38 g42 rfl ?_
  refine z_iload_n (q := 12) dX2_reachNext_11 rfl rfl rfl ?_
  refine z_nameH (fun h43 eh44 => ?_)
  have hF := hF h43 eh44
  obtain ⟨g45, hF⟩ := hF
  obtain ⟨g46, hF⟩ := hF
  refine y_iald (j := (Int32.toNatClampNeg l1)) (q := 13) dX2_reachNext_12 (Or.inl g45) g46 rfl rfl ?_
  refine z_nameI (fun v47 ev48 => ?_)
  have hF := hF v47 ev48
  refine z_istore_n (q := 14) (L' := [some (.ref l0), some (.int l1), some (.int v47), none, none, none, none]) dX2_reachNext_13 rfl (Nat.le_of_ble_eq_true rfl) rfl rfl rfl ?_
  refine z_iconst (q := 15) (v := 0) dX2_reachNext_14 (by decide) rfl ?_
  refine z_istore_n (q := 16) (L' := [some (.ref l0), some (.int l1), some (.int v47), some (.int 0), none, none, none]) dX2_reachNext_15 rfl (Nat.le_of_ble_eq_true rfl) rfl rfl rfl ?_
  refine z_iconst (q := 17) (v := 1) dX2_reachNext_16 (by decide) rfl ?_
  refine z_istore (q := 19) (L' := [some (.ref l0), some (.int l1), some (.int v47), some (.int 0), some (.int 1), none, none]) dX2_reachNext_17 (Nat.le_of_ble_eq_true rfl) rfl rfl rfl ?_
  exact hF
set_option maxRecDepth 100000 in
set_option maxHeartbeats 4000000 in
theorem wX2_shiftWorths_2 {ψ : ZH → Prop} {l0 : Nat} {l1 : Int64} {l3 : Int32} {h : ZH} (hF : (zK h l0 = 3) ∧ (((zI h l0 7) < l3 → ψ h) ∧ (¬ (zI h l0 7) < l3 → ((zR h l0 6) ≠ 0) ∧ (zK h (zR h l0 6) = 21) ∧ (vp_in l3 (zN h (zR h l0 6))) ∧ (((zI h (zR h l0 6) (Int32.toNatClampNeg l3)) = 0 → ((zR h l0 3) ≠ 0) ∧ (zK h (zR h l0 3) = 22) ∧ (vp_in l3 (zN h (zR h l0 3))) ∧ Zt mX2_shiftWorths (zPV ψ) 0 0 2 [some (.ref l0), some (.long l1), none, some (.int (l3 + 1))] [] (zsL h (zR h l0 3) (Int32.toNatClampNeg l3) ((zL h (zR h l0 3) (Int32.toNatClampNeg l3)) - l1))) ∧ (¬ (zI h (zR h l0 6) (Int32.toNatClampNeg l3)) = 0 → ((zR h l0 1) ≠ 0) ∧ ((zR h l0 4) ≠ 0) ∧ (zK h (zR h l0 4) = 20) ∧ (vp_in l3 (zN h (zR h l0 4))) ∧ (zK h (zR h l0 1) = 22) ∧ (vp_in (zI h (zR h l0 4) (Int32.toNatClampNeg l3)) (zN h (zR h l0 1))) ∧ ((zR h l0 2) ≠ 0) ∧ ∀ h15 : ZH, h15 = (zsL h (zR h l0 1) (Int32.toNatClampNeg (zI h (zR h l0 4) (Int32.toNatClampNeg l3))) ((zL h (zR h l0 1) (Int32.toNatClampNeg (zI h (zR h l0 4) (Int32.toNatClampNeg l3)))) + l1)) → (zK h15 (zR h l0 2) = 22) ∧ (vp_in l3 (zN h15 (zR h l0 2))) ∧ Zt mX2_shiftWorths (zPV ψ) 0 0 2 [some (.ref l0), some (.long l1), none, some (.int (l3 + 1))] [] (zsL h15 (zR h l0 2) (Int32.toNatClampNeg l3) ((zL h15 (zR h l0 2) (Int32.toNatClampNeg l3)) - l1))))))) : Zt mX2_shiftWorths (zPV ψ) 0 0 2 [some (.ref l0), some (.long l1), none, some (.int l3)] [] h := by
  refine z_iload_n (q := 3) dX2_shiftWorths_2 rfl rfl rfl ?_
  refine z_aload_n (q := 4) dX2_shiftWorths_3 rfl rfl rfl ?_
  obtain ⟨g1, hF⟩ := hF
  refine z_getI (c := 2) (k := 7) (r := (RX2, TX2, 8)) (q := 7) dX2_shiftWorths_4 rfl (by decide) fl_X2_39 rfl g1 rfl ?_
  refine z_icmp_gt (t := 63) (q := 10) dX2_shiftWorths_7 (by decide) rfl (fun hc => ?_) (fun hc => ?_)
  · have hF := hF.1 hc
    exact z_return dX2_shiftWorths_63 rfl ⟨rfl, hF⟩
  · have hF := hF.2 hc
    refine z_aload_n (q := 11) dX2_shiftWorths_10 rfl rfl rfl ?_
    obtain ⟨g2, hF⟩ := hF
    refine z_getR (c := 2) (k := 6) (r := (RX2, TX2, 8)) (q := 14) dX2_shiftWorths_11 rfl (by decide) fl_X2_33 rfl g1 g2 rfl ?_
    refine z_iload_n (q := 15) dX2_shiftWorths_14 rfl rfl rfl ?_
    obtain ⟨g3, hF⟩ := hF
    obtain ⟨g4, hF⟩ := hF
    refine y_bald (j := (Int32.toNatClampNeg l3)) (q := 16) dX2_shiftWorths_15 g3 g4 rfl rfl ?_
    refine z_if_eq (t := 47) (q := 19) dX2_shiftWorths_16 (by decide) rfl (fun hc => ?_) (fun hc => ?_)
    · have hF := hF.1 hc
      refine z_aload_n (q := 48) dX2_shiftWorths_47 rfl rfl rfl ?_
      obtain ⟨g5, hF⟩ := hF
      refine z_getR (c := 2) (k := 3) (r := (RX2, TX2, 8)) (q := 51) dX2_shiftWorths_48 rfl (by decide) fl_X2_23 rfl g1 g5 rfl ?_
      refine z_iload_n (q := 52) dX2_shiftWorths_51 rfl rfl rfl ?_
      refine z_dup2 (q := 53) dX2_shiftWorths_52 rfl rfl rfl ?_
      obtain ⟨g6, hF⟩ := hF
      obtain ⟨g7, hF⟩ := hF
      refine y_lald (j := (Int32.toNatClampNeg l3)) (q := 54) dX2_shiftWorths_53 g6 g7 rfl rfl ?_
      refine z_lload_n (q := 55) dX2_shiftWorths_54 rfl rfl rfl ?_
      refine z_lsub (q := 56) dX2_shiftWorths_55 rfl ?_
      refine y_last (j := (Int32.toNatClampNeg l3)) (q := 57) dX2_shiftWorths_56 g6 g7 rfl rfl ?_
      refine z_iinc (q := 60) (v := (l3 + 1)) (L' := [some (.ref l0), some (.long l1), none, some (.int (l3 + 1))]) dX2_shiftWorths_57 rfl rfl (Nat.le_of_ble_eq_true rfl) rfl rfl rfl ?_
      refine z_goto (q := 2) dX2_shiftWorths_60 (by decide) ?_
      exact hF
    · have hF := hF.2 hc
      refine z_aload_n (q := 20) dX2_shiftWorths_19 rfl rfl rfl ?_
      obtain ⟨g8, hF⟩ := hF
      refine z_getR (c := 2) (k := 1) (r := (RX2, TX2, 8)) (q := 23) dX2_shiftWorths_20 rfl (by decide) fl_X2_16 rfl g1 g8 rfl ?_
      refine z_aload_n (q := 24) dX2_shiftWorths_23 rfl rfl rfl ?_
      obtain ⟨g9, hF⟩ := hF
      refine z_getR (c := 2) (k := 4) (r := (RX2, TX2, 8)) (q := 27) dX2_shiftWorths_24 rfl (by decide) fl_X2_26 rfl g1 g9 rfl ?_
      refine z_iload_n (q := 28) dX2_shiftWorths_27 rfl rfl rfl ?_
      obtain ⟨g10, hF⟩ := hF
      obtain ⟨g11, hF⟩ := hF
      refine y_iald (j := (Int32.toNatClampNeg l3)) (q := 29) dX2_shiftWorths_28 (Or.inl g10) g11 rfl rfl ?_
      refine z_dup2 (q := 30) dX2_shiftWorths_29 rfl rfl rfl ?_
      obtain ⟨g12, hF⟩ := hF
      obtain ⟨g13, hF⟩ := hF
      refine y_lald (j := (Int32.toNatClampNeg (zI h (zR h l0 4) (Int32.toNatClampNeg l3)))) (q := 31) dX2_shiftWorths_30 g12 g13 rfl rfl ?_
      refine z_lload_n (q := 32) dX2_shiftWorths_31 rfl rfl rfl ?_
      refine z_ladd (q := 33) dX2_shiftWorths_32 rfl ?_
      refine y_last (j := (Int32.toNatClampNeg (zI h (zR h l0 4) (Int32.toNatClampNeg l3)))) (q := 34) dX2_shiftWorths_33 g12 g13 rfl rfl ?_
      refine z_aload_n (q := 35) dX2_shiftWorths_34 rfl rfl rfl ?_
      obtain ⟨g14, hF⟩ := hF
      refine z_getR (c := 2) (k := 2) (r := (RX2, TX2, 8)) (q := 38) dX2_shiftWorths_35 rfl (by decide) fl_X2_20 rfl g1 g14 rfl ?_
      refine z_iload_n (q := 39) dX2_shiftWorths_38 rfl rfl rfl ?_
      refine z_dup2 (q := 40) dX2_shiftWorths_39 rfl rfl rfl ?_
      refine z_nameH (fun h15 eh16 => ?_)
      have hF := hF h15 eh16
      obtain ⟨g17, hF⟩ := hF
      obtain ⟨g18, hF⟩ := hF
      refine y_lald (j := (Int32.toNatClampNeg l3)) (q := 41) dX2_shiftWorths_40 g17 g18 rfl rfl ?_
      refine z_lload_n (q := 42) dX2_shiftWorths_41 rfl rfl rfl ?_
      refine z_lsub (q := 43) dX2_shiftWorths_42 rfl ?_
      refine y_last (j := (Int32.toNatClampNeg l3)) (q := 44) dX2_shiftWorths_43 g17 g18 rfl rfl ?_
      refine z_goto (q := 57) dX2_shiftWorths_44 (by decide) ?_
      refine z_iinc (q := 60) (v := (l3 + 1)) (L' := [some (.ref l0), some (.long l1), none, some (.int (l3 + 1))]) dX2_shiftWorths_57 rfl rfl (Nat.le_of_ble_eq_true rfl) rfl rfl rfl ?_
      refine z_goto (q := 2) dX2_shiftWorths_60 (by decide) ?_
      exact hF
set_option maxRecDepth 100000 in
set_option maxHeartbeats 4000000 in
theorem wX2_shiftWorths {ψ : ZH → Prop} {l0 : Nat} {l1 : Int64} {h : ZH} (hF : Zt mX2_shiftWorths (zPV ψ) 0 0 2 [some (.ref l0), some (.long l1), none, some (.int 0)] [] h) : ZcV mX2_shiftWorths [.ref l0, .long l1] h ψ := by
  refine Zc.intro (L := [some (.ref l0), some (.long l1), none, none]) (show plainName RX2 = true by decide) rfl (Nat.le_of_ble_eq_true rfl) ?_
  show Zt _ _ 0 0 _ _ _ _
  refine z_iconst (q := 1) (v := 0) dX2_shiftWorths_0 (by decide) rfl ?_
  refine z_istore_n (q := 2) (L' := [some (.ref l0), some (.long l1), none, some (.int 0)]) dX2_shiftWorths_1 rfl (Nat.le_of_ble_eq_true rfl) rfl rfl rfl ?_
  exact hF
set_option maxRecDepth 100000 in
set_option maxHeartbeats 4000000 in
theorem wX2_columnOf_2 {ψ : Int32 → ZH → Prop} {l0 : Nat} {l1 : Int32} {l2 : Int32} {h : ZH} (hF : (zK h l0 = 3) ∧ (((zI h l0 7) ≤ l2 → ψ ((zI h l0 7) - 1) h) ∧ (¬ (zI h l0 7) ≤ l2 → ((zR h l0 4) ≠ 0) ∧ (zK h (zR h l0 4) = 20) ∧ (vp_in l2 (zN h (zR h l0 4))) ∧ ((¬ (zI h (zR h l0 4) (Int32.toNatClampNeg l2)) = (l1 + 1) → Zt mX2_columnOf (zPI ψ) 0 0 2 [some (.ref l0), some (.int l1), some (.int (l2 + 1))] [] h) ∧ ((zI h (zR h l0 4) (Int32.toNatClampNeg l2)) = (l1 + 1) → ψ (l2 - 1) h))))) : Zt mX2_columnOf (zPI ψ) 0 0 2 [some (.ref l0), some (.int l1), some (.int l2)] [] h := by
  refine z_iload_n (q := 3) dX2_columnOf_2 rfl rfl rfl ?_
  refine z_aload_n (q := 4) dX2_columnOf_3 rfl rfl rfl ?_
  obtain ⟨g1, hF⟩ := hF
  refine z_getI (c := 2) (k := 7) (r := (RX2, TX2, 8)) (q := 7) dX2_columnOf_4 rfl (by decide) fl_X2_39 rfl g1 rfl ?_
  refine z_icmp_ge (t := 32) (q := 10) dX2_columnOf_7 (by decide) rfl (fun hc => ?_) (fun hc => ?_)
  · have hF := hF.1 hc
    refine z_aload_n (q := 33) dX2_columnOf_32 rfl rfl rfl ?_
    refine z_getI (c := 2) (k := 7) (r := (RX2, TX2, 8)) (q := 36) dX2_columnOf_33 rfl (by decide) fl_X2_39 rfl g1 rfl ?_
    refine z_iconst (q := 37) (v := 1) dX2_columnOf_36 (by decide) rfl ?_
    refine z_isub (q := 38) dX2_columnOf_37 rfl ?_
    exact z_ireturn dX2_columnOf_38 rfl ⟨_, rfl, hF⟩
  · have hF := hF.2 hc
    refine z_aload_n (q := 11) dX2_columnOf_10 rfl rfl rfl ?_
    obtain ⟨g2, hF⟩ := hF
    refine z_getR (c := 2) (k := 4) (r := (RX2, TX2, 8)) (q := 14) dX2_columnOf_11 rfl (by decide) fl_X2_26 rfl g1 g2 rfl ?_
    refine z_iload_n (q := 15) dX2_columnOf_14 rfl rfl rfl ?_
    obtain ⟨g3, hF⟩ := hF
    obtain ⟨g4, hF⟩ := hF
    refine y_iald (j := (Int32.toNatClampNeg l2)) (q := 16) dX2_columnOf_15 (Or.inl g3) g4 rfl rfl ?_
    refine z_iload_n (q := 17) dX2_columnOf_16 rfl rfl rfl ?_
    refine z_iconst (q := 18) (v := 1) dX2_columnOf_17 (by decide) rfl ?_
    refine z_iadd (q := 19) dX2_columnOf_18 rfl ?_
    refine z_icmp_ne (t := 26) (q := 22) dX2_columnOf_19 (by decide) rfl (fun hc => ?_) (fun hc => ?_)
    · have hF := hF.1 hc
      refine z_iinc (q := 29) (v := (l2 + 1)) (L' := [some (.ref l0), some (.int l1), some (.int (l2 + 1))]) dX2_columnOf_26 rfl rfl (Nat.le_of_ble_eq_true rfl) rfl rfl rfl ?_
      refine z_goto (q := 2) dX2_columnOf_29 (by decide) ?_
      exact hF
    · have hF := hF.2 hc
      refine z_iload_n (q := 23) dX2_columnOf_22 rfl rfl rfl ?_
      refine z_iconst (q := 24) (v := 1) dX2_columnOf_23 (by decide) rfl ?_
      refine z_isub (q := 25) dX2_columnOf_24 rfl ?_
      exact z_ireturn dX2_columnOf_25 rfl ⟨_, rfl, hF⟩
set_option maxRecDepth 100000 in
set_option maxHeartbeats 4000000 in
theorem wX2_columnOf {ψ : Int32 → ZH → Prop} {l0 : Nat} {l1 : Int32} {h : ZH} (hF : Zt mX2_columnOf (zPI ψ) 0 0 2 [some (.ref l0), some (.int l1), some (.int 1)] [] h) : ZcI mX2_columnOf [.ref l0, .int l1] h ψ := by
  refine Zc.intro (L := [some (.ref l0), some (.int l1), none]) (show plainName RX2 = true by decide) rfl (Nat.le_of_ble_eq_true rfl) ?_
  show Zt _ _ 0 0 _ _ _ _
  refine z_iconst (q := 1) (v := 1) dX2_columnOf_0 (by decide) rfl ?_
  refine z_istore_n (q := 2) (L' := [some (.ref l0), some (.int l1), some (.int 1)]) dX2_columnOf_1 rfl (Nat.le_of_ble_eq_true rfl) rfl rfl rfl ?_
  exact hF
