set_option maxRecDepth 100000 in
set_option maxHeartbeats 4000000 in
theorem wX4_init {ψ : ZH → Prop} {l0 : Nat} {l1 : Nat} {l2 : Int32} {l3 : Int32} {l4 : Int32} {h : ZH} (hF : ∃ a1 : Nat, a1 ≠ 0 ∧ zK h a1 = 0 ∧ ∀ h4 : ZH, h4 = (zmk h a1 20 3) → (zK h4 l0 = 5) ∧ ψ (zsI (zsI (zsI (zsR (zsI (zsI (zsR h4 l0 4 a1) l0 5 1) l0 7 99) l0 0 l1) l0 1 l2) l0 2 l3) l0 3 l4)) : ZcV mX4_init [.ref l0, .ref l1, .int l2, .int l3, .int l4] h ψ := by
  refine Zc.intro (L := [some (.ref l0), some (.ref l1), some (.int l2), some (.int l3), some (.int l4)]) (show plainName RX4 = true by decide) rfl (Nat.le_of_ble_eq_true rfl) ?_
  show Zt _ _ 1 3 _ _ _ _
  refine z_aload_n (q := 1) dX4_init_0 rfl rfl rfl ?_
  refine z_objInit (q := 4) dX4_init_1 ow_X4_3 (Nat.le_of_ble_eq_true rfl) (by decide) rfl ?_
  refine z_aload_n (q := 5) dX4_init_4 rfl rfl rfl ?_
  refine z_iconst (q := 6) (v := 3) dX4_init_5 (by decide) rfl ?_
  obtain ⟨a1, g2, g3, hF⟩ := hF
  refine z_newa (rc := 0) (rs := 0) (a := a1) (kd := 20) (N := 3) (q := 8) dX4_init_6 rfl (by decide) ac_20 (by decide) (by decide) (by decide) g2 g3 rfl ?_
  refine z_nameH (fun h4 eh5 => ?_)
  have hF := hF h4 eh5
  obtain ⟨g6, hF⟩ := hF
  refine z_putRF (c := 4) (k := 4) (r := (RX4, TX4, 8)) (q := 11) dX4_init_8 rfl (by decide) fw_X4_9 rfl rfl rfl rfl g6 rfl ?_
  refine z_aload_n (q := 12) dX4_init_11 rfl rfl rfl ?_
  refine z_iconst (q := 13) (v := 1) dX4_init_12 (by decide) rfl ?_
  refine z_putZ (c := 4) (k := 5) (r := (RX4, TX4, 8)) (q := 16) dX4_init_13 rfl (by decide) fl_X4_15 rfl rfl (by decide) g6 rfl ?_
  refine z_aload_n (q := 17) dX4_init_16 rfl rfl rfl ?_
  refine z_bipush (q := 19) (v := 99) dX4_init_17 (by decide) rfl ?_
  refine z_putI (c := 4) (k := 7) (r := (RX4, TX4, 8)) (q := 22) dX4_init_19 rfl (by decide) fl_X4_19 rfl rfl g6 rfl ?_
  refine z_aload_n (q := 23) dX4_init_22 rfl rfl rfl ?_
  refine z_aload_n (q := 24) dX4_init_23 rfl rfl rfl ?_
  refine z_putRF (c := 4) (k := 0) (r := (RX4, TX4, 8)) (q := 27) dX4_init_24 rfl (by decide) fw_X4_23 rfl rfl rfl rfl g6 rfl ?_
  refine z_aload_n (q := 28) dX4_init_27 rfl rfl rfl ?_
  refine z_iload_n (q := 29) dX4_init_28 rfl rfl rfl ?_
  refine z_putIF (c := 4) (k := 1) (r := (RX4, TX4, 8)) (q := 32) dX4_init_29 rfl (by decide) fw_X4_27 rfl rfl rfl rfl g6 rfl ?_
  refine z_aload_n (q := 33) dX4_init_32 rfl rfl rfl ?_
  refine z_iload_n (q := 34) dX4_init_33 rfl rfl rfl ?_
  refine z_putIF (c := 4) (k := 2) (r := (RX4, TX4, 8)) (q := 37) dX4_init_34 rfl (by decide) fw_X4_30 rfl rfl rfl rfl g6 rfl ?_
  refine z_aload_n (q := 38) dX4_init_37 rfl rfl rfl ?_
  refine z_iload (q := 40) dX4_init_38 rfl rfl ?_
  refine z_putIF (c := 4) (k := 3) (r := (RX4, TX4, 8)) (q := 43) dX4_init_40 rfl (by decide) fw_X4_33 rfl rfl rfl rfl g6 rfl ?_
  exact z_return dX4_init_43 rfl ⟨rfl, hF⟩
set_option maxRecDepth 100000 in
set_option maxHeartbeats 4000000 in
theorem wX4_shut_7 {ψ : ZH → Prop} {l0 : Nat} {l1 : Int32} {h : ZH} (hF : ((3 ≤ l1 → ψ h) ∧ (¬ 3 ≤ l1 → (zK h l0 = 5) ∧ ((zR h l0 4) ≠ 0) ∧ (zK h (zR h l0 4) = 20) ∧ (vp_in l1 (zN h (zR h l0 4))) ∧ Zt mX4_shut (zPV ψ) 0 0 7 [some (.ref l0), some (.int (l1 + 1))] [] (zsI h (zR h l0 4) (Int32.toNatClampNeg l1) 0)))) : Zt mX4_shut (zPV ψ) 0 0 7 [some (.ref l0), some (.int l1)] [] h := by
  refine z_iload_n (q := 8) dX4_shut_7 rfl rfl rfl ?_
  refine z_iconst (q := 9) (v := 3) dX4_shut_8 (by decide) rfl ?_
  refine z_icmp_ge (t := 25) (q := 12) dX4_shut_9 (by decide) rfl (fun hc => ?_) (fun hc => ?_)
  · have hF := hF.1 hc
    exact z_return dX4_shut_25 rfl ⟨rfl, hF⟩
  · have hF := hF.2 hc
    refine z_aload_n (q := 13) dX4_shut_12 rfl rfl rfl ?_
    obtain ⟨g1, hF⟩ := hF
    obtain ⟨g2, hF⟩ := hF
    refine z_getR (c := 4) (k := 4) (r := (RX4, TX4, 8)) (q := 16) dX4_shut_13 rfl (by decide) fl_X4_9 rfl g1 g2 rfl ?_
    refine z_iload_n (q := 17) dX4_shut_16 rfl rfl rfl ?_
    refine z_iconst (q := 18) (v := 0) dX4_shut_17 (by decide) rfl ?_
    obtain ⟨g3, hF⟩ := hF
    obtain ⟨g4, hF⟩ := hF
    refine y_iast (j := (Int32.toNatClampNeg l1)) (q := 19) dX4_shut_18 g3 g4 rfl rfl ?_
    refine z_iinc (q := 22) (v := (l1 + 1)) (L' := [some (.ref l0), some (.int (l1 + 1))]) dX4_shut_19 rfl rfl (Nat.le_of_ble_eq_true rfl) rfl rfl rfl ?_
    refine z_goto (q := 7) dX4_shut_22 (by decide) ?_
    exact hF
set_option maxRecDepth 100000 in
set_option maxHeartbeats 4000000 in
theorem wX4_shut {ψ : ZH → Prop} {l0 : Nat} {h : ZH} (hF : (zK h l0 = 5) ∧ Zt mX4_shut (zPV ψ) 0 0 7 [some (.ref l0), some (.int 0)] [] (zsI h l0 5 0)) : ZcV mX4_shut [.ref l0] h ψ := by
  refine Zc.intro (L := [some (.ref l0), none]) (show plainName RX4 = true by decide) rfl (Nat.le_of_ble_eq_true rfl) ?_
  show Zt _ _ 0 0 _ _ _ _
  refine z_aload_n (q := 1) dX4_shut_0 rfl rfl rfl ?_
  refine z_iconst (q := 2) (v := 0) dX4_shut_1 (by decide) rfl ?_
  obtain ⟨g5, hF⟩ := hF
  refine z_putZ (c := 4) (k := 5) (r := (RX4, TX4, 8)) (q := 5) dX4_shut_2 rfl (by decide) fl_X4_15 rfl rfl (by decide) g5 rfl ?_
  refine z_iconst (q := 6) (v := 0) dX4_shut_5 (by decide) rfl ?_
  refine z_istore_n (q := 7) (L' := [some (.ref l0), some (.int 0)]) dX4_shut_6 rfl (Nat.le_of_ble_eq_true rfl) rfl rfl rfl ?_
  exact hF
