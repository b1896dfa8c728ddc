set_option maxRecDepth 100000 in
set_option maxHeartbeats 4000000 in
theorem wX7_init {ψ : ZH → Prop} {l0 : Nat} {h : ZH} (hF : ∃ a1 : Nat, a1 ≠ 0 ∧ zK h a1 = 0 ∧ ∀ h4 : ZH, h4 = (zmk h a1 20 12) → (zK h4 l0 = 8) ∧ ∃ a7 : Nat, a7 ≠ 0 ∧ zK h4 a7 = 0 ∧ ∀ h10 : ZH, h10 = (zmk (zsR h4 l0 0 a1) a7 20 12) → (zK h10 l0 = 8) ∧ ∃ a13 : Nat, a13 ≠ 0 ∧ zK h10 a13 = 0 ∧ ∀ h16 : ZH, h16 = (zmk (zsR h10 l0 1 a7) a13 20 9) → (zK h16 l0 = 8) ∧ ∃ a19 : Nat, a19 ≠ 0 ∧ zK h16 a19 = 0 ∧ ∀ h22 : ZH, h22 = (zmk (zsR h16 l0 3 a13) a19 20 9) → (zK h22 l0 = 8) ∧ ∃ a25 : Nat, a25 ≠ 0 ∧ zK h22 a25 = 0 ∧ ∀ h28 : ZH, h28 = (zmk (zsR h22 l0 5 a19) a25 3 0) → ZcV mX2_init [.ref a25] h28 (fun h30 => (zK h30 l0 = 8) ∧ ψ (zsR h30 l0 6 a25))) : ZcV mX7_init [.ref l0] h ψ := by
  refine Zc.intro (L := [some (.ref l0)]) (show plainName RX7 = true by decide) rfl (Nat.le_of_ble_eq_true rfl) ?_
  show Zt _ _ 21 368 _ _ _ _
  refine z_aload_n (q := 1) dX7_init_0 rfl rfl rfl ?_
  refine z_objInit (q := 4) dX7_init_1 ow_X7_3 (Nat.le_of_ble_eq_true rfl) (by decide) rfl ?_
  refine z_aload_n (q := 5) dX7_init_4 rfl rfl rfl ?_
  refine z_bipush (q := 7) (v := 12) dX7_init_5 (by decide) rfl ?_
  obtain ⟨a1, g2, g3, hF⟩ := hF
  refine z_newa (rc := 20) (rs := 356) (a := a1) (kd := 20) (N := 12) (q := 9) dX7_init_7 rfl (by decide) ac_20 (by decide) (by decide) (by decide) g2 g3 rfl ?_
  refine z_nameH (fun h4 eh5 => ?_)
  have hF := hF h4 eh5
  obtain ⟨g6, hF⟩ := hF
  refine z_putRF (c := 7) (k := 0) (r := (RX7, TX7, 11)) (q := 12) dX7_init_9 rfl (by decide) fw_X7_9 rfl rfl rfl rfl g6 rfl ?_
  refine z_aload_n (q := 13) dX7_init_12 rfl rfl rfl ?_
  refine z_bipush (q := 15) (v := 12) dX7_init_13 (by decide) rfl ?_
  obtain ⟨a7, g8, g9, hF⟩ := hF
  refine z_newa (rc := 19) (rs := 344) (a := a7) (kd := 20) (N := 12) (q := 17) dX7_init_15 rfl (by decide) ac_20 (by decide) (by decide) (by decide) g8 g9 rfl ?_
  refine z_nameH (fun h10 eh11 => ?_)
  have hF := hF h10 eh11
  obtain ⟨g12, hF⟩ := hF
  refine z_putRF (c := 7) (k := 1) (r := (RX7, TX7, 11)) (q := 20) dX7_init_17 rfl (by decide) fw_X7_15 rfl rfl rfl rfl g12 rfl ?_
  refine z_aload_n (q := 21) dX7_init_20 rfl rfl rfl ?_
  refine z_bipush (q := 23) (v := 9) dX7_init_21 (by decide) rfl ?_
  obtain ⟨a13, g14, g15, hF⟩ := hF
  refine z_newa (rc := 18) (rs := 335) (a := a13) (kd := 20) (N := 9) (q := 25) dX7_init_23 rfl (by decide) ac_20 (by decide) (by decide) (by decide) g14 g15 rfl ?_
  refine z_nameH (fun h16 eh17 => ?_)
  have hF := hF h16 eh17
  obtain ⟨g18, hF⟩ := hF
  refine z_putRF (c := 7) (k := 3) (r := (RX7, TX7, 11)) (q := 28) dX7_init_25 rfl (by decide) fw_X7_18 rfl rfl rfl rfl g18 rfl ?_
  refine z_aload_n (q := 29) dX7_init_28 rfl rfl rfl ?_
  refine z_bipush (q := 31) (v := 9) dX7_init_29 (by decide) rfl ?_
  obtain ⟨a19, g20, g21, hF⟩ := hF
  refine z_newa (rc := 17) (rs := 326) (a := a19) (kd := 20) (N := 9) (q := 33) dX7_init_31 rfl (by decide) ac_20 (by decide) (by decide) (by decide) g20 g21 rfl ?_
  refine z_nameH (fun h22 eh23 => ?_)
  have hF := hF h22 eh23
  obtain ⟨g24, hF⟩ := hF
  refine z_putRF (c := 7) (k := 5) (r := (RX7, TX7, 11)) (q := 36) dX7_init_33 rfl (by decide) fw_X7_21 rfl rfl rfl rfl g24 rfl ?_
  refine z_aload_n (q := 37) dX7_init_36 rfl rfl rfl ?_
  obtain ⟨a25, g26, g27, hF⟩ := hF
  refine z_new (rc := 16) (rs := 318) (a := a25) (c := 2) (r := (RX2, TX2, 8)) (q := 40) dX7_init_37 rfl cl_X7_24 ni_X2 ii_X2 g26 g27 rfl ?_
  refine z_nameH (fun h28 eh29 => ?_)
  have hF := hF h28 eh29
  refine z_dup (q := 41) dX7_init_40 rfl rfl ?_
  refine z_callCV (rc := 0) (rs := 0) (b := a25) (av := []) (q := 44) hF dX7_init_41 ml_X7_26 ok_X2_init rfl in_X2_init rfl rfl (Nat.le_of_ble_eq_true rfl) (by decide) (Nat.le_of_ble_eq_true rfl) rfl rfl rfl rfl (fun h30 hF => ?_)
  obtain ⟨g31, hF⟩ := hF
  refine z_putRF (c := 7) (k := 6) (r := (RX7, TX7, 11)) (q := 47) dX7_init_44 rfl (by decide) fw_X7_27 rfl rfl rfl rfl g31 rfl ?_
  exact z_return dX7_init_47 rfl ⟨rfl, hF⟩
set_option maxRecDepth 100000 in
set_option maxHeartbeats 4000000 in
theorem wX7_clear {ψ : ZH → Prop} {l0 : Nat} {h : ZH} (hF : (zK h l0 = 8) ∧ ψ (zsI (zsI (zsI h l0 2 0) l0 4 0) l0 7 0)) : ZcV mX7_clear [.ref l0] h ψ := by
  refine Zc.intro (L := [some (.ref l0)]) (show plainName RX7 = true by decide) rfl (Nat.le_of_ble_eq_true rfl) ?_
  show Zt _ _ 0 0 _ _ _ _
  refine z_aload_n (q := 1) dX7_clear_0 rfl rfl rfl ?_
  refine z_iconst (q := 2) (v := 0) dX7_clear_1 (by decide) rfl ?_
  obtain ⟨g1, hF⟩ := hF
  refine z_putI (c := 7) (k := 2) (r := (RX7, TX7, 11)) (q := 5) dX7_clear_2 rfl (by decide) fl_X7_31 rfl rfl g1 rfl ?_
  refine z_aload_n (q := 6) dX7_clear_5 rfl rfl rfl ?_
  refine z_iconst (q := 7) (v := 0) dX7_clear_6 (by decide) rfl ?_
  refine z_putI (c := 7) (k := 4) (r := (RX7, TX7, 11)) (q := 10) dX7_clear_7 rfl (by decide) fl_X7_35 rfl rfl g1 rfl ?_
  refine z_aload_n (q := 11) dX7_clear_10 rfl rfl rfl ?_
  refine z_iconst (q := 12) (v := 0) dX7_clear_11 (by decide) rfl ?_
  refine z_putI (c := 7) (k := 7) (r := (RX7, TX7, 11)) (q := 15) dX7_clear_12 rfl (by decide) fl_X7_38 rfl rfl g1 rfl ?_
  exact z_return dX7_clear_15 rfl ⟨rfl, hF⟩
set_option maxRecDepth 100000 in
set_option maxHeartbeats 4000000 in
theorem wX7_addSlots_10 {ψ : ZH → Prop} {l0 : Nat} {l1 : Int32} {l2 : Nat} {l3 : Int32} {l4 : Int32} {h : ZH} (hF : (zK h l2 = 20) ∧ (vp_in l3 (zN h l2)) ∧ (((zI h l2 (Int32.toNatClampNeg l3)) ≤ l4 → Zt mX7_addSlots (zPV ψ) 0 0 2 [some (.ref l0), some (.int l1), some (.ref l2), some (.int (l3 + 1)), none] [] h) ∧ (¬ (zI h l2 (Int32.toNatClampNeg l3)) ≤ l4 → (zK h l0 = 8) ∧ ((12 ≤ (zI h l0 2) → Zt mX7_addSlots (zPV ψ) 0 0 2 [some (.ref l0), some (.int l1), some (.ref l2), some (.int (l3 + 1)), none] [] h) ∧ (¬ 12 ≤ (zI h l0 2) → ((zR h l0 0) ≠ 0) ∧ (zK h (zR h l0 0) = 20) ∧ (vp_in (zI h l0 2) (zN h (zR h l0 0))) ∧ ((zR h l0 1) ≠ 0) ∧ ∀ h8 : ZH, h8 = (zsI h (zR h l0 0) (Int32.toNatClampNeg (zI h l0 2)) l1) → (zK h8 l0 = 8) ∧ (zK h8 (zR h l0 1) = 20) ∧ (vp_in (zI h8 l0 2) (zN h8 (zR h l0 1))) ∧ ∀ h13 : ZH, h13 = (zsI h8 (zR h l0 1) (Int32.toNatClampNeg (zI h8 l0 2)) l3) → (zK h13 l0 = 8) ∧ Zt mX7_addSlots (zPV ψ) 0 0 10 [some (.ref l0), some (.int l1), some (.ref l2), some (.int l3), some (.int (l4 + 1))] [] (zsI h13 l0 2 ((zI h13 l0 2) + 1))))))) : Zt mX7_addSlots (zPV ψ) 0 0 10 [some (.ref l0), some (.int l1), some (.ref l2), some (.int l3), some (.int l4)] [] h := by
  refine z_iload (q := 12) dX7_addSlots_10 rfl rfl ?_
  refine z_aload_n (q := 13) dX7_addSlots_12 rfl rfl rfl ?_
  refine z_iload_n (q := 14) dX7_addSlots_13 rfl rfl rfl ?_
  obtain ⟨g1, hF⟩ := hF
  obtain ⟨g2, hF⟩ := hF
  refine y_iald (j := (Int32.toNatClampNeg l3)) (q := 15) dX7_addSlots_14 (Or.inl g1) g2 rfl rfl ?_
  refine z_icmp_ge (t := 63) (q := 18) dX7_addSlots_15 (by decide) rfl (fun hc => ?_) (fun hc => ?_)
  · have hF := hF.1 hc
    refine z_iinc (q := 66) (v := (l3 + 1)) (L' := [some (.ref l0), some (.int l1), some (.ref l2), some (.int (l3 + 1)), some (.int l4)]) dX7_addSlots_63 rfl rfl (Nat.le_of_ble_eq_true rfl) rfl rfl rfl ?_
    refine z_goto (q := 2) dX7_addSlots_66 (by decide) ?_
    refine Zt.drop (i := 4) (L' := [some (.ref l0), some (.int l1), some (.ref l2), some (.int (l3 + 1)), none]) rfl ?_
    exact hF
  · have hF := hF.2 hc
    refine z_aload_n (q := 19) dX7_addSlots_18 rfl rfl rfl ?_
    obtain ⟨g3, hF⟩ := hF
    refine z_getI (c := 7) (k := 2) (r := (RX7, TX7, 11)) (q := 22) dX7_addSlots_19 rfl (by decide) fl_X7_31 rfl g3 rfl ?_
    refine z_bipush (q := 24) (v := 12) dX7_addSlots_22 (by decide) rfl ?_
    refine z_icmp_ge (t := 63) (q := 27) dX7_addSlots_24 (by decide) rfl (fun hc => ?_) (fun hc => ?_)
    · have hF := hF.1 hc
      refine z_iinc (q := 66) (v := (l3 + 1)) (L' := [some (.ref l0), some (.int l1), some (.ref l2), some (.int (l3 + 1)), some (.int l4)]) dX7_addSlots_63 rfl rfl (Nat.le_of_ble_eq_true rfl) rfl rfl rfl ?_
      refine z_goto (q := 2) dX7_addSlots_66 (by decide) ?_
      refine Zt.drop (i := 4) (L' := [some (.ref l0), some (.int l1), some (.ref l2), some (.int (l3 + 1)), none]) rfl ?_
      exact hF
    · have hF := hF.2 hc
      refine z_aload_n (q := 28) dX7_addSlots_27 rfl rfl rfl ?_
      obtain ⟨g4, hF⟩ := hF
      refine z_getR (c := 7) (k := 0) (r := (RX7, TX7, 11)) (q := 31) dX7_addSlots_28 rfl (by decide) fl_X7_9 rfl g3 g4 rfl ?_
      refine z_aload_n (q := 32) dX7_addSlots_31 rfl rfl rfl ?_
      refine z_getI (c := 7) (k := 2) (r := (RX7, TX7, 11)) (q := 35) dX7_addSlots_32 rfl (by decide) fl_X7_31 rfl g3 rfl ?_
      refine z_iload_n (q := 36) dX7_addSlots_35 rfl rfl rfl ?_
      obtain ⟨g5, hF⟩ := hF
      obtain ⟨g6, hF⟩ := hF
      refine y_iast (j := (Int32.toNatClampNeg (zI h l0 2))) (q := 37) dX7_addSlots_36 g5 g6 rfl rfl ?_
      refine z_aload_n (q := 38) dX7_addSlots_37 rfl rfl rfl ?_
      obtain ⟨g7, hF⟩ := hF
      refine z_getR (c := 7) (k := 1) (r := (RX7, TX7, 11)) (q := 41) dX7_addSlots_38 rfl (by decide) fl_X7_15 rfl g3 g7 rfl ?_
      refine z_aload_n (q := 42) dX7_addSlots_41 rfl rfl rfl ?_
      refine z_nameH (fun h8 eh9 => ?_)
      have hF := hF h8 eh9
      obtain ⟨g10, hF⟩ := hF
      refine z_getI (c := 7) (k := 2) (r := (RX7, TX7, 11)) (q := 45) dX7_addSlots_42 rfl (by decide) fl_X7_31 rfl g10 rfl ?_
      refine z_iload_n (q := 46) dX7_addSlots_45 rfl rfl rfl ?_
      obtain ⟨g11, hF⟩ := hF
      obtain ⟨g12, hF⟩ := hF
      refine y_iast (j := (Int32.toNatClampNeg (zI h8 l0 2))) (q := 47) dX7_addSlots_46 g11 g12 rfl rfl ?_
      refine z_aload_n (q := 48) dX7_addSlots_47 rfl rfl rfl ?_
      refine z_dup (q := 49) dX7_addSlots_48 rfl rfl ?_
      refine z_nameH (fun h13 eh14 => ?_)
      have hF := hF h13 eh14
      obtain ⟨g15, hF⟩ := hF
      refine z_getI (c := 7) (k := 2) (r := (RX7, TX7, 11)) (q := 52) dX7_addSlots_49 rfl (by decide) fl_X7_31 rfl g15 rfl ?_
      refine z_iconst (q := 53) (v := 1) dX7_addSlots_52 (by decide) rfl ?_
      refine z_iadd (q := 54) dX7_addSlots_53 rfl ?_
      refine z_putI (c := 7) (k := 2) (r := (RX7, TX7, 11)) (q := 57) dX7_addSlots_54 rfl (by decide) fl_X7_31 rfl rfl g15 rfl ?_
      refine z_iinc (q := 60) (v := (l4 + 1)) (L' := [some (.ref l0), some (.int l1), some (.ref l2), some (.int l3), some (.int (l4 + 1))]) dX7_addSlots_57 rfl rfl (Nat.le_of_ble_eq_true rfl) rfl rfl rfl ?_
      refine z_goto (q := 10) dX7_addSlots_60 (by decide) ?_
      exact hF
set_option maxRecDepth 100000 in
set_option maxHeartbeats 4000000 in
theorem wX7_addSlots_2 {ψ : ZH → Prop} {l0 : Nat} {l1 : Int32} {l2 : Nat} {l3 : Int32} {h : ZH} (hF : ((3 ≤ l3 → ψ h) ∧ (¬ 3 ≤ l3 → Zt mX7_addSlots (zPV ψ) 0 0 10 [some (.ref l0), some (.int l1), some (.ref l2), some (.int l3), some (.int 0)] [] h))) : Zt mX7_addSlots (zPV ψ) 0 0 2 [some (.ref l0), some (.int l1), some (.ref l2), some (.int l3), none] [] h := by
  refine z_iload_n (q := 3) dX7_addSlots_2 rfl rfl rfl ?_
  refine z_iconst (q := 4) (v := 3) dX7_addSlots_3 (by decide) rfl ?_
  refine z_icmp_ge (t := 69) (q := 7) dX7_addSlots_4 (by decide) rfl (fun hc => ?_) (fun hc => ?_)
  · have hF := hF.1 hc
    exact z_return dX7_addSlots_69 rfl ⟨rfl, hF⟩
  · have hF := hF.2 hc
    refine z_iconst (q := 8) (v := 0) dX7_addSlots_7 (by decide) rfl ?_
    refine z_istore (q := 10) (L' := [some (.ref l0), some (.int l1), some (.ref l2), some (.int l3), some (.int 0)]) dX7_addSlots_8 (Nat.le_of_ble_eq_true rfl) rfl rfl rfl ?_
    exact hF
set_option maxRecDepth 100000 in
set_option maxHeartbeats 4000000 in
theorem wX7_addSlots {ψ : ZH → Prop} {l0 : Nat} {l1 : Int32} {l2 : Nat} {h : ZH} (hF : Zt mX7_addSlots (zPV ψ) 0 0 2 [some (.ref l0), some (.int l1), some (.ref l2), some (.int 0), none] [] h) : ZcV mX7_addSlots [.ref l0, .int l1, .ref l2] h ψ := by
  refine Zc.intro (L := [some (.ref l0), some (.int l1), some (.ref l2), none, none]) (show plainName RX7 = true by decide) rfl (Nat.le_of_ble_eq_true rfl) ?_
  show Zt _ _ 0 0 _ _ _ _
  refine z_iconst (q := 1) (v := 0) dX7_addSlots_0 (by decide) rfl ?_
  refine z_istore_n (q := 2) (L' := [some (.ref l0), some (.int l1), some (.ref l2), some (.int 0), none]) dX7_addSlots_1 rfl (Nat.le_of_ble_eq_true rfl) rfl rfl rfl ?_
  exact hF
set_option maxRecDepth 100000 in
set_option maxHeartbeats 4000000 in
theorem wX7_addMan_38 {ψ : Int32 → ZH → Prop} {l0 : Nat} {l2 : Int32} {h : ZH} (hF : ((9 ≤ l2 → (zK h l0 = 8) ∧ ψ 1 (zsI h l0 4 ((zI h l0 4) + 1))) ∧ (¬ 9 ≤ l2 → (zK h l0 = 8) ∧ ((zR h l0 6) ≠ 0) ∧ (zK h (zR h l0 6) = 3) ∧ ((zR h (zR h l0 6) 0) ≠ 0) ∧ (zK h (zR h (zR h l0 6) 0) = 29) ∧ (vp_in (zI h l0 4) (zN h (zR h (zR h l0 6) 0))) ∧ ((zR h (zR h (zR h l0 6) 0) (Int32.toNatClampNeg (zI h l0 4))) ≠ 0) ∧ ZcL mX7_weigh [.int 20000, .int (zI h l0 4), .int 12] h (fun x10 h9 => (zK h9 (zR h (zR h (zR h l0 6) 0) (Int32.toNatClampNeg (zI h l0 4))) = 22) ∧ (vp_in ((zI h l0 2) + l2) (zN h9 (zR h (zR h (zR h l0 6) 0) (Int32.toNatClampNeg (zI h l0 4))))) ∧ Zt mX7_addMan (zPI ψ) 0 0 38 [some (.ref l0), none, some (.int (l2 + 1))] [] (zsL h9 (zR h (zR h (zR h l0 6) 0) (Int32.toNatClampNeg (zI h l0 4))) (Int32.toNatClampNeg ((zI h l0 2) + l2)) x10))))) : Zt mX7_addMan (zPI ψ) 0 0 38 [some (.ref l0), none, some (.int l2)] [] h := by
  refine z_iload_n (q := 39) dX7_addMan_38 rfl rfl rfl ?_
  refine z_bipush (q := 41) (v := 9) dX7_addMan_39 (by decide) rfl ?_
  refine z_icmp_ge (t := 81) (q := 44) dX7_addMan_41 (by decide) rfl (fun hc => ?_) (fun hc => ?_)
  · have hF := hF.1 hc
    refine z_aload_n (q := 82) dX7_addMan_81 rfl rfl rfl ?_
    refine z_dup (q := 83) dX7_addMan_82 rfl rfl ?_
    obtain ⟨g1, hF⟩ := hF
    refine z_getI (c := 7) (k := 4) (r := (RX7, TX7, 11)) (q := 86) dX7_addMan_83 rfl (by decide) fl_X7_35 rfl g1 rfl ?_
    refine z_iconst (q := 87) (v := 1) dX7_addMan_86 (by decide) rfl ?_
    refine z_iadd (q := 88) dX7_addMan_87 rfl ?_
    refine z_putI (c := 7) (k := 4) (r := (RX7, TX7, 11)) (q := 91) dX7_addMan_88 rfl (by decide) fl_X7_35 rfl rfl g1 rfl ?_
    refine z_iconst (q := 92) (v := 1) dX7_addMan_91 (by decide) rfl ?_
    exact z_zreturn dX7_addMan_92 rfl (by decide) ⟨_, rfl, hF⟩
  · have hF := hF.2 hc
    refine z_aload_n (q := 45) dX7_addMan_44 rfl rfl rfl ?_
    obtain ⟨g2, hF⟩ := hF
    obtain ⟨g3, hF⟩ := hF
    refine z_getR (c := 7) (k := 6) (r := (RX7, TX7, 11)) (q := 48) dX7_addMan_45 rfl (by decide) fl_X7_27 rfl g2 g3 rfl ?_
    obtain ⟨g4, hF⟩ := hF
    obtain ⟨g5, hF⟩ := hF
    refine z_getR (c := 2) (k := 0) (r := (RX2, TX2, 8)) (q := 51) dX7_addMan_48 rfl (by decide) fl_X7_45 rfl g4 g5 rfl ?_
    refine z_aload_n (q := 52) dX7_addMan_51 rfl rfl rfl ?_
    refine z_getI (c := 7) (k := 4) (r := (RX7, TX7, 11)) (q := 55) dX7_addMan_52 rfl (by decide) fl_X7_35 rfl g2 rfl ?_
    obtain ⟨g6, hF⟩ := hF
    obtain ⟨g7, hF⟩ := hF
    obtain ⟨g8, hF⟩ := hF
    refine y_aald (kd := 29) (j := (Int32.toNatClampNeg (zI h l0 4))) (q := 56) dX7_addMan_55 g6 (by decide) (by decide) rfl g7 rfl g8 rfl ?_
    refine z_aload_n (q := 57) dX7_addMan_56 rfl rfl rfl ?_
    refine z_getI (c := 7) (k := 2) (r := (RX7, TX7, 11)) (q := 60) dX7_addMan_57 rfl (by decide) fl_X7_31 rfl g2 rfl ?_
    refine z_iload_n (q := 61) dX7_addMan_60 rfl rfl rfl ?_
    refine z_iadd (q := 62) dX7_addMan_61 rfl ?_
    refine z_sipush (q := 65) (v := 20000) dX7_addMan_62 (by decide) rfl ?_
    refine z_aload_n (q := 66) dX7_addMan_65 rfl rfl rfl ?_
    refine z_getI (c := 7) (k := 4) (r := (RX7, TX7, 11)) (q := 69) dX7_addMan_66 rfl (by decide) fl_X7_35 rfl g2 rfl ?_
    refine z_bipush (q := 71) (v := 12) dX7_addMan_69 (by decide) rfl ?_
    refine z_callSL (rc := 0) (rs := 0) (av := [.int 20000, .int (zI h l0 4), .int 12]) (q := 74) hF dX7_addMan_71 ml_X7_49 ok_X7_weigh st_X7_weigh rfl (Nat.le_of_ble_eq_true rfl) (by decide) (Nat.le_of_ble_eq_true rfl) rfl rfl rfl rfl (fun x10 h9 hF => ?_)
    obtain ⟨g11, hF⟩ := hF
    obtain ⟨g12, hF⟩ := hF
    refine y_last (j := (Int32.toNatClampNeg ((zI h l0 2) + l2))) (q := 75) dX7_addMan_74 g11 g12 rfl rfl ?_
    refine z_iinc (q := 78) (v := (l2 + 1)) (L' := [some (.ref l0), none, some (.int (l2 + 1))]) dX7_addMan_75 rfl rfl (Nat.le_of_ble_eq_true rfl) rfl rfl rfl ?_
    refine z_goto (q := 38) dX7_addMan_78 (by decide) ?_
    exact hF
set_option maxRecDepth 100000 in
set_option maxHeartbeats 4000000 in
theorem wX7_addMan {ψ : Int32 → ZH → Prop} {l0 : Nat} {l1 : Int32} {h : ZH} (hF : (zK h l0 = 8) ∧ (((zI h l0 4) < 9 → ((zR h l0 3) ≠ 0) ∧ (zK h (zR h l0 3) = 20) ∧ (vp_in (zI h l0 4) (zN h (zR h l0 3))) ∧ ((zR h l0 6) ≠ 0) ∧ ∀ h18 : ZH, h18 = (zsI h (zR h l0 3) (Int32.toNatClampNeg (zI h l0 4)) l1) → (zK h18 l0 = 8) ∧ (zK h18 (zR h l0 6) = 3) ∧ ZcV mX2_bar [.ref (zR h l0 6), .int (zI h18 l0 4), .int (zI h18 l0 2)] h18 (fun h21 => Zt mX7_addMan (zPI ψ) 0 0 38 [some (.ref l0), none, some (.int 0)] [] h21)) ∧ (¬ (zI h l0 4) < 9 → ψ 0 h))) : ZcI mX7_addMan [.ref l0, .int l1] h ψ := by
  refine Zc.intro (L := [some (.ref l0), some (.int l1), none]) (show plainName RX7 = true by decide) rfl (Nat.le_of_ble_eq_true rfl) ?_
  show Zt _ _ 0 0 _ _ _ _
  refine z_aload_n (q := 1) dX7_addMan_0 rfl rfl rfl ?_
  obtain ⟨g13, hF⟩ := hF
  refine z_getI (c := 7) (k := 4) (r := (RX7, TX7, 11)) (q := 4) dX7_addMan_1 rfl (by decide) fl_X7_35 rfl g13 rfl ?_
  refine z_bipush (q := 6) (v := 9) dX7_addMan_4 (by decide) rfl ?_
  refine z_icmp_lt (t := 11) (q := 9) dX7_addMan_6 (by decide) rfl (fun hc => ?_) (fun hc => ?_)
  · have hF := hF.1 hc
    refine z_aload_n (q := 12) dX7_addMan_11 rfl rfl rfl ?_
    obtain ⟨g14, hF⟩ := hF
    refine z_getR (c := 7) (k := 3) (r := (RX7, TX7, 11)) (q := 15) dX7_addMan_12 rfl (by decide) fl_X7_18 rfl g13 g14 rfl ?_
    refine z_aload_n (q := 16) dX7_addMan_15 rfl rfl rfl ?_
    refine z_getI (c := 7) (k := 4) (r := (RX7, TX7, 11)) (q := 19) dX7_addMan_16 rfl (by decide) fl_X7_35 rfl g13 rfl ?_
    refine z_iload_n (q := 20) dX7_addMan_19 rfl rfl rfl ?_
    obtain ⟨g15, hF⟩ := hF
    obtain ⟨g16, hF⟩ := hF
    refine y_iast (j := (Int32.toNatClampNeg (zI h l0 4))) (q := 21) dX7_addMan_20 g15 g16 rfl rfl ?_
    refine z_aload_n (q := 22) dX7_addMan_21 rfl rfl rfl ?_
    obtain ⟨g17, hF⟩ := hF
    refine z_getR (c := 7) (k := 6) (r := (RX7, TX7, 11)) (q := 25) dX7_addMan_22 rfl (by decide) fl_X7_27 rfl g13 g17 rfl ?_
    refine z_aload_n (q := 26) dX7_addMan_25 rfl rfl rfl ?_
    refine z_nameH (fun h18 eh19 => ?_)
    have hF := hF h18 eh19
    obtain ⟨g20, hF⟩ := hF
    refine z_getI (c := 7) (k := 4) (r := (RX7, TX7, 11)) (q := 29) dX7_addMan_26 rfl (by decide) fl_X7_35 rfl g20 rfl ?_
    refine z_aload_n (q := 30) dX7_addMan_29 rfl rfl rfl ?_
    refine z_getI (c := 7) (k := 2) (r := (RX7, TX7, 11)) (q := 33) dX7_addMan_30 rfl (by decide) fl_X7_31 rfl g20 rfl ?_
    obtain ⟨g22, hF⟩ := hF
    refine z_callVV (rc := 0) (rs := 0) (b := (zR h l0 6)) (av := [.int (zI h18 l0 4), .int (zI h18 l0 2)]) (ci := 2) (r := (RX2, TX2, 8)) (q := 36) hF dX7_addMan_33 ml_X7_41 ok_X2_bar in_X2_bar se_X2_bar rfl rfl g22 rfl (Nat.le_of_ble_eq_true rfl) (by decide) (Nat.le_of_ble_eq_true rfl) rfl rfl rfl rfl (fun h21 hF => ?_)
    refine z_iconst (q := 37) (v := 0) dX7_addMan_36 (by decide) rfl ?_
    refine z_istore_n (q := 38) (L' := [some (.ref l0), some (.int l1), some (.int 0)]) dX7_addMan_37 rfl (Nat.le_of_ble_eq_true rfl) rfl rfl rfl ?_
    refine Zt.drop (i := 1) (L' := [some (.ref l0), none, some (.int 0)]) rfl ?_
    exact hF
  · have hF := hF.2 hc
    refine z_iconst (q := 10) (v := 0) dX7_addMan_9 (by decide) rfl ?_
    exact z_zreturn dX7_addMan_10 rfl (by decide) ⟨_, rfl, hF⟩
set_option maxRecDepth 100000 in
set_option maxHeartbeats 4000000 in
theorem wX7_offer {ψ : ZH → Prop} {l0 : Nat} {l1 : Int32} {l2 : Int32} {l3 : Int32} {l4 : Int32} {h : ZH} (hF : (zK h l0 = 8) ∧ ((zR h l0 6) ≠ 0) ∧ (zK h (zR h l0 6) = 3) ∧ ((zR h (zR h l0 6) 0) ≠ 0) ∧ (zK h (zR h (zR h l0 6) 0) = 29) ∧ (vp_in l1 (zN h (zR h (zR h l0 6) 0))) ∧ ((zR h (zR h (zR h l0 6) 0) (Int32.toNatClampNeg l1)) ≠ 0) ∧ ((l4 = 0 → ZcL mX7_weigh [.int l3, .int l1, .int l2] h (fun x9 h8 => (zK h8 (zR h (zR h (zR h l0 6) 0) (Int32.toNatClampNeg l1)) = 22) ∧ (vp_in l2 (zN h8 (zR h (zR h (zR h l0 6) 0) (Int32.toNatClampNeg l1)))) ∧ ψ (zsL h8 (zR h (zR h (zR h l0 6) 0) (Int32.toNatClampNeg l1)) (Int32.toNatClampNeg l2) x9))) ∧ (¬ l4 = 0 → ZcL mX7_weigh [.int (l3 + 2000), .int l1, .int l2] h (fun x13 h12 => (zK h12 (zR h (zR h (zR h l0 6) 0) (Int32.toNatClampNeg l1)) = 22) ∧ (vp_in l2 (zN h12 (zR h (zR h (zR h l0 6) 0) (Int32.toNatClampNeg l1)))) ∧ ψ (zsL h12 (zR h (zR h (zR h l0 6) 0) (Int32.toNatClampNeg l1)) (Int32.toNatClampNeg l2) x13))))) : ZcV mX7_offer [.ref l0, .int l1, .int l2, .int l3, .int l4] h ψ := by
  refine Zc.intro (L := [some (.ref l0), some (.int l1), some (.int l2), some (.int l3), some (.int l4)]) (show plainName RX7 = true by decide) rfl (Nat.le_of_ble_eq_true rfl) ?_
  show Zt _ _ 0 0 _ _ _ _
  refine z_aload_n (q := 1) dX7_offer_0 rfl rfl rfl ?_
  obtain ⟨g1, hF⟩ := hF
  obtain ⟨g2, hF⟩ := hF
  refine z_getR (c := 7) (k := 6) (r := (RX7, TX7, 11)) (q := 4) dX7_offer_1 rfl (by decide) fl_X7_27 rfl g1 g2 rfl ?_
  obtain ⟨g3, hF⟩ := hF
  obtain ⟨g4, hF⟩ := hF
  refine z_getR (c := 2) (k := 0) (r := (RX2, TX2, 8)) (q := 7) dX7_offer_4 rfl (by decide) fl_X7_45 rfl g3 g4 rfl ?_
  refine z_iload_n (q := 8) dX7_offer_7 rfl rfl rfl ?_
  obtain ⟨g5, hF⟩ := hF
  obtain ⟨g6, hF⟩ := hF
  obtain ⟨g7, hF⟩ := hF
  refine y_aald (kd := 29) (j := (Int32.toNatClampNeg l1)) (q := 9) dX7_offer_8 g5 (by decide) (by decide) rfl g6 rfl g7 rfl ?_
  refine z_iload_n (q := 10) dX7_offer_9 rfl rfl rfl ?_
  refine z_iload (q := 12) dX7_offer_10 rfl rfl ?_
  refine z_if_eq (t := 23) (q := 15) dX7_offer_12 (by decide) rfl (fun hc => ?_) (fun hc => ?_)
  · have hF := hF.1 hc
    refine z_iload_n (q := 24) dX7_offer_23 rfl rfl rfl ?_
    refine z_iload_n (q := 25) dX7_offer_24 rfl rfl rfl ?_
    refine z_iload_n (q := 26) dX7_offer_25 rfl rfl rfl ?_
    refine z_callSL (rc := 0) (rs := 0) (av := [.int l3, .int l1, .int l2]) (q := 29) hF dX7_offer_26 ml_X7_49 ok_X7_weigh st_X7_weigh rfl (Nat.le_of_ble_eq_true rfl) (by decide) (Nat.le_of_ble_eq_true rfl) rfl rfl rfl rfl (fun x9 h8 hF => ?_)
    obtain ⟨g10, hF⟩ := hF
    obtain ⟨g11, hF⟩ := hF
    refine y_last (j := (Int32.toNatClampNeg l2)) (q := 30) dX7_offer_29 g10 g11 rfl rfl ?_
    exact z_return dX7_offer_30 rfl ⟨rfl, hF⟩
  · have hF := hF.2 hc
    refine z_iload_n (q := 16) dX7_offer_15 rfl rfl rfl ?_
    refine z_sipush (q := 19) (v := 2000) dX7_offer_16 (by decide) rfl ?_
    refine z_iadd (q := 20) dX7_offer_19 rfl ?_
    refine z_goto (q := 24) dX7_offer_20 (by decide) ?_
    refine z_iload_n (q := 25) dX7_offer_24 rfl rfl rfl ?_
    refine z_iload_n (q := 26) dX7_offer_25 rfl rfl rfl ?_
    refine z_callSL (rc := 0) (rs := 0) (av := [.int (l3 + 2000), .int l1, .int l2]) (q := 29) hF dX7_offer_26 ml_X7_49 ok_X7_weigh st_X7_weigh rfl (Nat.le_of_ble_eq_true rfl) (by decide) (Nat.le_of_ble_eq_true rfl) rfl rfl rfl rfl (fun x13 h12 hF => ?_)
    obtain ⟨g14, hF⟩ := hF
    obtain ⟨g15, hF⟩ := hF
    refine y_last (j := (Int32.toNatClampNeg l2)) (q := 30) dX7_offer_29 g14 g15 rfl rfl ?_
    exact z_return dX7_offer_30 rfl ⟨rfl, hF⟩
set_option maxRecDepth 100000 in
set_option maxHeartbeats 4000000 in
theorem wX7_weigh_7 {ψ : Int64 → ZH → Prop} {l0 : Int32} {l1 : Int32} {l2 : Int32} {l3 : Int64} {l5 : Int32} {h : ZH} (hF : ((l1 < l5 → ψ (((Int32.toInt64 l0) * 10604499373) + ((Int32.toInt64 l2) * l3)) h) ∧ (¬ l1 < l5 → Zt mX7_weigh (zPL ψ) 0 0 7 [some (.int l0), some (.int l1), some (.int l2), some (.long (l3 / 13)), none, some (.int (l5 + 1))] [] h))) : Zt mX7_weigh (zPL ψ) 0 0 7 [some (.int l0), some (.int l1), some (.int l2), some (.long l3), none, some (.int l5)] [] h := by
  refine z_iload (q := 9) dX7_weigh_7 rfl rfl ?_
  refine z_iload_n (q := 10) dX7_weigh_9 rfl rfl rfl ?_
  refine z_icmp_gt (t := 25) (q := 13) dX7_weigh_10 (by decide) rfl (fun hc => ?_) (fun hc => ?_)
  · have hF := hF.1 hc
    refine z_iload_n (q := 26) dX7_weigh_25 rfl rfl rfl ?_
    refine z_i2l (q := 27) dX7_weigh_26 rfl ?_
    refine z_ldc2 (q := 30) (v := 10604499373) dX7_weigh_27 cw_X7_53 rfl ?_
    refine z_lmul (q := 31) dX7_weigh_30 rfl ?_
    refine z_iload_n (q := 32) dX7_weigh_31 rfl rfl rfl ?_
    refine z_i2l (q := 33) dX7_weigh_32 rfl ?_
    refine z_lload_n (q := 34) dX7_weigh_33 rfl rfl rfl ?_
    refine z_lmul (q := 35) dX7_weigh_34 rfl ?_
    refine z_ladd (q := 36) dX7_weigh_35 rfl ?_
    exact z_lreturn dX7_weigh_36 rfl ⟨_, rfl, hF⟩
  · have hF := hF.2 hc
    refine z_lload_n (q := 14) dX7_weigh_13 rfl rfl rfl ?_
    refine z_ldc2 (q := 17) (v := 13) dX7_weigh_14 cw_X7_55 rfl ?_
    refine z_ldiv (q := 18) dX7_weigh_17 (by decide) rfl ?_
    refine z_lstore_n (q := 19) (L' := [some (.int l0), some (.int l1), some (.int l2), some (.long (l3 / 13)), none, some (.int l5)]) dX7_weigh_18 rfl (Nat.le_of_ble_eq_true rfl) rfl rfl rfl rfl ?_
    refine z_iinc (q := 22) (v := (l5 + 1)) (L' := [some (.int l0), some (.int l1), some (.int l2), some (.long (l3 / 13)), none, some (.int (l5 + 1))]) dX7_weigh_19 rfl rfl (Nat.le_of_ble_eq_true rfl) rfl rfl rfl ?_
    refine z_goto (q := 7) dX7_weigh_22 (by decide) ?_
    exact hF
set_option maxRecDepth 100000 in
set_option maxHeartbeats 4000000 in
theorem wX7_weigh {ψ : Int64 → ZH → Prop} {l0 : Int32} {l1 : Int32} {l2 : Int32} {h : ZH} (hF : Zt mX7_weigh (zPL ψ) 0 0 7 [some (.int l0), some (.int l1), some (.int l2), some (.long 10604499373), none, some (.int 0)] [] h) : ZcL mX7_weigh [.int l0, .int l1, .int l2] h ψ := by
  refine Zc.intro (L := [some (.int l0), some (.int l1), some (.int l2), none, none, none]) (show plainName RX7 = true by decide) rfl (Nat.le_of_ble_eq_true rfl) ?_
  show Zt _ _ 0 0 _ _ _ _
  refine z_ldc2 (q := 3) (v := 10604499373) dX7_weigh_0 cw_X7_53 rfl ?_
  refine z_lstore_n (q := 4) (L' := [some (.int l0), some (.int l1), some (.int l2), some (.long 10604499373), none, none]) dX7_weigh_3 rfl (Nat.le_of_ble_eq_true rfl) rfl rfl rfl rfl ?_
  refine z_iconst (q := 5) (v := 0) dX7_weigh_4 (by decide) rfl ?_
  refine z_istore (q := 7) (L' := [some (.int l0), some (.int l1), some (.int l2), some (.long 10604499373), none, some (.int 0)]) dX7_weigh_5 (Nat.le_of_ble_eq_true rfl) rfl rfl rfl ?_
  exact hF
set_option maxRecDepth 100000 in
set_option maxHeartbeats 4000000 in
theorem wX7_settle_22 {ψ : ZH → Prop} {l0 : Nat} {l1 : Int64} {l3 : Int32} {h : ZH} (hF : (zK h l0 = 8) ∧ (((zI h l0 4) ≤ l3 → ψ (zsI (zsI (zsI h l0 8 ((Int64.toInt32 (l1 / 10604499373)) / 20000)) l0 9 (((Int64.toInt32 (l1 / 10604499373)) - (Int64.toInt32 (l1 / 10604499373)) / 20000 * 20000) / 2000)) l0 10 ((Int64.toInt32 (l1 / 10604499373)) - (Int64.toInt32 (l1 / 10604499373)) / 2000 * 2000))) ∧ (¬ (zI h l0 4) ≤ l3 → ((zR h l0 6) ≠ 0) ∧ (zK h (zR h l0 6) = 3) ∧ ZcI mX2_columnOf [.ref (zR h l0 6), .int l3] h (fun x5 h3 => (zK h3 l0 = 8) ∧ ((zR h3 l0 6) ≠ 0) ∧ (zK h3 (zR h3 l0 6) = 3) ∧ ((zR h3 (zR h3 l0 6) 0) ≠ 0) ∧ (zK h3 (zR h3 (zR h3 l0 6) 0) = 29) ∧ (vp_in l3 (zN h3 (zR h3 (zR h3 l0 6) 0))) ∧ ((zR h3 (zR h3 (zR h3 l0 6) 0) (Int32.toNatClampNeg l3)) ≠ 0) ∧ (zK h3 (zR h3 (zR h3 (zR h3 l0 6) 0) (Int32.toNatClampNeg l3)) = 22) ∧ (vp_in x5 (zN h3 (zR h3 (zR h3 (zR h3 l0 6) 0) (Int32.toNatClampNeg l3)))) ∧ ∀ v15 : Int64, v15 = (l1 + (zL h3 (zR h3 (zR h3 (zR h3 l0 6) 0) (Int32.toNatClampNeg l3)) (Int32.toNatClampNeg x5))) → ((zR h3 l0 5) ≠ 0) ∧ (((zI h3 l0 2) ≤ x5 → (zK h3 (zR h3 l0 5) = 20) ∧ (vp_in l3 (zN h3 (zR h3 l0 5))) ∧ Zt mX7_settle (zPV ψ) 0 0 22 [some (.ref l0), some (.long v15), none, some (.int (l3 + 1)), none] [] (zsI h3 (zR h3 l0 5) (Int32.toNatClampNeg l3) (-6))) ∧ (¬ (zI h3 l0 2) ≤ x5 → (zK h3 (zR h3 l0 5) = 20) ∧ (vp_in l3 (zN h3 (zR h3 l0 5))) ∧ Zt mX7_settle (zPV ψ) 0 0 22 [some (.ref l0), some (.long v15), none, some (.int (l3 + 1)), none] [] (zsI h3 (zR h3 l0 5) (Int32.toNatClampNeg l3) x5))))))) : Zt mX7_settle (zPV ψ) 0 0 22 [some (.ref l0), some (.long l1), none, some (.int l3), none] [] h := by
  refine z_iload_n (q := 23) dX7_settle_22 rfl rfl rfl ?_
  refine z_aload_n (q := 24) dX7_settle_23 rfl rfl rfl ?_
  obtain ⟨g1, hF⟩ := hF
  refine z_getI (c := 7) (k := 4) (r := (RX7, TX7, 11)) (q := 27) dX7_settle_24 rfl (by decide) fl_X7_35 rfl g1 rfl ?_
  refine z_icmp_ge (t := 83) (q := 30) dX7_settle_27 (by decide) rfl (fun hc => ?_) (fun hc => ?_)
  · have hF := hF.1 hc
    refine z_lload_n (q := 84) dX7_settle_83 rfl rfl rfl ?_
    refine z_ldc2 (q := 87) (v := 10604499373) dX7_settle_84 cw_X7_53 rfl ?_
    refine z_ldiv (q := 88) dX7_settle_87 (by decide) rfl ?_
    refine z_l2i (q := 89) dX7_settle_88 rfl ?_
    refine z_istore_n (q := 90) (L' := [some (.ref l0), some (.long l1), none, some (.int (Int64.toInt32 (l1 / 10604499373))), none]) dX7_settle_89 rfl (Nat.le_of_ble_eq_true rfl) rfl rfl rfl ?_
    refine z_aload_n (q := 91) dX7_settle_90 rfl rfl rfl ?_
    refine z_iload_n (q := 92) dX7_settle_91 rfl rfl rfl ?_
    refine z_sipush (q := 95) (v := 20000) dX7_settle_92 (by decide) rfl ?_
    refine z_idiv (q := 96) dX7_settle_95 (by decide) rfl ?_
    refine z_putI (c := 7) (k := 8) (r := (RX7, TX7, 11)) (q := 99) dX7_settle_96 rfl (by decide) fl_X7_64 rfl rfl g1 rfl ?_
    refine z_aload_n (q := 100) dX7_settle_99 rfl rfl rfl ?_
    refine z_iload_n (q := 101) dX7_settle_100 rfl rfl rfl ?_
    refine z_sipush (q := 104) (v := 20000) dX7_settle_101 (by decide) rfl ?_
    refine z_irem (q := 105) dX7_settle_104 (by decide) rfl ?_
    refine z_sipush (q := 108) (v := 2000) dX7_settle_105 (by decide) rfl ?_
    refine z_idiv (q := 109) dX7_settle_108 (by decide) rfl ?_
    refine z_putI (c := 7) (k := 9) (r := (RX7, TX7, 11)) (q := 112) dX7_settle_109 rfl (by decide) fl_X7_67 rfl rfl g1 rfl ?_
    refine z_aload_n (q := 113) dX7_settle_112 rfl rfl rfl ?_
    refine z_iload_n (q := 114) dX7_settle_113 rfl rfl rfl ?_
    refine z_sipush (q := 117) (v := 2000) dX7_settle_114 (by decide) rfl ?_
    refine z_irem (q := 118) dX7_settle_117 (by decide) rfl ?_
    refine z_putI (c := 7) (k := 10) (r := (RX7, TX7, 11)) (q := 121) dX7_settle_118 rfl (by decide) fl_X7_70 rfl rfl g1 rfl ?_
    exact z_return dX7_settle_121 rfl ⟨rfl, hF⟩
  · have hF := hF.2 hc
    refine z_aload_n (q := 31) dX7_settle_30 rfl rfl rfl ?_
    obtain ⟨g2, hF⟩ := hF
    refine z_getR (c := 7) (k := 6) (r := (RX7, TX7, 11)) (q := 34) dX7_settle_31 rfl (by decide) fl_X7_27 rfl g1 g2 rfl ?_
    refine z_iload_n (q := 35) dX7_settle_34 rfl rfl rfl ?_
    obtain ⟨g4, hF⟩ := hF
    refine z_callVI (rc := 0) (rs := 0) (b := (zR h l0 6)) (av := [.int l3]) (ci := 2) (r := (RX2, TX2, 8)) (q := 38) hF dX7_settle_35 ml_X7_60 ok_X2_columnOf in_X2_columnOf se_X2_columnOf rfl rfl g4 rfl (Nat.le_of_ble_eq_true rfl) (by decide) (Nat.le_of_ble_eq_true rfl) rfl rfl rfl rfl (fun x5 h3 hF => ?_)
    refine z_istore (q := 40) (L' := [some (.ref l0), some (.long l1), none, some (.int l3), some (.int x5)]) dX7_settle_38 (Nat.le_of_ble_eq_true rfl) rfl rfl rfl ?_
    refine z_lload_n (q := 41) dX7_settle_40 rfl rfl rfl ?_
    refine z_aload_n (q := 42) dX7_settle_41 rfl rfl rfl ?_
    obtain ⟨g6, hF⟩ := hF
    obtain ⟨g7, hF⟩ := hF
    refine z_getR (c := 7) (k := 6) (r := (RX7, TX7, 11)) (q := 45) dX7_settle_42 rfl (by decide) fl_X7_27 rfl g6 g7 rfl ?_
    obtain ⟨g8, hF⟩ := hF
    obtain ⟨g9, hF⟩ := hF
    refine z_getR (c := 2) (k := 0) (r := (RX2, TX2, 8)) (q := 48) dX7_settle_45 rfl (by decide) fl_X7_45 rfl g8 g9 rfl ?_
    refine z_iload_n (q := 49) dX7_settle_48 rfl rfl rfl ?_
    obtain ⟨g10, hF⟩ := hF
    obtain ⟨g11, hF⟩ := hF
    obtain ⟨g12, hF⟩ := hF
    refine y_aald (kd := 29) (j := (Int32.toNatClampNeg l3)) (q := 50) dX7_settle_49 g10 (by decide) (by decide) rfl g11 rfl g12 rfl ?_
    refine z_iload (q := 52) dX7_settle_50 rfl rfl ?_
    obtain ⟨g13, hF⟩ := hF
    obtain ⟨g14, hF⟩ := hF
    refine y_lald (j := (Int32.toNatClampNeg x5)) (q := 53) dX7_settle_52 g13 g14 rfl rfl ?_
    refine z_ladd (q := 54) dX7_settle_53 rfl ?_
    refine z_nameJ (fun v15 ev16 => ?_)
    have hF := hF v15 ev16
    refine z_lstore_n (q := 55) (L' := [some (.ref l0), some (.long v15), none, some (.int l3), some (.int x5)]) dX7_settle_54 rfl (Nat.le_of_ble_eq_true rfl) rfl rfl rfl rfl ?_
    refine z_aload_n (q := 56) dX7_settle_55 rfl rfl rfl ?_
    obtain ⟨g17, hF⟩ := hF
    refine z_getR (c := 7) (k := 5) (r := (RX7, TX7, 11)) (q := 59) dX7_settle_56 rfl (by decide) fl_X7_21 rfl g6 g17 rfl ?_
    refine z_iload_n (q := 60) dX7_settle_59 rfl rfl rfl ?_
    refine z_iload (q := 62) dX7_settle_60 rfl rfl ?_
    refine z_aload_n (q := 63) dX7_settle_62 rfl rfl rfl ?_
    refine z_getI (c := 7) (k := 2) (r := (RX7, TX7, 11)) (q := 66) dX7_settle_63 rfl (by decide) fl_X7_31 rfl g6 rfl ?_
    refine z_icmp_ge (t := 74) (q := 69) dX7_settle_66 (by decide) rfl (fun hc => ?_) (fun hc => ?_)
    · have hF := hF.1 hc
      refine z_bipush (q := 76) (v := (-6)) dX7_settle_74 (by decide) rfl ?_
      obtain ⟨g18, hF⟩ := hF
      obtain ⟨g19, hF⟩ := hF
      refine y_iast (j := (Int32.toNatClampNeg l3)) (q := 77) dX7_settle_76 g18 g19 rfl rfl ?_
      refine z_iinc (q := 80) (v := (l3 + 1)) (L' := [some (.ref l0), some (.long v15), none, some (.int (l3 + 1)), some (.int x5)]) dX7_settle_77 rfl rfl (Nat.le_of_ble_eq_true rfl) rfl rfl rfl ?_
      refine z_goto (q := 22) dX7_settle_80 (by decide) ?_
      refine Zt.drop (i := 4) (L' := [some (.ref l0), some (.long v15), none, some (.int (l3 + 1)), none]) rfl ?_
      exact hF
    · have hF := hF.2 hc
      refine z_iload (q := 71) dX7_settle_69 rfl rfl ?_
      refine z_goto (q := 76) dX7_settle_71 (by decide) ?_
      obtain ⟨g20, hF⟩ := hF
      obtain ⟨g21, hF⟩ := hF
      refine y_iast (j := (Int32.toNatClampNeg l3)) (q := 77) dX7_settle_76 g20 g21 rfl rfl ?_
      refine z_iinc (q := 80) (v := (l3 + 1)) (L' := [some (.ref l0), some (.long v15), none, some (.int (l3 + 1)), some (.int x5)]) dX7_settle_77 rfl rfl (Nat.le_of_ble_eq_true rfl) rfl rfl rfl ?_
      refine z_goto (q := 22) dX7_settle_80 (by decide) ?_
      refine Zt.drop (i := 4) (L' := [some (.ref l0), some (.long v15), none, some (.int (l3 + 1)), none]) rfl ?_
      exact hF
set_option maxRecDepth 100000 in
set_option maxHeartbeats 4000000 in
theorem wX7_settle {ψ : ZH → Prop} {l0 : Nat} {h : ZH} (hF : (zK h l0 = 8) ∧ ((zR h l0 6) ≠ 0) ∧ (zK h (zR h l0 6) = 3) ∧ ZcV mX2_solve [.ref (zR h l0 6), .int (zI h l0 4), .int ((zI h l0 2) + 9)] h (fun h24 => Zt mX7_settle (zPV ψ) 0 0 22 [some (.ref l0), some (.long 0), none, some (.int 0), none] [] h24)) : ZcV mX7_settle [.ref l0] h ψ := by
  refine Zc.intro (L := [some (.ref l0), none, none, none, none]) (show plainName RX7 = true by decide) rfl (Nat.le_of_ble_eq_true rfl) ?_
  show Zt _ _ 0 0 _ _ _ _
  refine z_aload_n (q := 1) dX7_settle_0 rfl rfl rfl ?_
  obtain ⟨g22, hF⟩ := hF
  obtain ⟨g23, hF⟩ := hF
  refine z_getR (c := 7) (k := 6) (r := (RX7, TX7, 11)) (q := 4) dX7_settle_1 rfl (by decide) fl_X7_27 rfl g22 g23 rfl ?_
  refine z_aload_n (q := 5) dX7_settle_4 rfl rfl rfl ?_
  refine z_getI (c := 7) (k := 4) (r := (RX7, TX7, 11)) (q := 8) dX7_settle_5 rfl (by decide) fl_X7_35 rfl g22 rfl ?_
  refine z_aload_n (q := 9) dX7_settle_8 rfl rfl rfl ?_
  refine z_getI (c := 7) (k := 2) (r := (RX7, TX7, 11)) (q := 12) dX7_settle_9 rfl (by decide) fl_X7_31 rfl g22 rfl ?_
  refine z_bipush (q := 14) (v := 9) dX7_settle_12 (by decide) rfl ?_
  refine z_iadd (q := 15) dX7_settle_14 rfl ?_
  obtain ⟨g25, hF⟩ := hF
  refine z_callVV (rc := 0) (rs := 0) (b := (zR h l0 6)) (av := [.int (zI h l0 4), .int ((zI h l0 2) + 9)]) (ci := 2) (r := (RX2, TX2, 8)) (q := 18) hF dX7_settle_15 ml_X7_57 ok_X2_solve in_X2_solve se_X2_solve rfl rfl g25 rfl (Nat.le_of_ble_eq_true rfl) (by decide) (Nat.le_of_ble_eq_true rfl) rfl rfl rfl rfl (fun h24 hF => ?_)
  refine z_lconst (q := 19) (v := 0) dX7_settle_18 (by decide) rfl ?_
  refine z_lstore_n (q := 20) (L' := [some (.ref l0), some (.long 0), none, none, none]) dX7_settle_19 rfl (Nat.le_of_ble_eq_true rfl) rfl rfl rfl rfl ?_
  refine z_iconst (q := 21) (v := 0) dX7_settle_20 (by decide) rfl ?_
  refine z_istore_n (q := 22) (L' := [some (.ref l0), some (.long 0), none, some (.int 0), none]) dX7_settle_21 rfl (Nat.le_of_ble_eq_true rfl) rfl rfl rfl ?_
  exact hF
set_option maxRecDepth 100000 in
set_option maxHeartbeats 4000000 in
theorem wX7_indexOf_2 {ψ : Int32 → ZH → Prop} {l0 : Nat} {l1 : Int32} {l2 : Int32} {h : ZH} (hF : (zK h l0 = 8) ∧ (((zI h l0 4) ≤ l2 → ψ (-6) h) ∧ (¬ (zI h l0 4) ≤ l2 → ((zR h l0 3) ≠ 0) ∧ (zK h (zR h l0 3) = 20) ∧ (vp_in l2 (zN h (zR h l0 3))) ∧ ((¬ (zI h (zR h l0 3) (Int32.toNatClampNeg l2)) = l1 → Zt mX7_indexOf (zPI ψ) 0 0 2 [some (.ref l0), some (.int l1), some (.int (l2 + 1))] [] h) ∧ ((zI h (zR h l0 3) (Int32.toNatClampNeg l2)) = l1 → ψ l2 h))))) : Zt mX7_indexOf (zPI ψ) 0 0 2 [some (.ref l0), some (.int l1), some (.int l2)] [] h := by
  refine z_iload_n (q := 3) dX7_indexOf_2 rfl rfl rfl ?_
  refine z_aload_n (q := 4) dX7_indexOf_3 rfl rfl rfl ?_
  obtain ⟨g1, hF⟩ := hF
  refine z_getI (c := 7) (k := 4) (r := (RX7, TX7, 11)) (q := 7) dX7_indexOf_4 rfl (by decide) fl_X7_35 rfl g1 rfl ?_
  refine z_icmp_ge (t := 28) (q := 10) dX7_indexOf_7 (by decide) rfl (fun hc => ?_) (fun hc => ?_)
  · have hF := hF.1 hc
    refine z_bipush (q := 30) (v := (-6)) dX7_indexOf_28 (by decide) rfl ?_
    exact z_ireturn dX7_indexOf_30 rfl ⟨_, rfl, hF⟩
  · have hF := hF.2 hc
    refine z_aload_n (q := 11) dX7_indexOf_10 rfl rfl rfl ?_
    obtain ⟨g2, hF⟩ := hF
    refine z_getR (c := 7) (k := 3) (r := (RX7, TX7, 11)) (q := 14) dX7_indexOf_11 rfl (by decide) fl_X7_18 rfl g1 g2 rfl ?_
    refine z_iload_n (q := 15) dX7_indexOf_14 rfl rfl rfl ?_
    obtain ⟨g3, hF⟩ := hF
    obtain ⟨g4, hF⟩ := hF
    refine y_iald (j := (Int32.toNatClampNeg l2)) (q := 16) dX7_indexOf_15 (Or.inl g3) g4 rfl rfl ?_
    refine z_iload_n (q := 17) dX7_indexOf_16 rfl rfl rfl ?_
    refine z_icmp_ne (t := 22) (q := 20) dX7_indexOf_17 (by decide) rfl (fun hc => ?_) (fun hc => ?_)
    · have hF := hF.1 hc
      refine z_iinc (q := 25) (v := (l2 + 1)) (L' := [some (.ref l0), some (.int l1), some (.int (l2 + 1))]) dX7_indexOf_22 rfl rfl (Nat.le_of_ble_eq_true rfl) rfl rfl rfl ?_
      refine z_goto (q := 2) dX7_indexOf_25 (by decide) ?_
      exact hF
    · have hF := hF.2 hc
      refine z_iload_n (q := 21) dX7_indexOf_20 rfl rfl rfl ?_
      exact z_ireturn dX7_indexOf_21 rfl ⟨_, rfl, hF⟩
set_option maxRecDepth 100000 in
set_option maxHeartbeats 4000000 in
theorem wX7_indexOf {ψ : Int32 → ZH → Prop} {l0 : Nat} {l1 : Int32} {h : ZH} (hF : Zt mX7_indexOf (zPI ψ) 0 0 2 [some (.ref l0), some (.int l1), some (.int 0)] [] h) : ZcI mX7_indexOf [.ref l0, .int l1] h ψ := by
  refine Zc.intro (L := [some (.ref l0), some (.int l1), none]) (show plainName RX7 = true by decide) rfl (Nat.le_of_ble_eq_true rfl) ?_
  show Zt _ _ 0 0 _ _ _ _
  refine z_iconst (q := 1) (v := 0) dX7_indexOf_0 (by decide) rfl ?_
  refine z_istore_n (q := 2) (L' := [some (.ref l0), some (.int l1), some (.int 0)]) dX7_indexOf_1 rfl (Nat.le_of_ble_eq_true rfl) rfl rfl rfl ?_
  exact hF
set_option maxRecDepth 100000 in
set_option maxHeartbeats 4000000 in
theorem wX7_newPitOf {ψ : Int32 → ZH → Prop} {l0 : Nat} {l1 : Int32} {h : ZH} (hF : (zK h l0 = 8) ∧ ZcI mX7_indexOf [.ref l0, .int l1] h (fun x3 h1 => ((x3 = (-6) → ψ (-6) h1) ∧ (¬ x3 = (-6) → (zK h1 l0 = 8) ∧ ((zR h1 l0 5) ≠ 0) ∧ (zK h1 (zR h1 l0 5) = 20) ∧ (vp_in x3 (zN h1 (zR h1 l0 5))) ∧ ((¬ (zI h1 (zR h1 l0 5) (Int32.toNatClampNeg x3)) = (-6) → ((zR h1 l0 0) ≠ 0) ∧ (zK h1 (zR h1 l0 0) = 20) ∧ (vp_in (zI h1 (zR h1 l0 5) (Int32.toNatClampNeg x3)) (zN h1 (zR h1 l0 0))) ∧ ψ (zI h1 (zR h1 l0 0) (Int32.toNatClampNeg (zI h1 (zR h1 l0 5) (Int32.toNatClampNeg x3)))) h1) ∧ ((zI h1 (zR h1 l0 5) (Int32.toNatClampNeg x3)) = (-6) → ψ (-6) h1)))))) : ZcI mX7_newPitOf [.ref l0, .int l1] h ψ := by
  refine Zc.intro (L := [some (.ref l0), some (.int l1), none]) (show plainName RX7 = true by decide) rfl (Nat.le_of_ble_eq_true rfl) ?_
  show Zt _ _ 0 0 _ _ _ _
  refine z_aload_n (q := 1) dX7_newPitOf_0 rfl rfl rfl ?_
  refine z_iload_n (q := 2) dX7_newPitOf_1 rfl rfl rfl ?_
  obtain ⟨g2, hF⟩ := hF
  refine z_callVI (rc := 0) (rs := 0) (b := l0) (av := [.int l1]) (ci := 7) (r := (RX7, TX7, 11)) (q := 5) hF dX7_newPitOf_2 ml_X7_73 ok_X7_indexOf in_X7_indexOf se_X7_indexOf rfl rfl g2 rfl (Nat.le_of_ble_eq_true rfl) (by decide) (Nat.le_of_ble_eq_true rfl) rfl rfl rfl rfl (fun x3 h1 hF => ?_)
  refine z_istore_n (q := 6) (L' := [some (.ref l0), some (.int l1), some (.int x3)]) dX7_newPitOf_5 rfl (Nat.le_of_ble_eq_true rfl) rfl rfl rfl ?_
  refine z_iload_n (q := 7) dX7_newPitOf_6 rfl rfl rfl ?_
  refine z_bipush (q := 9) (v := (-6)) dX7_newPitOf_7 (by decide) rfl ?_
  refine z_icmp_eq (t := 23) (q := 12) dX7_newPitOf_9 (by decide) rfl (fun hc => ?_) (fun hc => ?_)
  · have hF := hF.1 hc
    refine z_bipush (q := 25) (v := (-6)) dX7_newPitOf_23 (by decide) rfl ?_
    refine z_goto (q := 39) dX7_newPitOf_25 (by decide) ?_
    exact z_ireturn dX7_newPitOf_39 rfl ⟨_, rfl, hF⟩
  · have hF := hF.2 hc
    refine z_aload_n (q := 13) dX7_newPitOf_12 rfl rfl rfl ?_
    obtain ⟨g4, hF⟩ := hF
    obtain ⟨g5, hF⟩ := hF
    refine z_getR (c := 7) (k := 5) (r := (RX7, TX7, 11)) (q := 16) dX7_newPitOf_13 rfl (by decide) fl_X7_21 rfl g4 g5 rfl ?_
    refine z_iload_n (q := 17) dX7_newPitOf_16 rfl rfl rfl ?_
    obtain ⟨g6, hF⟩ := hF
    obtain ⟨g7, hF⟩ := hF
    refine y_iald (j := (Int32.toNatClampNeg x3)) (q := 18) dX7_newPitOf_17 (Or.inl g6) g7 rfl rfl ?_
    refine z_bipush (q := 20) (v := (-6)) dX7_newPitOf_18 (by decide) rfl ?_
    refine z_icmp_ne (t := 28) (q := 23) dX7_newPitOf_20 (by decide) rfl (fun hc => ?_) (fun hc => ?_)
    · have hF := hF.1 hc
      refine z_aload_n (q := 29) dX7_newPitOf_28 rfl rfl rfl ?_
      obtain ⟨g8, hF⟩ := hF
      refine z_getR (c := 7) (k := 0) (r := (RX7, TX7, 11)) (q := 32) dX7_newPitOf_29 rfl (by decide) fl_X7_9 rfl g4 g8 rfl ?_
      refine z_aload_n (q := 33) dX7_newPitOf_32 rfl rfl rfl ?_
      refine z_getR (c := 7) (k := 5) (r := (RX7, TX7, 11)) (q := 36) dX7_newPitOf_33 rfl (by decide) fl_X7_21 rfl g4 g5 rfl ?_
      refine z_iload_n (q := 37) dX7_newPitOf_36 rfl rfl rfl ?_
      refine y_iald (j := (Int32.toNatClampNeg x3)) (q := 38) dX7_newPitOf_37 (Or.inl g6) g7 rfl rfl ?_
      obtain ⟨g9, hF⟩ := hF
      obtain ⟨g10, hF⟩ := hF
      refine y_iald (j := (Int32.toNatClampNeg (zI h1 (zR h1 l0 5) (Int32.toNatClampNeg x3)))) (q := 39) dX7_newPitOf_38 (Or.inl g9) g10 rfl rfl ?_
      exact z_ireturn dX7_newPitOf_39 rfl ⟨_, rfl, hF⟩
    · have hF := hF.2 hc
      refine z_bipush (q := 25) (v := (-6)) dX7_newPitOf_23 (by decide) rfl ?_
      refine z_goto (q := 39) dX7_newPitOf_25 (by decide) ?_
      exact z_ireturn dX7_newPitOf_39 rfl ⟨_, rfl, hF⟩
