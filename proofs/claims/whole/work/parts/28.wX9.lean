set_option maxRecDepth 100000 in
set_option maxHeartbeats 4000000 in
theorem wX9_init {ψ : ZH → Prop} {l0 : Nat} {h : ZH} (hF : ∃ a1 : Nat, a1 ≠ 0 ∧ zK h a1 = 0 ∧ ∀ h4 : ZH, h4 = (zmk h a1 20 8) → (zK h4 l0 = 10) ∧ ∃ a7 : Nat, a7 ≠ 0 ∧ zK h4 a7 = 0 ∧ ∀ h10 : ZH, h10 = (zmk (zsR h4 l0 0 a1) a7 20 8) → (zK h10 l0 = 10) ∧ ∃ a13 : Nat, a13 ≠ 0 ∧ zK h10 a13 = 0 ∧ ∀ h16 : ZH, h16 = (zmk (zsR h10 l0 1 a7) a13 20 8) → (zK h16 l0 = 10) ∧ ∃ a19 : Nat, a19 ≠ 0 ∧ zK h16 a19 = 0 ∧ ∀ h22 : ZH, h22 = (zmk (zsR h16 l0 2 a13) a19 21 8) → (zK h22 l0 = 10) ∧ ∃ a25 : Nat, a25 ≠ 0 ∧ zK h22 a25 = 0 ∧ ∀ h28 : ZH, h28 = (zmk (zsR h22 l0 3 a19) a25 20 8) → (zK h28 l0 = 10) ∧ ∃ a31 : Nat, a31 ≠ 0 ∧ zK h28 a31 = 0 ∧ ∀ h34 : ZH, h34 = (zmk (zsR h28 l0 4 a25) a31 20 12) → (zK h34 l0 = 10) ∧ ∃ a37 : Nat, a37 ≠ 0 ∧ zK h34 a37 = 0 ∧ ∀ h40 : ZH, h40 = (zmk (zsR h34 l0 6 a31) a37 20 12) → (zK h40 l0 = 10) ∧ ∃ a43 : Nat, a43 ≠ 0 ∧ zK h40 a43 = 0 ∧ ∀ h46 : ZH, h46 = (zmk (zsR h40 l0 7 a37) a43 20 12) → (zK h46 l0 = 10) ∧ ψ (zsR h46 l0 8 a43)) : ZcV mX9_init [.ref l0] h ψ := by
  refine Zc.intro (L := [some (.ref l0)]) (show plainName RX9 = true by decide) rfl (Nat.le_of_ble_eq_true rfl) ?_
  show Zt _ _ 8 76 _ _ _ _
  refine z_aload_n (q := 1) dX9_init_0 rfl rfl rfl ?_
  refine z_objInit (q := 4) dX9_init_1 ow_X9_3 (Nat.le_of_ble_eq_true rfl) (by decide) rfl ?_
  refine z_aload_n (q := 5) dX9_init_4 rfl rfl rfl ?_
  refine z_bipush (q := 7) (v := 8) dX9_init_5 (by decide) rfl ?_
  obtain ⟨a1, g2, g3, hF⟩ := hF
  refine z_newa (rc := 7) (rs := 68) (a := a1) (kd := 20) (N := 8) (q := 9) dX9_init_7 rfl (by decide) ac_20 (by decide) (by decide) (by decide) g2 g3 rfl ?_
  refine z_nameH (fun h4 eh5 => ?_)
  have hF := hF h4 eh5
  obtain ⟨g6, hF⟩ := hF
  refine z_putRF (c := 9) (k := 0) (r := (RX9, TX9, 13)) (q := 12) dX9_init_9 rfl (by decide) fw_X9_9 rfl rfl rfl rfl g6 rfl ?_
  refine z_aload_n (q := 13) dX9_init_12 rfl rfl rfl ?_
  refine z_bipush (q := 15) (v := 8) dX9_init_13 (by decide) rfl ?_
  obtain ⟨a7, g8, g9, hF⟩ := hF
  refine z_newa (rc := 6) (rs := 60) (a := a7) (kd := 20) (N := 8) (q := 17) dX9_init_15 rfl (by decide) ac_20 (by decide) (by decide) (by decide) g8 g9 rfl ?_
  refine z_nameH (fun h10 eh11 => ?_)
  have hF := hF h10 eh11
  obtain ⟨g12, hF⟩ := hF
  refine z_putRF (c := 9) (k := 1) (r := (RX9, TX9, 13)) (q := 20) dX9_init_17 rfl (by decide) fw_X9_15 rfl rfl rfl rfl g12 rfl ?_
  refine z_aload_n (q := 21) dX9_init_20 rfl rfl rfl ?_
  refine z_bipush (q := 23) (v := 8) dX9_init_21 (by decide) rfl ?_
  obtain ⟨a13, g14, g15, hF⟩ := hF
  refine z_newa (rc := 5) (rs := 52) (a := a13) (kd := 20) (N := 8) (q := 25) dX9_init_23 rfl (by decide) ac_20 (by decide) (by decide) (by decide) g14 g15 rfl ?_
  refine z_nameH (fun h16 eh17 => ?_)
  have hF := hF h16 eh17
  obtain ⟨g18, hF⟩ := hF
  refine z_putRF (c := 9) (k := 2) (r := (RX9, TX9, 13)) (q := 28) dX9_init_25 rfl (by decide) fw_X9_18 rfl rfl rfl rfl g18 rfl ?_
  refine z_aload_n (q := 29) dX9_init_28 rfl rfl rfl ?_
  refine z_bipush (q := 31) (v := 8) dX9_init_29 (by decide) rfl ?_
  obtain ⟨a19, g20, g21, hF⟩ := hF
  refine z_newa (rc := 4) (rs := 44) (a := a19) (kd := 21) (N := 8) (q := 33) dX9_init_31 rfl (by decide) ac_21 (by decide) (by decide) (by decide) g20 g21 rfl ?_
  refine z_nameH (fun h22 eh23 => ?_)
  have hF := hF h22 eh23
  obtain ⟨g24, hF⟩ := hF
  refine z_putRF (c := 9) (k := 3) (r := (RX9, TX9, 13)) (q := 36) dX9_init_33 rfl (by decide) fw_X9_21 rfl rfl rfl rfl g24 rfl ?_
  refine z_aload_n (q := 37) dX9_init_36 rfl rfl rfl ?_
  refine z_bipush (q := 39) (v := 8) dX9_init_37 (by decide) rfl ?_
  obtain ⟨a25, g26, g27, hF⟩ := hF
  refine z_newa (rc := 3) (rs := 36) (a := a25) (kd := 20) (N := 8) (q := 41) dX9_init_39 rfl (by decide) ac_20 (by decide) (by decide) (by decide) g26 g27 rfl ?_
  refine z_nameH (fun h28 eh29 => ?_)
  have hF := hF h28 eh29
  obtain ⟨g30, hF⟩ := hF
  refine z_putRF (c := 9) (k := 4) (r := (RX9, TX9, 13)) (q := 44) dX9_init_41 rfl (by decide) fw_X9_25 rfl rfl rfl rfl g30 rfl ?_
  refine z_aload_n (q := 45) dX9_init_44 rfl rfl rfl ?_
  refine z_bipush (q := 47) (v := 12) dX9_init_45 (by decide) rfl ?_
  obtain ⟨a31, g32, g33, hF⟩ := hF
  refine z_newa (rc := 2) (rs := 24) (a := a31) (kd := 20) (N := 12) (q := 49) dX9_init_47 rfl (by decide) ac_20 (by decide) (by decide) (by decide) g32 g33 rfl ?_
  refine z_nameH (fun h34 eh35 => ?_)
  have hF := hF h34 eh35
  obtain ⟨g36, hF⟩ := hF
  refine z_putRF (c := 9) (k := 6) (r := (RX9, TX9, 13)) (q := 52) dX9_init_49 rfl (by decide) fw_X9_28 rfl rfl rfl rfl g36 rfl ?_
  refine z_aload_n (q := 53) dX9_init_52 rfl rfl rfl ?_
  refine z_bipush (q := 55) (v := 12) dX9_init_53 (by decide) rfl ?_
  obtain ⟨a37, g38, g39, hF⟩ := hF
  refine z_newa (rc := 1) (rs := 12) (a := a37) (kd := 20) (N := 12) (q := 57) dX9_init_55 rfl (by decide) ac_20 (by decide) (by decide) (by decide) g38 g39 rfl ?_
  refine z_nameH (fun h40 eh41 => ?_)
  have hF := hF h40 eh41
  obtain ⟨g42, hF⟩ := hF
  refine z_putRF (c := 9) (k := 7) (r := (RX9, TX9, 13)) (q := 60) dX9_init_57 rfl (by decide) fw_X9_31 rfl rfl rfl rfl g42 rfl ?_
  refine z_aload_n (q := 61) dX9_init_60 rfl rfl rfl ?_
  refine z_bipush (q := 63) (v := 12) dX9_init_61 (by decide) rfl ?_
  obtain ⟨a43, g44, g45, hF⟩ := hF
  refine z_newa (rc := 0) (rs := 0) (a := a43) (kd := 20) (N := 12) (q := 65) dX9_init_63 rfl (by decide) ac_20 (by decide) (by decide) (by decide) g44 g45 rfl ?_
  refine z_nameH (fun h46 eh47 => ?_)
  have hF := hF h46 eh47
  obtain ⟨g48, hF⟩ := hF
  refine z_putRF (c := 9) (k := 8) (r := (RX9, TX9, 13)) (q := 68) dX9_init_65 rfl (by decide) fw_X9_34 rfl rfl rfl rfl g48 rfl ?_
  exact z_return dX9_init_68 rfl ⟨rfl, hF⟩
set_option maxRecDepth 100000 in
set_option maxHeartbeats 4000000 in
theorem wX9_addBasin {ψ : ZH → Prop} {l0 : Nat} {l1 : Int32} {h : ZH} (hF : (zK h l0 = 10) ∧ ((8 ≤ (zI h l0 5) → ψ h) ∧ (¬ 8 ≤ (zI h l0 5) → ((zR h l0 0) ≠ 0) ∧ (zK h (zR h l0 0) = 20) ∧ (vp_in (zI h l0 5) (zN h (zR h l0 0))) ∧ ((zR h l0 3) ≠ 0) ∧ ∀ h6 : ZH, h6 = (zsI h (zR h l0 0) (Int32.toNatClampNeg (zI h l0 5)) l1) → (zK h6 l0 = 10) ∧ (zK h6 (zR h l0 3) = 21) ∧ (vp_in (zI h6 l0 5) (zN h6 (zR h l0 3))) ∧ ((zR h6 l0 4) ≠ 0) ∧ ∀ h12 : ZH, h12 = (zsI h6 (zR h l0 3) (Int32.toNatClampNeg (zI h6 l0 5)) 1) → (zK h12 l0 = 10) ∧ (zK h12 (zR h6 l0 4) = 20) ∧ (vp_in (zI h12 l0 5) (zN h12 (zR h6 l0 4))) ∧ ∀ h17 : ZH, h17 = (zsI h12 (zR h6 l0 4) (Int32.toNatClampNeg (zI h12 l0 5)) (-6)) → (zK h17 l0 = 10) ∧ ψ (zsI h17 l0 5 ((zI h17 l0 5) + 1))))) : ZcV mX9_addBasin [.ref l0, .int l1] h ψ := by
  refine Zc.intro (L := [some (.ref l0), some (.int l1)]) (show plainName RX9 = true by decide) rfl (Nat.le_of_ble_eq_true rfl) ?_
  show Zt _ _ 0 0 _ _ _ _
  refine z_aload_n (q := 1) dX9_addBasin_0 rfl rfl rfl ?_
  obtain ⟨g1, hF⟩ := hF
  refine z_getI (c := 9) (k := 5) (r := (RX9, TX9, 13)) (q := 4) dX9_addBasin_1 rfl (by decide) fl_X9_37 rfl g1 rfl ?_
  refine z_bipush (q := 6) (v := 8) dX9_addBasin_4 (by decide) rfl ?_
  refine z_icmp_ge (t := 50) (q := 9) dX9_addBasin_6 (by decide) rfl (fun hc => ?_) (fun hc => ?_)
  · have hF := hF.1 hc
    exact z_return dX9_addBasin_50 rfl ⟨rfl, hF⟩
  · have hF := hF.2 hc
    refine z_aload_n (q := 10) dX9_addBasin_9 rfl rfl rfl ?_
    obtain ⟨g2, hF⟩ := hF
    refine z_getR (c := 9) (k := 0) (r := (RX9, TX9, 13)) (q := 13) dX9_addBasin_10 rfl (by decide) fl_X9_9 rfl g1 g2 rfl ?_
    refine z_aload_n (q := 14) dX9_addBasin_13 rfl rfl rfl ?_
    refine z_getI (c := 9) (k := 5) (r := (RX9, TX9, 13)) (q := 17) dX9_addBasin_14 rfl (by decide) fl_X9_37 rfl g1 rfl ?_
    refine z_iload_n (q := 18) dX9_addBasin_17 rfl rfl rfl ?_
    obtain ⟨g3, hF⟩ := hF
    obtain ⟨g4, hF⟩ := hF
    refine y_iast (j := (Int32.toNatClampNeg (zI h l0 5))) (q := 19) dX9_addBasin_18 g3 g4 rfl rfl ?_
    refine z_aload_n (q := 20) dX9_addBasin_19 rfl rfl rfl ?_
    obtain ⟨g5, hF⟩ := hF
    refine z_getR (c := 9) (k := 3) (r := (RX9, TX9, 13)) (q := 23) dX9_addBasin_20 rfl (by decide) fl_X9_21 rfl g1 g5 rfl ?_
    refine z_aload_n (q := 24) dX9_addBasin_23 rfl rfl rfl ?_
    refine z_nameH (fun h6 eh7 => ?_)
    have hF := hF h6 eh7
    obtain ⟨g8, hF⟩ := hF
    refine z_getI (c := 9) (k := 5) (r := (RX9, TX9, 13)) (q := 27) dX9_addBasin_24 rfl (by decide) fl_X9_37 rfl g8 rfl ?_
    refine z_iconst (q := 28) (v := 1) dX9_addBasin_27 (by decide) rfl ?_
    obtain ⟨g9, hF⟩ := hF
    obtain ⟨g10, hF⟩ := hF
    refine y_bast (j := (Int32.toNatClampNeg (zI h6 l0 5))) (q := 29) dX9_addBasin_28 g9 g10 (by decide) rfl rfl ?_
    refine z_aload_n (q := 30) dX9_addBasin_29 rfl rfl rfl ?_
    obtain ⟨g11, hF⟩ := hF
    refine z_getR (c := 9) (k := 4) (r := (RX9, TX9, 13)) (q := 33) dX9_addBasin_30 rfl (by decide) fl_X9_25 rfl g8 g11 rfl ?_
    refine z_aload_n (q := 34) dX9_addBasin_33 rfl rfl rfl ?_
    refine z_nameH (fun h12 eh13 => ?_)
    have hF := hF h12 eh13
    obtain ⟨g14, hF⟩ := hF
    refine z_getI (c := 9) (k := 5) (r := (RX9, TX9, 13)) (q := 37) dX9_addBasin_34 rfl (by decide) fl_X9_37 rfl g14 rfl ?_
    refine z_bipush (q := 39) (v := (-6)) dX9_addBasin_37 (by decide) rfl ?_
    obtain ⟨g15, hF⟩ := hF
    obtain ⟨g16, hF⟩ := hF
    refine y_iast (j := (Int32.toNatClampNeg (zI h12 l0 5))) (q := 40) dX9_addBasin_39 g15 g16 rfl rfl ?_
    refine z_aload_n (q := 41) dX9_addBasin_40 rfl rfl rfl ?_
    refine z_dup (q := 42) dX9_addBasin_41 rfl rfl ?_
    refine z_nameH (fun h17 eh18 => ?_)
    have hF := hF h17 eh18
    obtain ⟨g19, hF⟩ := hF
    refine z_getI (c := 9) (k := 5) (r := (RX9, TX9, 13)) (q := 45) dX9_addBasin_42 rfl (by decide) fl_X9_37 rfl g19 rfl ?_
    refine z_iconst (q := 46) (v := 1) dX9_addBasin_45 (by decide) rfl ?_
    refine z_iadd (q := 47) dX9_addBasin_46 rfl ?_
    refine z_putI (c := 9) (k := 5) (r := (RX9, TX9, 13)) (q := 50) dX9_addBasin_47 rfl (by decide) fl_X9_37 rfl rfl g19 rfl ?_
    exact z_return dX9_addBasin_50 rfl ⟨rfl, hF⟩
set_option maxRecDepth 100000 in
set_option maxHeartbeats 4000000 in
theorem wX9_addWay {ψ : ZH → Prop} {l0 : Nat} {l1 : Int32} {l2 : Int32} {l3 : Int32} {h : ZH} (hF : (zK h l0 = 10) ∧ ((12 ≤ (zI h l0 9) → ψ h) ∧ (¬ 12 ≤ (zI h l0 9) → ((zR h l0 6) ≠ 0) ∧ (zK h (zR h l0 6) = 20) ∧ (vp_in (zI h l0 9) (zN h (zR h l0 6))) ∧ ((zR h l0 7) ≠ 0) ∧ ∀ h6 : ZH, h6 = (zsI h (zR h l0 6) (Int32.toNatClampNeg (zI h l0 9)) l1) → (zK h6 l0 = 10) ∧ (zK h6 (zR h l0 7) = 20) ∧ (vp_in (zI h6 l0 9) (zN h6 (zR h l0 7))) ∧ ((zR h6 l0 8) ≠ 0) ∧ ∀ h12 : ZH, h12 = (zsI h6 (zR h l0 7) (Int32.toNatClampNeg (zI h6 l0 9)) l2) → (zK h12 l0 = 10) ∧ (zK h12 (zR h6 l0 8) = 20) ∧ (vp_in (zI h12 l0 9) (zN h12 (zR h6 l0 8))) ∧ ∀ h17 : ZH, h17 = (zsI h12 (zR h6 l0 8) (Int32.toNatClampNeg (zI h12 l0 9)) l3) → (zK h17 l0 = 10) ∧ ψ (zsI h17 l0 9 ((zI h17 l0 9) + 1))))) : ZcV mX9_addWay [.ref l0, .int l1, .int l2, .int l3] h ψ := by
  refine Zc.intro (L := [some (.ref l0), some (.int l1), some (.int l2), some (.int l3)]) (show plainName RX9 = true by decide) rfl (Nat.le_of_ble_eq_true rfl) ?_
  show Zt _ _ 0 0 _ _ _ _
  refine z_aload_n (q := 1) dX9_addWay_0 rfl rfl rfl ?_
  obtain ⟨g1, hF⟩ := hF
  refine z_getI (c := 9) (k := 9) (r := (RX9, TX9, 13)) (q := 4) dX9_addWay_1 rfl (by decide) fl_X9_41 rfl g1 rfl ?_
  refine z_bipush (q := 6) (v := 12) dX9_addWay_4 (by decide) rfl ?_
  refine z_icmp_ge (t := 49) (q := 9) dX9_addWay_6 (by decide) rfl (fun hc => ?_) (fun hc => ?_)
  · have hF := hF.1 hc
    exact z_return dX9_addWay_49 rfl ⟨rfl, hF⟩
  · have hF := hF.2 hc
    refine z_aload_n (q := 10) dX9_addWay_9 rfl rfl rfl ?_
    obtain ⟨g2, hF⟩ := hF
    refine z_getR (c := 9) (k := 6) (r := (RX9, TX9, 13)) (q := 13) dX9_addWay_10 rfl (by decide) fl_X9_28 rfl g1 g2 rfl ?_
    refine z_aload_n (q := 14) dX9_addWay_13 rfl rfl rfl ?_
    refine z_getI (c := 9) (k := 9) (r := (RX9, TX9, 13)) (q := 17) dX9_addWay_14 rfl (by decide) fl_X9_41 rfl g1 rfl ?_
    refine z_iload_n (q := 18) dX9_addWay_17 rfl rfl rfl ?_
    obtain ⟨g3, hF⟩ := hF
    obtain ⟨g4, hF⟩ := hF
    refine y_iast (j := (Int32.toNatClampNeg (zI h l0 9))) (q := 19) dX9_addWay_18 g3 g4 rfl rfl ?_
    refine z_aload_n (q := 20) dX9_addWay_19 rfl rfl rfl ?_
    obtain ⟨g5, hF⟩ := hF
    refine z_getR (c := 9) (k := 7) (r := (RX9, TX9, 13)) (q := 23) dX9_addWay_20 rfl (by decide) fl_X9_31 rfl g1 g5 rfl ?_
    refine z_aload_n (q := 24) dX9_addWay_23 rfl rfl rfl ?_
    refine z_nameH (fun h6 eh7 => ?_)
    have hF := hF h6 eh7
    obtain ⟨g8, hF⟩ := hF
    refine z_getI (c := 9) (k := 9) (r := (RX9, TX9, 13)) (q := 27) dX9_addWay_24 rfl (by decide) fl_X9_41 rfl g8 rfl ?_
    refine z_iload_n (q := 28) dX9_addWay_27 rfl rfl rfl ?_
    obtain ⟨g9, hF⟩ := hF
    obtain ⟨g10, hF⟩ := hF
    refine y_iast (j := (Int32.toNatClampNeg (zI h6 l0 9))) (q := 29) dX9_addWay_28 g9 g10 rfl rfl ?_
    refine z_aload_n (q := 30) dX9_addWay_29 rfl rfl rfl ?_
    obtain ⟨g11, hF⟩ := hF
    refine z_getR (c := 9) (k := 8) (r := (RX9, TX9, 13)) (q := 33) dX9_addWay_30 rfl (by decide) fl_X9_34 rfl g8 g11 rfl ?_
    refine z_aload_n (q := 34) dX9_addWay_33 rfl rfl rfl ?_
    refine z_nameH (fun h12 eh13 => ?_)
    have hF := hF h12 eh13
    obtain ⟨g14, hF⟩ := hF
    refine z_getI (c := 9) (k := 9) (r := (RX9, TX9, 13)) (q := 37) dX9_addWay_34 rfl (by decide) fl_X9_41 rfl g14 rfl ?_
    refine z_iload_n (q := 38) dX9_addWay_37 rfl rfl rfl ?_
    obtain ⟨g15, hF⟩ := hF
    obtain ⟨g16, hF⟩ := hF
    refine y_iast (j := (Int32.toNatClampNeg (zI h12 l0 9))) (q := 39) dX9_addWay_38 g15 g16 rfl rfl ?_
    refine z_aload_n (q := 40) dX9_addWay_39 rfl rfl rfl ?_
    refine z_dup (q := 41) dX9_addWay_40 rfl rfl ?_
    refine z_nameH (fun h17 eh18 => ?_)
    have hF := hF h17 eh18
    obtain ⟨g19, hF⟩ := hF
    refine z_getI (c := 9) (k := 9) (r := (RX9, TX9, 13)) (q := 44) dX9_addWay_41 rfl (by decide) fl_X9_41 rfl g19 rfl ?_
    refine z_iconst (q := 45) (v := 1) dX9_addWay_44 (by decide) rfl ?_
    refine z_iadd (q := 46) dX9_addWay_45 rfl ?_
    refine z_putI (c := 9) (k := 9) (r := (RX9, TX9, 13)) (q := 49) dX9_addWay_46 rfl (by decide) fl_X9_41 rfl rfl g19 rfl ?_
    exact z_return dX9_addWay_49 rfl ⟨rfl, hF⟩
set_option maxRecDepth 100000 in
set_option maxHeartbeats 4000000 in
theorem wX9_copyFrom_62 {ψ : ZH → Prop} {l0 : Nat} {l1 : Nat} {l2 : Int32} {h : ZH} (hF : ((8 ≤ l2 → (zK h l1 = 10) ∧ (zK h l0 = 10) ∧ ((zR h l1 6) ≠ 0) ∧ ((zR h l0 6) ≠ 0) ∧ (zK h (zR h l0 6) = 20) ∧ (zK h (zR h l1 6) = 20) ∧ ((zR h l0 6) ≠ (zR h l1 6)) ∧ (12 ≤ zN h (zR h l1 6)) ∧ (12 ≤ zN h (zR h l0 6)) ∧ ∀ h10 : ZH, h10 = (zcp (zsI h l0 5 (zI h l1 5)) (zR h l1 6) 0 (zR h l0 6) 0 12) → (zK h10 l1 = 10) ∧ ((zR h10 l1 7) ≠ 0) ∧ (zK h10 l0 = 10) ∧ ((zR h10 l0 7) ≠ 0) ∧ (zK h10 (zR h10 l0 7) = 20) ∧ (zK h10 (zR h10 l1 7) = 20) ∧ ((zR h10 l0 7) ≠ (zR h10 l1 7)) ∧ (12 ≤ zN h10 (zR h10 l1 7)) ∧ (12 ≤ zN h10 (zR h10 l0 7)) ∧ ∀ h21 : ZH, h21 = (zcp h10 (zR h10 l1 7) 0 (zR h10 l0 7) 0 12) → (zK h21 l1 = 10) ∧ ((zR h21 l1 8) ≠ 0) ∧ (zK h21 l0 = 10) ∧ ((zR h21 l0 8) ≠ 0) ∧ (zK h21 (zR h21 l0 8) = 20) ∧ (zK h21 (zR h21 l1 8) = 20) ∧ ((zR h21 l0 8) ≠ (zR h21 l1 8)) ∧ (12 ≤ zN h21 (zR h21 l1 8)) ∧ (12 ≤ zN h21 (zR h21 l0 8)) ∧ ∀ h32 : ZH, h32 = (zcp h21 (zR h21 l1 8) 0 (zR h21 l0 8) 0 12) → (zK h32 l1 = 10) ∧ (zK h32 l0 = 10) ∧ ∀ h36 : ZH, h36 = (zsI h32 l0 9 (zI h32 l1 9)) → (zK h36 l1 = 10) ∧ (zK h36 l0 = 10) ∧ ∀ h40 : ZH, h40 = (zsI h36 l0 10 (zI h36 l1 10)) → (zK h40 l1 = 10) ∧ (zK h40 l0 = 10) ∧ ∀ h44 : ZH, h44 = (zsI h40 l0 11 (zI h40 l1 11)) → (zK h44 l1 = 10) ∧ (zK h44 l0 = 10) ∧ ψ (zsI h44 l0 12 (zI h44 l1 12))) ∧ (¬ 8 ≤ l2 → (zK h l0 = 10) ∧ ((zR h l0 3) ≠ 0) ∧ (zK h l1 = 10) ∧ ((zR h l1 3) ≠ 0) ∧ (zK h (zR h l1 3) = 21) ∧ (vp_in l2 (zN h (zR h l1 3))) ∧ (zK h (zR h l0 3) = 21) ∧ (vp_in l2 (zN h (zR h l0 3))) ∧ ((zI h (zR h l1 3) (Int32.toNatClampNeg l2)) = 0 ∨ (zI h (zR h l1 3) (Int32.toNatClampNeg l2)) = 1) ∧ Zt mX9_copyFrom (zPV ψ) 0 0 62 [some (.ref l0), some (.ref l1), some (.int (l2 + 1))] [] (zsI h (zR h l0 3) (Int32.toNatClampNeg l2) (zI h (zR h l1 3) (Int32.toNatClampNeg l2)))))) : Zt mX9_copyFrom (zPV ψ) 0 0 62 [some (.ref l0), some (.ref l1), some (.int l2)] [] h := by
  refine z_iload_n (q := 63) dX9_copyFrom_62 rfl rfl rfl ?_
  refine z_bipush (q := 65) (v := 8) dX9_copyFrom_63 (by decide) rfl ?_
  refine z_icmp_ge (t := 86) (q := 68) dX9_copyFrom_65 (by decide) rfl (fun hc => ?_) (fun hc => ?_)
  · have hF := hF.1 hc
    refine z_aload_n (q := 87) dX9_copyFrom_86 rfl rfl rfl ?_
    refine z_aload_n (q := 88) dX9_copyFrom_87 rfl rfl rfl ?_
    obtain ⟨g1, hF⟩ := hF
    refine z_getI (c := 9) (k := 5) (r := (RX9, TX9, 13)) (q := 91) dX9_copyFrom_88 rfl (by decide) fl_X9_37 rfl g1 rfl ?_
    obtain ⟨g2, hF⟩ := hF
    refine z_putI (c := 9) (k := 5) (r := (RX9, TX9, 13)) (q := 94) dX9_copyFrom_91 rfl (by decide) fl_X9_37 rfl rfl g2 rfl ?_
    refine z_aload_n (q := 95) dX9_copyFrom_94 rfl rfl rfl ?_
    obtain ⟨g3, hF⟩ := hF
    refine z_getR (c := 9) (k := 6) (r := (RX9, TX9, 13)) (q := 98) dX9_copyFrom_95 rfl (by decide) fl_X9_28 rfl g1 g3 rfl ?_
    refine z_iconst (q := 99) (v := 0) dX9_copyFrom_98 (by decide) rfl ?_
    refine z_aload_n (q := 100) dX9_copyFrom_99 rfl rfl rfl ?_
    obtain ⟨g4, hF⟩ := hF
    refine z_getR (c := 9) (k := 6) (r := (RX9, TX9, 13)) (q := 103) dX9_copyFrom_100 rfl (by decide) fl_X9_28 rfl g2 g4 rfl ?_
    refine z_iconst (q := 104) (v := 0) dX9_copyFrom_103 (by decide) rfl ?_
    refine z_bipush (q := 106) (v := 12) dX9_copyFrom_104 (by decide) rfl ?_
    obtain ⟨g5, hF⟩ := hF
    obtain ⟨g6, hF⟩ := hF
    obtain ⟨g7, hF⟩ := hF
    obtain ⟨g8, hF⟩ := hF
    obtain ⟨g9, hF⟩ := hF
    refine z_acp (a := (zR h l0 6)) (b := (zR h l1 6)) (kd := 20) (sp := 0) (dp := 0) (n := 12) (q := 109) dX9_copyFrom_106 aw_X9_44 g5 (Or.inl g6) (by decide) g7 (by decide) (by decide) (by decide) (zadd0 (by decide) (by decide) g8) (zadd0 (by decide) (by decide) g9) (fun e => absurd e (by decide)) (Nat.le_of_ble_eq_true rfl) (by decide) rfl ?_
    refine z_nameH (fun h10 eh11 => ?_)
    have hF := hF h10 eh11
    refine z_aload_n (q := 110) dX9_copyFrom_109 rfl rfl rfl ?_
    obtain ⟨g12, hF⟩ := hF
    obtain ⟨g13, hF⟩ := hF
    refine z_getR (c := 9) (k := 7) (r := (RX9, TX9, 13)) (q := 113) dX9_copyFrom_110 rfl (by decide) fl_X9_31 rfl g12 g13 rfl ?_
    refine z_iconst (q := 114) (v := 0) dX9_copyFrom_113 (by decide) rfl ?_
    refine z_aload_n (q := 115) dX9_copyFrom_114 rfl rfl rfl ?_
    obtain ⟨g14, hF⟩ := hF
    obtain ⟨g15, hF⟩ := hF
    refine z_getR (c := 9) (k := 7) (r := (RX9, TX9, 13)) (q := 118) dX9_copyFrom_115 rfl (by decide) fl_X9_31 rfl g14 g15 rfl ?_
    refine z_iconst (q := 119) (v := 0) dX9_copyFrom_118 (by decide) rfl ?_
    refine z_bipush (q := 121) (v := 12) dX9_copyFrom_119 (by decide) rfl ?_
    obtain ⟨g16, hF⟩ := hF
    obtain ⟨g17, hF⟩ := hF
    obtain ⟨g18, hF⟩ := hF
    obtain ⟨g19, hF⟩ := hF
    obtain ⟨g20, hF⟩ := hF
    refine z_acp (a := (zR h10 l0 7)) (b := (zR h10 l1 7)) (kd := 20) (sp := 0) (dp := 0) (n := 12) (q := 124) dX9_copyFrom_121 aw_X9_44 g16 (Or.inl g17) (by decide) g18 (by decide) (by decide) (by decide) (zadd0 (by decide) (by decide) g19) (zadd0 (by decide) (by decide) g20) (fun e => absurd e (by decide)) (Nat.le_of_ble_eq_true rfl) (by decide) rfl ?_
    refine z_nameH (fun h21 eh22 => ?_)
    have hF := hF h21 eh22
    refine z_aload_n (q := 125) dX9_copyFrom_124 rfl rfl rfl ?_
    obtain ⟨g23, hF⟩ := hF
    obtain ⟨g24, hF⟩ := hF
    refine z_getR (c := 9) (k := 8) (r := (RX9, TX9, 13)) (q := 128) dX9_copyFrom_125 rfl (by decide) fl_X9_34 rfl g23 g24 rfl ?_
    refine z_iconst (q := 129) (v := 0) dX9_copyFrom_128 (by decide) rfl ?_
    refine z_aload_n (q := 130) dX9_copyFrom_129 rfl rfl rfl ?_
    obtain ⟨g25, hF⟩ := hF
    obtain ⟨g26, hF⟩ := hF
    refine z_getR (c := 9) (k := 8) (r := (RX9, TX9, 13)) (q := 133) dX9_copyFrom_130 rfl (by decide) fl_X9_34 rfl g25 g26 rfl ?_
    refine z_iconst (q := 134) (v := 0) dX9_copyFrom_133 (by decide) rfl ?_
    refine z_bipush (q := 136) (v := 12) dX9_copyFrom_134 (by decide) rfl ?_
    obtain ⟨g27, hF⟩ := hF
    obtain ⟨g28, hF⟩ := hF
    obtain ⟨g29, hF⟩ := hF
    obtain ⟨g30, hF⟩ := hF
    obtain ⟨g31, hF⟩ := hF
    refine z_acp (a := (zR h21 l0 8)) (b := (zR h21 l1 8)) (kd := 20) (sp := 0) (dp := 0) (n := 12) (q := 139) dX9_copyFrom_136 aw_X9_44 g27 (Or.inl g28) (by decide) g29 (by decide) (by decide) (by decide) (zadd0 (by decide) (by decide) g30) (zadd0 (by decide) (by decide) g31) (fun e => absurd e (by decide)) (Nat.le_of_ble_eq_true rfl) (by decide) rfl ?_
    refine z_nameH (fun h32 eh33 => ?_)
    have hF := hF h32 eh33
    refine z_aload_n (q := 140) dX9_copyFrom_139 rfl rfl rfl ?_
    refine z_aload_n (q := 141) dX9_copyFrom_140 rfl rfl rfl ?_
    obtain ⟨g34, hF⟩ := hF
    refine z_getI (c := 9) (k := 9) (r := (RX9, TX9, 13)) (q := 144) dX9_copyFrom_141 rfl (by decide) fl_X9_41 rfl g34 rfl ?_
    obtain ⟨g35, hF⟩ := hF
    refine z_putI (c := 9) (k := 9) (r := (RX9, TX9, 13)) (q := 147) dX9_copyFrom_144 rfl (by decide) fl_X9_41 rfl rfl g35 rfl ?_
    refine z_aload_n (q := 148) dX9_copyFrom_147 rfl rfl rfl ?_
    refine z_aload_n (q := 149) dX9_copyFrom_148 rfl rfl rfl ?_
    refine z_nameH (fun h36 eh37 => ?_)
    have hF := hF h36 eh37
    obtain ⟨g38, hF⟩ := hF
    refine z_getI (c := 9) (k := 10) (r := (RX9, TX9, 13)) (q := 152) dX9_copyFrom_149 rfl (by decide) fl_X9_50 rfl g38 rfl ?_
    obtain ⟨g39, hF⟩ := hF
    refine z_putI (c := 9) (k := 10) (r := (RX9, TX9, 13)) (q := 155) dX9_copyFrom_152 rfl (by decide) fl_X9_50 rfl rfl g39 rfl ?_
    refine z_aload_n (q := 156) dX9_copyFrom_155 rfl rfl rfl ?_
    refine z_aload_n (q := 157) dX9_copyFrom_156 rfl rfl rfl ?_
    refine z_nameH (fun h40 eh41 => ?_)
    have hF := hF h40 eh41
    obtain ⟨g42, hF⟩ := hF
    refine z_getI (c := 9) (k := 11) (r := (RX9, TX9, 13)) (q := 160) dX9_copyFrom_157 rfl (by decide) fl_X9_53 rfl g42 rfl ?_
    obtain ⟨g43, hF⟩ := hF
    refine z_putI (c := 9) (k := 11) (r := (RX9, TX9, 13)) (q := 163) dX9_copyFrom_160 rfl (by decide) fl_X9_53 rfl rfl g43 rfl ?_
    refine z_aload_n (q := 164) dX9_copyFrom_163 rfl rfl rfl ?_
    refine z_aload_n (q := 165) dX9_copyFrom_164 rfl rfl rfl ?_
    refine z_nameH (fun h44 eh45 => ?_)
    have hF := hF h44 eh45
    obtain ⟨g46, hF⟩ := hF
    refine z_getI (c := 9) (k := 12) (r := (RX9, TX9, 13)) (q := 168) dX9_copyFrom_165 rfl (by decide) fl_X9_56 rfl g46 rfl ?_
    obtain ⟨g47, hF⟩ := hF
    refine z_putI (c := 9) (k := 12) (r := (RX9, TX9, 13)) (q := 171) dX9_copyFrom_168 rfl (by decide) fl_X9_56 rfl rfl g47 rfl ?_
    exact z_return dX9_copyFrom_171 rfl ⟨rfl, hF⟩
  · have hF := hF.2 hc
    refine z_aload_n (q := 69) dX9_copyFrom_68 rfl rfl rfl ?_
    obtain ⟨g48, hF⟩ := hF
    obtain ⟨g49, hF⟩ := hF
    refine z_getR (c := 9) (k := 3) (r := (RX9, TX9, 13)) (q := 72) dX9_copyFrom_69 rfl (by decide) fl_X9_21 rfl g48 g49 rfl ?_
    refine z_iload_n (q := 73) dX9_copyFrom_72 rfl rfl rfl ?_
    refine z_aload_n (q := 74) dX9_copyFrom_73 rfl rfl rfl ?_
    obtain ⟨g50, hF⟩ := hF
    obtain ⟨g51, hF⟩ := hF
    refine z_getR (c := 9) (k := 3) (r := (RX9, TX9, 13)) (q := 77) dX9_copyFrom_74 rfl (by decide) fl_X9_21 rfl g50 g51 rfl ?_
    refine z_iload_n (q := 78) dX9_copyFrom_77 rfl rfl rfl ?_
    obtain ⟨g52, hF⟩ := hF
    obtain ⟨g53, hF⟩ := hF
    refine y_bald (j := (Int32.toNatClampNeg l2)) (q := 79) dX9_copyFrom_78 g52 g53 rfl rfl ?_
    obtain ⟨g54, hF⟩ := hF
    obtain ⟨g55, hF⟩ := hF
    obtain ⟨g56, hF⟩ := hF
    refine y_bast (j := (Int32.toNatClampNeg l2)) (q := 80) dX9_copyFrom_79 g54 g55 g56 rfl rfl ?_
    refine z_iinc (q := 83) (v := (l2 + 1)) (L' := [some (.ref l0), some (.ref l1), some (.int (l2 + 1))]) dX9_copyFrom_80 rfl rfl (Nat.le_of_ble_eq_true rfl) rfl rfl rfl ?_
    refine z_goto (q := 62) dX9_copyFrom_83 (by decide) ?_
    exact hF
set_option maxRecDepth 100000 in
set_option maxHeartbeats 4000000 in
theorem wX9_copyFrom {ψ : ZH → Prop} {l0 : Nat} {l1 : Nat} {h : ZH} (hF : (zK h l1 = 10) ∧ ((zR h l1 0) ≠ 0) ∧ (zK h l0 = 10) ∧ ((zR h l0 0) ≠ 0) ∧ (zK h (zR h l0 0) = 20) ∧ (zK h (zR h l1 0) = 20) ∧ ((zR h l0 0) ≠ (zR h l1 0)) ∧ (8 ≤ zN h (zR h l1 0)) ∧ (8 ≤ zN h (zR h l0 0)) ∧ ∀ h66 : ZH, h66 = (zcp h (zR h l1 0) 0 (zR h l0 0) 0 8) → (zK h66 l1 = 10) ∧ ((zR h66 l1 1) ≠ 0) ∧ (zK h66 l0 = 10) ∧ ((zR h66 l0 1) ≠ 0) ∧ (zK h66 (zR h66 l0 1) = 20) ∧ (zK h66 (zR h66 l1 1) = 20) ∧ ((zR h66 l0 1) ≠ (zR h66 l1 1)) ∧ (8 ≤ zN h66 (zR h66 l1 1)) ∧ (8 ≤ zN h66 (zR h66 l0 1)) ∧ ∀ h77 : ZH, h77 = (zcp h66 (zR h66 l1 1) 0 (zR h66 l0 1) 0 8) → (zK h77 l1 = 10) ∧ ((zR h77 l1 2) ≠ 0) ∧ (zK h77 l0 = 10) ∧ ((zR h77 l0 2) ≠ 0) ∧ (zK h77 (zR h77 l0 2) = 20) ∧ (zK h77 (zR h77 l1 2) = 20) ∧ ((zR h77 l0 2) ≠ (zR h77 l1 2)) ∧ (8 ≤ zN h77 (zR h77 l1 2)) ∧ (8 ≤ zN h77 (zR h77 l0 2)) ∧ ∀ h88 : ZH, h88 = (zcp h77 (zR h77 l1 2) 0 (zR h77 l0 2) 0 8) → (zK h88 l1 = 10) ∧ ((zR h88 l1 4) ≠ 0) ∧ (zK h88 l0 = 10) ∧ ((zR h88 l0 4) ≠ 0) ∧ (zK h88 (zR h88 l0 4) = 20) ∧ (zK h88 (zR h88 l1 4) = 20) ∧ ((zR h88 l0 4) ≠ (zR h88 l1 4)) ∧ (8 ≤ zN h88 (zR h88 l1 4)) ∧ (8 ≤ zN h88 (zR h88 l0 4)) ∧ ∀ h99 : ZH, h99 = (zcp h88 (zR h88 l1 4) 0 (zR h88 l0 4) 0 8) → Zt mX9_copyFrom (zPV ψ) 0 0 62 [some (.ref l0), some (.ref l1), some (.int 0)] [] h99) : ZcV mX9_copyFrom [.ref l0, .ref l1] h ψ := by
  refine Zc.intro (L := [some (.ref l0), some (.ref l1), none]) (show plainName RX9 = true by decide) rfl (Nat.le_of_ble_eq_true rfl) ?_
  show Zt _ _ 0 0 _ _ _ _
  refine z_aload_n (q := 1) dX9_copyFrom_0 rfl rfl rfl ?_
  obtain ⟨g57, hF⟩ := hF
  obtain ⟨g58, hF⟩ := hF
  refine z_getR (c := 9) (k := 0) (r := (RX9, TX9, 13)) (q := 4) dX9_copyFrom_1 rfl (by decide) fl_X9_9 rfl g57 g58 rfl ?_
  refine z_iconst (q := 5) (v := 0) dX9_copyFrom_4 (by decide) rfl ?_
  refine z_aload_n (q := 6) dX9_copyFrom_5 rfl rfl rfl ?_
  obtain ⟨g59, hF⟩ := hF
  obtain ⟨g60, hF⟩ := hF
  refine z_getR (c := 9) (k := 0) (r := (RX9, TX9, 13)) (q := 9) dX9_copyFrom_6 rfl (by decide) fl_X9_9 rfl g59 g60 rfl ?_
  refine z_iconst (q := 10) (v := 0) dX9_copyFrom_9 (by decide) rfl ?_
  refine z_bipush (q := 12) (v := 8) dX9_copyFrom_10 (by decide) rfl ?_
  obtain ⟨g61, hF⟩ := hF
  obtain ⟨g62, hF⟩ := hF
  obtain ⟨g63, hF⟩ := hF
  obtain ⟨g64, hF⟩ := hF
  obtain ⟨g65, hF⟩ := hF
  refine z_acp (a := (zR h l0 0)) (b := (zR h l1 0)) (kd := 20) (sp := 0) (dp := 0) (n := 8) (q := 15) dX9_copyFrom_12 aw_X9_44 g61 (Or.inl g62) (by decide) g63 (by decide) (by decide) (by decide) (zadd0 (by decide) (by decide) g64) (zadd0 (by decide) (by decide) g65) (fun e => absurd e (by decide)) (Nat.le_of_ble_eq_true rfl) (by decide) rfl ?_
  refine z_nameH (fun h66 eh67 => ?_)
  have hF := hF h66 eh67
  refine z_aload_n (q := 16) dX9_copyFrom_15 rfl rfl rfl ?_
  obtain ⟨g68, hF⟩ := hF
  obtain ⟨g69, hF⟩ := hF
  refine z_getR (c := 9) (k := 1) (r := (RX9, TX9, 13)) (q := 19) dX9_copyFrom_16 rfl (by decide) fl_X9_15 rfl g68 g69 rfl ?_
  refine z_iconst (q := 20) (v := 0) dX9_copyFrom_19 (by decide) rfl ?_
  refine z_aload_n (q := 21) dX9_copyFrom_20 rfl rfl rfl ?_
  obtain ⟨g70, hF⟩ := hF
  obtain ⟨g71, hF⟩ := hF
  refine z_getR (c := 9) (k := 1) (r := (RX9, TX9, 13)) (q := 24) dX9_copyFrom_21 rfl (by decide) fl_X9_15 rfl g70 g71 rfl ?_
  refine z_iconst (q := 25) (v := 0) dX9_copyFrom_24 (by decide) rfl ?_
  refine z_bipush (q := 27) (v := 8) dX9_copyFrom_25 (by decide) rfl ?_
  obtain ⟨g72, hF⟩ := hF
  obtain ⟨g73, hF⟩ := hF
  obtain ⟨g74, hF⟩ := hF
  obtain ⟨g75, hF⟩ := hF
  obtain ⟨g76, hF⟩ := hF
  refine z_acp (a := (zR h66 l0 1)) (b := (zR h66 l1 1)) (kd := 20) (sp := 0) (dp := 0) (n := 8) (q := 30) dX9_copyFrom_27 aw_X9_44 g72 (Or.inl g73) (by decide) g74 (by decide) (by decide) (by decide) (zadd0 (by decide) (by decide) g75) (zadd0 (by decide) (by decide) g76) (fun e => absurd e (by decide)) (Nat.le_of_ble_eq_true rfl) (by decide) rfl ?_
  refine z_nameH (fun h77 eh78 => ?_)
  have hF := hF h77 eh78
  refine z_aload_n (q := 31) dX9_copyFrom_30 rfl rfl rfl ?_
  obtain ⟨g79, hF⟩ := hF
  obtain ⟨g80, hF⟩ := hF
  refine z_getR (c := 9) (k := 2) (r := (RX9, TX9, 13)) (q := 34) dX9_copyFrom_31 rfl (by decide) fl_X9_18 rfl g79 g80 rfl ?_
  refine z_iconst (q := 35) (v := 0) dX9_copyFrom_34 (by decide) rfl ?_
  refine z_aload_n (q := 36) dX9_copyFrom_35 rfl rfl rfl ?_
  obtain ⟨g81, hF⟩ := hF
  obtain ⟨g82, hF⟩ := hF
  refine z_getR (c := 9) (k := 2) (r := (RX9, TX9, 13)) (q := 39) dX9_copyFrom_36 rfl (by decide) fl_X9_18 rfl g81 g82 rfl ?_
  refine z_iconst (q := 40) (v := 0) dX9_copyFrom_39 (by decide) rfl ?_
  refine z_bipush (q := 42) (v := 8) dX9_copyFrom_40 (by decide) rfl ?_
  obtain ⟨g83, hF⟩ := hF
  obtain ⟨g84, hF⟩ := hF
  obtain ⟨g85, hF⟩ := hF
  obtain ⟨g86, hF⟩ := hF
  obtain ⟨g87, hF⟩ := hF
  refine z_acp (a := (zR h77 l0 2)) (b := (zR h77 l1 2)) (kd := 20) (sp := 0) (dp := 0) (n := 8) (q := 45) dX9_copyFrom_42 aw_X9_44 g83 (Or.inl g84) (by decide) g85 (by decide) (by decide) (by decide) (zadd0 (by decide) (by decide) g86) (zadd0 (by decide) (by decide) g87) (fun e => absurd e (by decide)) (Nat.le_of_ble_eq_true rfl) (by decide) rfl ?_
  refine z_nameH (fun h88 eh89 => ?_)
  have hF := hF h88 eh89
  refine z_aload_n (q := 46) dX9_copyFrom_45 rfl rfl rfl ?_
  obtain ⟨g90, hF⟩ := hF
  obtain ⟨g91, hF⟩ := hF
  refine z_getR (c := 9) (k := 4) (r := (RX9, TX9, 13)) (q := 49) dX9_copyFrom_46 rfl (by decide) fl_X9_25 rfl g90 g91 rfl ?_
  refine z_iconst (q := 50) (v := 0) dX9_copyFrom_49 (by decide) rfl ?_
  refine z_aload_n (q := 51) dX9_copyFrom_50 rfl rfl rfl ?_
  obtain ⟨g92, hF⟩ := hF
  obtain ⟨g93, hF⟩ := hF
  refine z_getR (c := 9) (k := 4) (r := (RX9, TX9, 13)) (q := 54) dX9_copyFrom_51 rfl (by decide) fl_X9_25 rfl g92 g93 rfl ?_
  refine z_iconst (q := 55) (v := 0) dX9_copyFrom_54 (by decide) rfl ?_
  refine z_bipush (q := 57) (v := 8) dX9_copyFrom_55 (by decide) rfl ?_
  obtain ⟨g94, hF⟩ := hF
  obtain ⟨g95, hF⟩ := hF
  obtain ⟨g96, hF⟩ := hF
  obtain ⟨g97, hF⟩ := hF
  obtain ⟨g98, hF⟩ := hF
  refine z_acp (a := (zR h88 l0 4)) (b := (zR h88 l1 4)) (kd := 20) (sp := 0) (dp := 0) (n := 8) (q := 60) dX9_copyFrom_57 aw_X9_44 g94 (Or.inl g95) (by decide) g96 (by decide) (by decide) (by decide) (zadd0 (by decide) (by decide) g97) (zadd0 (by decide) (by decide) g98) (fun e => absurd e (by decide)) (Nat.le_of_ble_eq_true rfl) (by decide) rfl ?_
  refine z_nameH (fun h99 eh100 => ?_)
  have hF := hF h99 eh100
  refine z_iconst (q := 61) (v := 0) dX9_copyFrom_60 (by decide) rfl ?_
  refine z_istore_n (q := 62) (L' := [some (.ref l0), some (.ref l1), some (.int 0)]) dX9_copyFrom_61 rfl (Nat.le_of_ble_eq_true rfl) rfl rfl rfl ?_
  exact hF
set_option maxRecDepth 100000 in
set_option maxHeartbeats 4000000 in
theorem wX9_passMonth_73 {ψ : Int32 → ZH → Prop} {l0 : Nat} {l1 : Int32} {l2 : Int32} {h : ZH} (hF : (zK h l0 = 10) ∧ (((zI h l0 5) ≤ l2 → ψ l1 (zsI h l0 10 ((zI h l0 10) + 1))) ∧ (¬ (zI h l0 5) ≤ l2 → ZcV mX9_drain [.ref l0, .int l2] h (fun h2 => (zK h2 l0 = 10) ∧ ((zR h2 l0 4) ≠ 0) ∧ (zK h2 (zR h2 l0 4) = 20) ∧ (vp_in l2 (zN h2 (zR h2 l0 4))) ∧ ((¬ (zI h2 (zR h2 l0 4) (Int32.toNatClampNeg l2)) = (-6) → Zt mX9_passMonth (zPI ψ) 0 0 73 [some (.ref l0), some (.int l1), some (.int (l2 + 1))] [] h2) ∧ ((zI h2 (zR h2 l0 4) (Int32.toNatClampNeg l2)) = (-6) → ((zR h2 l0 2) ≠ 0) ∧ (zK h2 (zR h2 l0 2) = 20) ∧ (vp_in l2 (zN h2 (zR h2 l0 2))) ∧ ((zR h2 l0 0) ≠ 0) ∧ (zK h2 (zR h2 l0 0) = 20) ∧ (vp_in l2 (zN h2 (zR h2 l0 0))) ∧ (((zI h2 (zR h2 l0 2) (Int32.toNatClampNeg l2)) ≤ ((zI h2 (zR h2 l0 0) (Int32.toNatClampNeg l2)) / 3) → Zt mX9_passMonth (zPI ψ) 0 0 73 [some (.ref l0), some (.int l1), some (.int (l2 + 1))] [] h2) ∧ (¬ (zI h2 (zR h2 l0 2) (Int32.toNatClampNeg l2)) ≤ ((zI h2 (zR h2 l0 0) (Int32.toNatClampNeg l2)) / 3) → Zt mX9_passMonth (zPI ψ) 0 0 73 [some (.ref l0), some (.int (l1 + 1)), some (.int (l2 + 1))] [] (zsI h2 (zR h2 l0 4) (Int32.toNatClampNeg l2) (zI h2 l0 10)))))))))) : Zt mX9_passMonth (zPI ψ) 0 0 73 [some (.ref l0), some (.int l1), some (.int l2)] [] h := by
  refine z_iload_n (q := 74) dX9_passMonth_73 rfl rfl rfl ?_
  refine z_aload_n (q := 75) dX9_passMonth_74 rfl rfl rfl ?_
  obtain ⟨g1, hF⟩ := hF
  refine z_getI (c := 9) (k := 5) (r := (RX9, TX9, 13)) (q := 78) dX9_passMonth_75 rfl (by decide) fl_X9_37 rfl g1 rfl ?_
  refine z_icmp_ge (t := 133) (q := 81) dX9_passMonth_78 (by decide) rfl (fun hc => ?_) (fun hc => ?_)
  · have hF := hF.1 hc
    refine z_aload_n (q := 134) dX9_passMonth_133 rfl rfl rfl ?_
    refine z_dup (q := 135) dX9_passMonth_134 rfl rfl ?_
    refine z_getI (c := 9) (k := 10) (r := (RX9, TX9, 13)) (q := 138) dX9_passMonth_135 rfl (by decide) fl_X9_50 rfl g1 rfl ?_
    refine z_iconst (q := 139) (v := 1) dX9_passMonth_138 (by decide) rfl ?_
    refine z_iadd (q := 140) dX9_passMonth_139 rfl ?_
    refine z_putI (c := 9) (k := 10) (r := (RX9, TX9, 13)) (q := 143) dX9_passMonth_140 rfl (by decide) fl_X9_50 rfl rfl g1 rfl ?_
    refine z_iload_n (q := 144) dX9_passMonth_143 rfl rfl rfl ?_
    exact z_ireturn dX9_passMonth_144 rfl ⟨_, rfl, hF⟩
  · have hF := hF.2 hc
    refine z_aload_n (q := 82) dX9_passMonth_81 rfl rfl rfl ?_
    refine z_iload_n (q := 83) dX9_passMonth_82 rfl rfl rfl ?_
    refine z_callVV (rc := 0) (rs := 0) (b := l0) (av := [.int l2]) (ci := 9) (r := (RX9, TX9, 13)) (q := 86) hF dX9_passMonth_83 ml_X9_63 ok_X9_drain in_X9_drain se_X9_drain rfl rfl g1 rfl (Nat.le_of_ble_eq_true rfl) (by decide) (Nat.le_of_ble_eq_true rfl) rfl rfl rfl rfl (fun h2 hF => ?_)
    refine z_aload_n (q := 87) dX9_passMonth_86 rfl rfl rfl ?_
    obtain ⟨g3, hF⟩ := hF
    obtain ⟨g4, hF⟩ := hF
    refine z_getR (c := 9) (k := 4) (r := (RX9, TX9, 13)) (q := 90) dX9_passMonth_87 rfl (by decide) fl_X9_25 rfl g3 g4 rfl ?_
    refine z_iload_n (q := 91) dX9_passMonth_90 rfl rfl rfl ?_
    obtain ⟨g5, hF⟩ := hF
    obtain ⟨g6, hF⟩ := hF
    refine y_iald (j := (Int32.toNatClampNeg l2)) (q := 92) dX9_passMonth_91 (Or.inl g5) g6 rfl rfl ?_
    refine z_bipush (q := 94) (v := (-6)) dX9_passMonth_92 (by decide) rfl ?_
    refine z_icmp_ne (t := 127) (q := 97) dX9_passMonth_94 (by decide) rfl (fun hc => ?_) (fun hc => ?_)
    · have hF := hF.1 hc
      refine z_iinc (q := 130) (v := (l2 + 1)) (L' := [some (.ref l0), some (.int l1), some (.int (l2 + 1))]) dX9_passMonth_127 rfl rfl (Nat.le_of_ble_eq_true rfl) rfl rfl rfl ?_
      refine z_goto (q := 73) dX9_passMonth_130 (by decide) ?_
      exact hF
    · have hF := hF.2 hc
      refine z_aload_n (q := 98) dX9_passMonth_97 rfl rfl rfl ?_
      obtain ⟨g7, hF⟩ := hF
      refine z_getR (c := 9) (k := 2) (r := (RX9, TX9, 13)) (q := 101) dX9_passMonth_98 rfl (by decide) fl_X9_18 rfl g3 g7 rfl ?_
      refine z_iload_n (q := 102) dX9_passMonth_101 rfl rfl rfl ?_
      obtain ⟨g8, hF⟩ := hF
      obtain ⟨g9, hF⟩ := hF
      refine y_iald (j := (Int32.toNatClampNeg l2)) (q := 103) dX9_passMonth_102 (Or.inl g8) g9 rfl rfl ?_
      refine z_aload_n (q := 104) dX9_passMonth_103 rfl rfl rfl ?_
      obtain ⟨g10, hF⟩ := hF
      refine z_getR (c := 9) (k := 0) (r := (RX9, TX9, 13)) (q := 107) dX9_passMonth_104 rfl (by decide) fl_X9_9 rfl g3 g10 rfl ?_
      refine z_iload_n (q := 108) dX9_passMonth_107 rfl rfl rfl ?_
      obtain ⟨g11, hF⟩ := hF
      obtain ⟨g12, hF⟩ := hF
      refine y_iald (j := (Int32.toNatClampNeg l2)) (q := 109) dX9_passMonth_108 (Or.inl g11) g12 rfl rfl ?_
      refine z_iconst (q := 110) (v := 3) dX9_passMonth_109 (by decide) rfl ?_
      refine z_idiv (q := 111) dX9_passMonth_110 (by decide) rfl ?_
      refine z_icmp_le (t := 127) (q := 114) dX9_passMonth_111 (by decide) rfl (fun hc => ?_) (fun hc => ?_)
      · have hF := hF.1 hc
        refine z_iinc (q := 130) (v := (l2 + 1)) (L' := [some (.ref l0), some (.int l1), some (.int (l2 + 1))]) dX9_passMonth_127 rfl rfl (Nat.le_of_ble_eq_true rfl) rfl rfl rfl ?_
        refine z_goto (q := 73) dX9_passMonth_130 (by decide) ?_
        exact hF
      · have hF := hF.2 hc
        refine z_aload_n (q := 115) dX9_passMonth_114 rfl rfl rfl ?_
        refine z_getR (c := 9) (k := 4) (r := (RX9, TX9, 13)) (q := 118) dX9_passMonth_115 rfl (by decide) fl_X9_25 rfl g3 g4 rfl ?_
        refine z_iload_n (q := 119) dX9_passMonth_118 rfl rfl rfl ?_
        refine z_aload_n (q := 120) dX9_passMonth_119 rfl rfl rfl ?_
        refine z_getI (c := 9) (k := 10) (r := (RX9, TX9, 13)) (q := 123) dX9_passMonth_120 rfl (by decide) fl_X9_50 rfl g3 rfl ?_
        refine y_iast (j := (Int32.toNatClampNeg l2)) (q := 124) dX9_passMonth_123 g5 g6 rfl rfl ?_
        refine z_iinc (q := 127) (v := (l1 + 1)) (L' := [some (.ref l0), some (.int (l1 + 1)), some (.int l2)]) dX9_passMonth_124 rfl rfl (Nat.le_of_ble_eq_true rfl) rfl rfl rfl ?_
        refine z_iinc (q := 130) (v := (l2 + 1)) (L' := [some (.ref l0), some (.int (l1 + 1)), some (.int (l2 + 1))]) dX9_passMonth_127 rfl rfl (Nat.le_of_ble_eq_true rfl) rfl rfl rfl ?_
        refine z_goto (q := 73) dX9_passMonth_130 (by decide) ?_
        exact hF
set_option maxRecDepth 100000 in
set_option maxHeartbeats 4000000 in
theorem wX9_passMonth_33 {ψ : Int32 → ZH → Prop} {l0 : Nat} {l1 : Int32} {h : ZH} (hF : (zK h l0 = 10) ∧ (((zI h l0 9) ≤ l1 → Zt mX9_passMonth (zPI ψ) 0 0 73 [some (.ref l0), some (.int 0), some (.int 0)] [] h) ∧ (¬ (zI h l0 9) ≤ l1 → ((zR h l0 6) ≠ 0) ∧ (zK h (zR h l0 6) = 20) ∧ (vp_in l1 (zN h (zR h l0 6))) ∧ ((zR h l0 7) ≠ 0) ∧ (zK h (zR h l0 7) = 20) ∧ (vp_in l1 (zN h (zR h l0 7))) ∧ ((zR h l0 8) ≠ 0) ∧ (zK h (zR h l0 8) = 20) ∧ (vp_in l1 (zN h (zR h l0 8))) ∧ ZcV mX9_runThrough [.ref l0, .int (zI h (zR h l0 6) (Int32.toNatClampNeg l1)), .int (zI h (zR h l0 7) (Int32.toNatClampNeg l1)), .int (zI h (zR h l0 8) (Int32.toNatClampNeg l1))] h (fun h23 => Zt mX9_passMonth (zPI ψ) 0 0 33 [some (.ref l0), some (.int (l1 + 1)), none] [] h23)))) : Zt mX9_passMonth (zPI ψ) 0 0 33 [some (.ref l0), some (.int l1), none] [] h := by
  refine z_iload_n (q := 34) dX9_passMonth_33 rfl rfl rfl ?_
  refine z_aload_n (q := 35) dX9_passMonth_34 rfl rfl rfl ?_
  obtain ⟨g13, hF⟩ := hF
  refine z_getI (c := 9) (k := 9) (r := (RX9, TX9, 13)) (q := 38) dX9_passMonth_35 rfl (by decide) fl_X9_41 rfl g13 rfl ?_
  refine z_icmp_ge (t := 69) (q := 41) dX9_passMonth_38 (by decide) rfl (fun hc => ?_) (fun hc => ?_)
  · have hF := hF.1 hc
    refine z_iconst (q := 70) (v := 0) dX9_passMonth_69 (by decide) rfl ?_
    refine z_istore_n (q := 71) (L' := [some (.ref l0), some (.int 0), none]) dX9_passMonth_70 rfl (Nat.le_of_ble_eq_true rfl) rfl rfl rfl ?_
    refine z_iconst (q := 72) (v := 0) dX9_passMonth_71 (by decide) rfl ?_
    refine z_istore_n (q := 73) (L' := [some (.ref l0), some (.int 0), some (.int 0)]) dX9_passMonth_72 rfl (Nat.le_of_ble_eq_true rfl) rfl rfl rfl ?_
    exact hF
  · have hF := hF.2 hc
    refine z_aload_n (q := 42) dX9_passMonth_41 rfl rfl rfl ?_
    refine z_aload_n (q := 43) dX9_passMonth_42 rfl rfl rfl ?_
    obtain ⟨g14, hF⟩ := hF
    refine z_getR (c := 9) (k := 6) (r := (RX9, TX9, 13)) (q := 46) dX9_passMonth_43 rfl (by decide) fl_X9_28 rfl g13 g14 rfl ?_
    refine z_iload_n (q := 47) dX9_passMonth_46 rfl rfl rfl ?_
    obtain ⟨g15, hF⟩ := hF
    obtain ⟨g16, hF⟩ := hF
    refine y_iald (j := (Int32.toNatClampNeg l1)) (q := 48) dX9_passMonth_47 (Or.inl g15) g16 rfl rfl ?_
    refine z_aload_n (q := 49) dX9_passMonth_48 rfl rfl rfl ?_
    obtain ⟨g17, hF⟩ := hF
    refine z_getR (c := 9) (k := 7) (r := (RX9, TX9, 13)) (q := 52) dX9_passMonth_49 rfl (by decide) fl_X9_31 rfl g13 g17 rfl ?_
    refine z_iload_n (q := 53) dX9_passMonth_52 rfl rfl rfl ?_
    obtain ⟨g18, hF⟩ := hF
    obtain ⟨g19, hF⟩ := hF
    refine y_iald (j := (Int32.toNatClampNeg l1)) (q := 54) dX9_passMonth_53 (Or.inl g18) g19 rfl rfl ?_
    refine z_aload_n (q := 55) dX9_passMonth_54 rfl rfl rfl ?_
    obtain ⟨g20, hF⟩ := hF
    refine z_getR (c := 9) (k := 8) (r := (RX9, TX9, 13)) (q := 58) dX9_passMonth_55 rfl (by decide) fl_X9_34 rfl g13 g20 rfl ?_
    refine z_iload_n (q := 59) dX9_passMonth_58 rfl rfl rfl ?_
    obtain ⟨g21, hF⟩ := hF
    obtain ⟨g22, hF⟩ := hF
    refine y_iald (j := (Int32.toNatClampNeg l1)) (q := 60) dX9_passMonth_59 (Or.inl g21) g22 rfl rfl ?_
    refine z_callVV (rc := 0) (rs := 0) (b := l0) (av := [.int (zI h (zR h l0 6) (Int32.toNatClampNeg l1)), .int (zI h (zR h l0 7) (Int32.toNatClampNeg l1)), .int (zI h (zR h l0 8) (Int32.toNatClampNeg l1))]) (ci := 9) (r := (RX9, TX9, 13)) (q := 63) hF dX9_passMonth_60 ml_X9_59 ok_X9_runThrough in_X9_runThrough se_X9_runThrough rfl rfl g13 rfl (Nat.le_of_ble_eq_true rfl) (by decide) (Nat.le_of_ble_eq_true rfl) rfl rfl rfl rfl (fun h23 hF => ?_)
    refine z_iinc (q := 66) (v := (l1 + 1)) (L' := [some (.ref l0), some (.int (l1 + 1)), none]) dX9_passMonth_63 rfl rfl (Nat.le_of_ble_eq_true rfl) rfl rfl rfl ?_
    refine z_goto (q := 33) dX9_passMonth_66 (by decide) ?_
    exact hF
set_option maxRecDepth 100000 in
set_option maxHeartbeats 4000000 in
theorem wX9_passMonth_2 {ψ : Int32 → ZH → Prop} {l0 : Nat} {l1 : Int32} {h : ZH} (hF : (zK h l0 = 10) ∧ (((zI h l0 5) ≤ l1 → Zt mX9_passMonth (zPI ψ) 0 0 33 [some (.ref l0), some (.int 0), none] [] h) ∧ (¬ (zI h l0 5) ≤ l1 → ((zR h l0 2) ≠ 0) ∧ (zK h (zR h l0 2) = 20) ∧ (vp_in l1 (zN h (zR h l0 2))) ∧ ((zR h l0 1) ≠ 0) ∧ (zK h (zR h l0 1) = 20) ∧ (vp_in l1 (zN h (zR h l0 1))) ∧ Zt mX9_passMonth (zPI ψ) 0 0 2 [some (.ref l0), some (.int (l1 + 1)), none] [] (zsI h (zR h l0 2) (Int32.toNatClampNeg l1) ((zI h (zR h l0 2) (Int32.toNatClampNeg l1)) + (zI h (zR h l0 1) (Int32.toNatClampNeg l1))))))) : Zt mX9_passMonth (zPI ψ) 0 0 2 [some (.ref l0), some (.int l1), none] [] h := by
  refine z_iload_n (q := 3) dX9_passMonth_2 rfl rfl rfl ?_
  refine z_aload_n (q := 4) dX9_passMonth_3 rfl rfl rfl ?_
  obtain ⟨g24, hF⟩ := hF
  refine z_getI (c := 9) (k := 5) (r := (RX9, TX9, 13)) (q := 7) dX9_passMonth_4 rfl (by decide) fl_X9_37 rfl g24 rfl ?_
  refine z_icmp_ge (t := 31) (q := 10) dX9_passMonth_7 (by decide) rfl (fun hc => ?_) (fun hc => ?_)
  · have hF := hF.1 hc
    refine z_iconst (q := 32) (v := 0) dX9_passMonth_31 (by decide) rfl ?_
    refine z_istore_n (q := 33) (L' := [some (.ref l0), some (.int 0), none]) dX9_passMonth_32 rfl (Nat.le_of_ble_eq_true rfl) rfl rfl rfl ?_
    exact hF
  · have hF := hF.2 hc
    refine z_aload_n (q := 11) dX9_passMonth_10 rfl rfl rfl ?_
    obtain ⟨g25, hF⟩ := hF
    refine z_getR (c := 9) (k := 2) (r := (RX9, TX9, 13)) (q := 14) dX9_passMonth_11 rfl (by decide) fl_X9_18 rfl g24 g25 rfl ?_
    refine z_iload_n (q := 15) dX9_passMonth_14 rfl rfl rfl ?_
    refine z_dup2 (q := 16) dX9_passMonth_15 rfl rfl rfl ?_
    obtain ⟨g26, hF⟩ := hF
    obtain ⟨g27, hF⟩ := hF
    refine y_iald (j := (Int32.toNatClampNeg l1)) (q := 17) dX9_passMonth_16 (Or.inl g26) g27 rfl rfl ?_
    refine z_aload_n (q := 18) dX9_passMonth_17 rfl rfl rfl ?_
    obtain ⟨g28, hF⟩ := hF
    refine z_getR (c := 9) (k := 1) (r := (RX9, TX9, 13)) (q := 21) dX9_passMonth_18 rfl (by decide) fl_X9_15 rfl g24 g28 rfl ?_
    refine z_iload_n (q := 22) dX9_passMonth_21 rfl rfl rfl ?_
    obtain ⟨g29, hF⟩ := hF
    obtain ⟨g30, hF⟩ := hF
    refine y_iald (j := (Int32.toNatClampNeg l1)) (q := 23) dX9_passMonth_22 (Or.inl g29) g30 rfl rfl ?_
    refine z_iadd (q := 24) dX9_passMonth_23 rfl ?_
    refine y_iast (j := (Int32.toNatClampNeg l1)) (q := 25) dX9_passMonth_24 g26 g27 rfl rfl ?_
    refine z_iinc (q := 28) (v := (l1 + 1)) (L' := [some (.ref l0), some (.int (l1 + 1)), none]) dX9_passMonth_25 rfl rfl (Nat.le_of_ble_eq_true rfl) rfl rfl rfl ?_
    refine z_goto (q := 2) dX9_passMonth_28 (by decide) ?_
    exact hF
set_option maxRecDepth 100000 in
set_option maxHeartbeats 4000000 in
theorem wX9_passMonth {ψ : Int32 → ZH → Prop} {l0 : Nat} {h : ZH} (hF : Zt mX9_passMonth (zPI ψ) 0 0 2 [some (.ref l0), some (.int 0), none] [] h) : ZcI mX9_passMonth [.ref l0] h ψ := by
  refine Zc.intro (L := [some (.ref l0), none, none]) (show plainName RX9 = true by decide) rfl (Nat.le_of_ble_eq_true rfl) ?_
  show Zt _ _ 0 0 _ _ _ _
  refine z_iconst (q := 1) (v := 0) dX9_passMonth_0 (by decide) rfl ?_
  refine z_istore_n (q := 2) (L' := [some (.ref l0), some (.int 0), none]) dX9_passMonth_1 rfl (Nat.le_of_ble_eq_true rfl) rfl rfl rfl ?_
  exact hF
set_option maxRecDepth 100000 in
set_option maxHeartbeats 4000000 in
theorem wX9_runThrough_33 {ψ : ZH → Prop} {l0 : Nat} {l3 : Int32} {l4 : Int32} {s0 : Int32} {h : ZH} (hF : (zK h l0 = 10) ∧ ((zR h l0 2) ≠ 0) ∧ (zK h (zR h l0 2) = 20) ∧ (vp_in l4 (zN h (zR h l0 2))) ∧ (vp_in s0 (zN h (zR h l0 2))) ∧ ∀ v6 : Int32, v6 = ((zI h (zR h l0 2) (Int32.toNatClampNeg l4)) - (if l3 < (zI h (zR h l0 2) (Int32.toNatClampNeg s0)) then (zI h (zR h l0 2) (Int32.toNatClampNeg s0)) else l3)) → ((v6 ≤ 0 → ψ h) ∧ (¬ v6 ≤ 0 → ∀ h8 : ZH, h8 = (zsI h (zR h l0 2) (Int32.toNatClampNeg l4) ((zI h (zR h l0 2) (Int32.toNatClampNeg l4)) - (v6 / 2))) → (zK h8 (zR h l0 2) = 20) ∧ (vp_in s0 (zN h8 (zR h l0 2))) ∧ ψ (zsI h8 (zR h l0 2) (Int32.toNatClampNeg s0) ((zI h8 (zR h l0 2) (Int32.toNatClampNeg s0)) + (v6 / 2)))))) : Zt mX9_runThrough (zPV ψ) 0 0 33 [some (.ref l0), none, none, some (.int l3), some (.int l4), none, none] [.int s0] h := by
  refine z_istore (q := 35) (L' := [some (.ref l0), none, none, some (.int l3), some (.int l4), some (.int s0), none]) dX9_runThrough_33 (Nat.le_of_ble_eq_true rfl) rfl rfl rfl ?_
  refine z_aload_n (q := 36) dX9_runThrough_35 rfl rfl rfl ?_
  obtain ⟨g1, hF⟩ := hF
  obtain ⟨g2, hF⟩ := hF
  refine z_getR (c := 9) (k := 2) (r := (RX9, TX9, 13)) (q := 39) dX9_runThrough_36 rfl (by decide) fl_X9_18 rfl g1 g2 rfl ?_
  refine z_iload (q := 41) dX9_runThrough_39 rfl rfl ?_
  obtain ⟨g3, hF⟩ := hF
  obtain ⟨g4, hF⟩ := hF
  refine y_iald (j := (Int32.toNatClampNeg l4)) (q := 42) dX9_runThrough_41 (Or.inl g3) g4 rfl rfl ?_
  refine z_iload_n (q := 43) dX9_runThrough_42 rfl rfl rfl ?_
  refine z_aload_n (q := 44) dX9_runThrough_43 rfl rfl rfl ?_
  refine z_getR (c := 9) (k := 2) (r := (RX9, TX9, 13)) (q := 47) dX9_runThrough_44 rfl (by decide) fl_X9_18 rfl g1 g2 rfl ?_
  refine z_iload (q := 49) dX9_runThrough_47 rfl rfl ?_
  obtain ⟨g5, hF⟩ := hF
  refine y_iald (j := (Int32.toNatClampNeg s0)) (q := 50) dX9_runThrough_49 (Or.inl g3) g5 rfl rfl ?_
  refine z_mmax (q := 53) dX9_runThrough_50 mw_X9_67 (Nat.le_of_ble_eq_true rfl) (by decide) rfl ?_
  refine z_isub (q := 54) dX9_runThrough_53 rfl ?_
  refine z_nameI (fun v6 ev7 => ?_)
  have hF := hF v6 ev7
  refine z_istore (q := 56) (L' := [some (.ref l0), none, none, some (.int l3), some (.int l4), some (.int s0), some (.int v6)]) dX9_runThrough_54 (Nat.le_of_ble_eq_true rfl) rfl rfl rfl ?_
  refine z_iload (q := 58) dX9_runThrough_56 rfl rfl ?_
  refine z_if_le (t := 89) (q := 61) dX9_runThrough_58 (by decide) rfl (fun hc => ?_) (fun hc => ?_)
  · have hF := hF.1 hc
    exact z_return dX9_runThrough_89 rfl ⟨rfl, hF⟩
  · have hF := hF.2 hc
    refine z_aload_n (q := 62) dX9_runThrough_61 rfl rfl rfl ?_
    refine z_getR (c := 9) (k := 2) (r := (RX9, TX9, 13)) (q := 65) dX9_runThrough_62 rfl (by decide) fl_X9_18 rfl g1 g2 rfl ?_
    refine z_iload (q := 67) dX9_runThrough_65 rfl rfl ?_
    refine z_dup2 (q := 68) dX9_runThrough_67 rfl rfl rfl ?_
    refine y_iald (j := (Int32.toNatClampNeg l4)) (q := 69) dX9_runThrough_68 (Or.inl g3) g4 rfl rfl ?_
    refine z_iload (q := 71) dX9_runThrough_69 rfl rfl ?_
    refine z_iconst (q := 72) (v := 2) dX9_runThrough_71 (by decide) rfl ?_
    refine z_idiv (q := 73) dX9_runThrough_72 (by decide) rfl ?_
    refine z_isub (q := 74) dX9_runThrough_73 rfl ?_
    refine y_iast (j := (Int32.toNatClampNeg l4)) (q := 75) dX9_runThrough_74 g3 g4 rfl rfl ?_
    refine z_aload_n (q := 76) dX9_runThrough_75 rfl rfl rfl ?_
    refine z_getR (c := 9) (k := 2) (r := (RX9, TX9, 13)) (q := 79) dX9_runThrough_76 rfl (by decide) fl_X9_18 rfl g1 g2 rfl ?_
    refine z_iload (q := 81) dX9_runThrough_79 rfl rfl ?_
    refine z_dup2 (q := 82) dX9_runThrough_81 rfl rfl rfl ?_
    refine z_nameH (fun h8 eh9 => ?_)
    have hF := hF h8 eh9
    obtain ⟨g10, hF⟩ := hF
    obtain ⟨g11, hF⟩ := hF
    refine y_iald (j := (Int32.toNatClampNeg s0)) (q := 83) dX9_runThrough_82 (Or.inl g10) g11 rfl rfl ?_
    refine z_iload (q := 85) dX9_runThrough_83 rfl rfl ?_
    refine z_iconst (q := 86) (v := 2) dX9_runThrough_85 (by decide) rfl ?_
    refine z_idiv (q := 87) dX9_runThrough_86 (by decide) rfl ?_
    refine z_iadd (q := 88) dX9_runThrough_87 rfl ?_
    refine y_iast (j := (Int32.toNatClampNeg s0)) (q := 89) dX9_runThrough_88 g10 g11 rfl rfl ?_
    exact z_return dX9_runThrough_89 rfl ⟨rfl, hF⟩
set_option maxRecDepth 100000 in
set_option maxHeartbeats 4000000 in
theorem wX9_runThrough {ψ : ZH → Prop} {l0 : Nat} {l1 : Int32} {l2 : Int32} {l3 : Int32} {h : ZH} (hF : (zK h l0 = 10) ∧ ((zR h l0 2) ≠ 0) ∧ (zK h (zR h l0 2) = 20) ∧ (vp_in l1 (zN h (zR h l0 2))) ∧ (vp_in l2 (zN h (zR h l0 2))) ∧ (((zI h (zR h l0 2) (Int32.toNatClampNeg l1)) ≤ (zI h (zR h l0 2) (Int32.toNatClampNeg l2)) → ((¬ l2 = l1 → Zt mX9_runThrough (zPV ψ) 0 0 33 [some (.ref l0), none, none, some (.int l3), some (.int l2), none, none] [.int l1] h) ∧ (l2 = l1 → Zt mX9_runThrough (zPV ψ) 0 0 33 [some (.ref l0), none, none, some (.int l3), some (.int l2), none, none] [.int l2] h))) ∧ (¬ (zI h (zR h l0 2) (Int32.toNatClampNeg l1)) ≤ (zI h (zR h l0 2) (Int32.toNatClampNeg l2)) → ((¬ l1 = l1 → Zt mX9_runThrough (zPV ψ) 0 0 33 [some (.ref l0), none, none, some (.int l3), some (.int l1), none, none] [.int l1] h) ∧ (l1 = l1 → Zt mX9_runThrough (zPV ψ) 0 0 33 [some (.ref l0), none, none, some (.int l3), some (.int l1), none, none] [.int l2] h))))) : ZcV mX9_runThrough [.ref l0, .int l1, .int l2, .int l3] h ψ := by
  refine Zc.intro (L := [some (.ref l0), some (.int l1), some (.int l2), some (.int l3), none, none, none]) (show plainName RX9 = true by decide) rfl (Nat.le_of_ble_eq_true rfl) ?_
  show Zt _ _ 0 0 _ _ _ _
  refine z_aload_n (q := 1) dX9_runThrough_0 rfl rfl rfl ?_
  obtain ⟨g12, hF⟩ := hF
  obtain ⟨g13, hF⟩ := hF
  refine z_getR (c := 9) (k := 2) (r := (RX9, TX9, 13)) (q := 4) dX9_runThrough_1 rfl (by decide) fl_X9_18 rfl g12 g13 rfl ?_
  refine z_iload_n (q := 5) dX9_runThrough_4 rfl rfl rfl ?_
  obtain ⟨g14, hF⟩ := hF
  obtain ⟨g15, hF⟩ := hF
  refine y_iald (j := (Int32.toNatClampNeg l1)) (q := 6) dX9_runThrough_5 (Or.inl g14) g15 rfl rfl ?_
  refine z_aload_n (q := 7) dX9_runThrough_6 rfl rfl rfl ?_
  refine z_getR (c := 9) (k := 2) (r := (RX9, TX9, 13)) (q := 10) dX9_runThrough_7 rfl (by decide) fl_X9_18 rfl g12 g13 rfl ?_
  refine z_iload_n (q := 11) dX9_runThrough_10 rfl rfl rfl ?_
  obtain ⟨g16, hF⟩ := hF
  refine y_iald (j := (Int32.toNatClampNeg l2)) (q := 12) dX9_runThrough_11 (Or.inl g14) g16 rfl rfl ?_
  refine z_icmp_le (t := 19) (q := 15) dX9_runThrough_12 (by decide) rfl (fun hc => ?_) (fun hc => ?_)
  · have hF := hF.1 hc
    refine z_iload_n (q := 20) dX9_runThrough_19 rfl rfl rfl ?_
    refine z_istore (q := 22) (L' := [some (.ref l0), some (.int l1), some (.int l2), some (.int l3), some (.int l2), none, none]) dX9_runThrough_20 (Nat.le_of_ble_eq_true rfl) rfl rfl rfl ?_
    refine z_iload (q := 24) dX9_runThrough_22 rfl rfl ?_
    refine z_iload_n (q := 25) dX9_runThrough_24 rfl rfl rfl ?_
    refine z_icmp_ne (t := 32) (q := 28) dX9_runThrough_25 (by decide) rfl (fun hc => ?_) (fun hc => ?_)
    · have hF := hF.1 hc
      refine z_iload_n (q := 33) dX9_runThrough_32 rfl rfl rfl ?_
      refine Zt.drop (i := 1) (L' := [some (.ref l0), none, some (.int l2), some (.int l3), some (.int l2), none, none]) rfl ?_
      refine Zt.drop (i := 2) (L' := [some (.ref l0), none, none, some (.int l3), some (.int l2), none, none]) rfl ?_
      exact hF
    · have hF := hF.2 hc
      refine z_iload_n (q := 29) dX9_runThrough_28 rfl rfl rfl ?_
      refine z_goto (q := 33) dX9_runThrough_29 (by decide) ?_
      refine Zt.drop (i := 1) (L' := [some (.ref l0), none, some (.int l2), some (.int l3), some (.int l2), none, none]) rfl ?_
      refine Zt.drop (i := 2) (L' := [some (.ref l0), none, none, some (.int l3), some (.int l2), none, none]) rfl ?_
      exact hF
  · have hF := hF.2 hc
    refine z_iload_n (q := 16) dX9_runThrough_15 rfl rfl rfl ?_
    refine z_goto (q := 20) dX9_runThrough_16 (by decide) ?_
    refine z_istore (q := 22) (L' := [some (.ref l0), some (.int l1), some (.int l2), some (.int l3), some (.int l1), none, none]) dX9_runThrough_20 (Nat.le_of_ble_eq_true rfl) rfl rfl rfl ?_
    refine z_iload (q := 24) dX9_runThrough_22 rfl rfl ?_
    refine z_iload_n (q := 25) dX9_runThrough_24 rfl rfl rfl ?_
    refine z_icmp_ne (t := 32) (q := 28) dX9_runThrough_25 (by decide) rfl (fun hc => ?_) (fun hc => ?_)
    · have hF := hF.1 hc
      refine z_iload_n (q := 33) dX9_runThrough_32 rfl rfl rfl ?_
      refine Zt.drop (i := 1) (L' := [some (.ref l0), none, some (.int l2), some (.int l3), some (.int l1), none, none]) rfl ?_
      refine Zt.drop (i := 2) (L' := [some (.ref l0), none, none, some (.int l3), some (.int l1), none, none]) rfl ?_
      exact hF
    · have hF := hF.2 hc
      refine z_iload_n (q := 29) dX9_runThrough_28 rfl rfl rfl ?_
      refine z_goto (q := 33) dX9_runThrough_29 (by decide) ?_
      refine Zt.drop (i := 1) (L' := [some (.ref l0), none, some (.int l2), some (.int l3), some (.int l1), none, none]) rfl ?_
      refine Zt.drop (i := 2) (L' := [some (.ref l0), none, none, some (.int l3), some (.int l1), none, none]) rfl ?_
      exact hF
set_option maxRecDepth 100000 in
set_option maxHeartbeats 4000000 in
theorem wX9_drain {ψ : ZH → Prop} {l0 : Nat} {l1 : Int32} {h : ZH} (hF : (zK h l0 = 10) ∧ ((zR h l0 3) ≠ 0) ∧ (zK h (zR h l0 3) = 21) ∧ (vp_in l1 (zN h (zR h l0 3))) ∧ (((zI h (zR h l0 3) (Int32.toNatClampNeg l1)) = 0 → ((zR h l0 2) ≠ 0) ∧ (zK h (zR h l0 2) = 20) ∧ (vp_in l1 (zN h (zR h l0 2))) ∧ ((zR h l0 0) ≠ 0) ∧ (zK h (zR h l0 0) = 20) ∧ (vp_in l1 (zN h (zR h l0 0))) ∧ (((zI h (zR h l0 2) (Int32.toNatClampNeg l1)) ≤ (zI h (zR h l0 0) (Int32.toNatClampNeg l1)) → ψ h) ∧ (¬ (zI h (zR h l0 2) (Int32.toNatClampNeg l1)) ≤ (zI h (zR h l0 0) (Int32.toNatClampNeg l1)) → ∀ h11 : ZH, h11 = (zsI h l0 12 ((zI h l0 12) + ((zI h (zR h l0 2) (Int32.toNatClampNeg l1)) - (zI h (zR h l0 0) (Int32.toNatClampNeg l1))))) → (zK h11 (zR h l0 0) = 20) ∧ (vp_in l1 (zN h11 (zR h l0 0))) ∧ (zK h11 (zR h l0 2) = 20) ∧ (vp_in l1 (zN h11 (zR h l0 2))) ∧ ψ (zsI h11 (zR h l0 2) (Int32.toNatClampNeg l1) (zI h11 (zR h l0 0) (Int32.toNatClampNeg l1)))))) ∧ (¬ (zI h (zR h l0 3) (Int32.toNatClampNeg l1)) = 0 → ((zR h l0 2) ≠ 0) ∧ (zK h (zR h l0 2) = 20) ∧ (vp_in l1 (zN h (zR h l0 2))) ∧ ψ (zsI (zsI h l0 11 ((zI h l0 11) + (zI h (zR h l0 2) (Int32.toNatClampNeg l1)))) (zR h l0 2) (Int32.toNatClampNeg l1) 0)))) : ZcV mX9_drain [.ref l0, .int l1] h ψ := by
  refine Zc.intro (L := [some (.ref l0), some (.int l1)]) (show plainName RX9 = true by decide) rfl (Nat.le_of_ble_eq_true rfl) ?_
  show Zt _ _ 0 0 _ _ _ _
  refine z_aload_n (q := 1) dX9_drain_0 rfl rfl rfl ?_
  obtain ⟨g1, hF⟩ := hF
  obtain ⟨g2, hF⟩ := hF
  refine z_getR (c := 9) (k := 3) (r := (RX9, TX9, 13)) (q := 4) dX9_drain_1 rfl (by decide) fl_X9_21 rfl g1 g2 rfl ?_
  refine z_iload_n (q := 5) dX9_drain_4 rfl rfl rfl ?_
  obtain ⟨g3, hF⟩ := hF
  obtain ⟨g4, hF⟩ := hF
  refine y_bald (j := (Int32.toNatClampNeg l1)) (q := 6) dX9_drain_5 g3 g4 rfl rfl ?_
  refine z_if_eq (t := 34) (q := 9) dX9_drain_6 (by decide) rfl (fun hc => ?_) (fun hc => ?_)
  · have hF := hF.1 hc
    refine z_aload_n (q := 35) dX9_drain_34 rfl rfl rfl ?_
    obtain ⟨g5, hF⟩ := hF
    refine z_getR (c := 9) (k := 2) (r := (RX9, TX9, 13)) (q := 38) dX9_drain_35 rfl (by decide) fl_X9_18 rfl g1 g5 rfl ?_
    refine z_iload_n (q := 39) dX9_drain_38 rfl rfl rfl ?_
    obtain ⟨g6, hF⟩ := hF
    obtain ⟨g7, hF⟩ := hF
    refine y_iald (j := (Int32.toNatClampNeg l1)) (q := 40) dX9_drain_39 (Or.inl g6) g7 rfl rfl ?_
    refine z_aload_n (q := 41) dX9_drain_40 rfl rfl rfl ?_
    obtain ⟨g8, hF⟩ := hF
    refine z_getR (c := 9) (k := 0) (r := (RX9, TX9, 13)) (q := 44) dX9_drain_41 rfl (by decide) fl_X9_9 rfl g1 g8 rfl ?_
    refine z_iload_n (q := 45) dX9_drain_44 rfl rfl rfl ?_
    obtain ⟨g9, hF⟩ := hF
    obtain ⟨g10, hF⟩ := hF
    refine y_iald (j := (Int32.toNatClampNeg l1)) (q := 46) dX9_drain_45 (Or.inl g9) g10 rfl rfl ?_
    refine z_icmp_le (t := 83) (q := 49) dX9_drain_46 (by decide) rfl (fun hc => ?_) (fun hc => ?_)
    · have hF := hF.1 hc
      exact z_return dX9_drain_83 rfl ⟨rfl, hF⟩
    · have hF := hF.2 hc
      refine z_aload_n (q := 50) dX9_drain_49 rfl rfl rfl ?_
      refine z_dup (q := 51) dX9_drain_50 rfl rfl ?_
      refine z_getI (c := 9) (k := 12) (r := (RX9, TX9, 13)) (q := 54) dX9_drain_51 rfl (by decide) fl_X9_56 rfl g1 rfl ?_
      refine z_aload_n (q := 55) dX9_drain_54 rfl rfl rfl ?_
      refine z_getR (c := 9) (k := 2) (r := (RX9, TX9, 13)) (q := 58) dX9_drain_55 rfl (by decide) fl_X9_18 rfl g1 g5 rfl ?_
      refine z_iload_n (q := 59) dX9_drain_58 rfl rfl rfl ?_
      refine y_iald (j := (Int32.toNatClampNeg l1)) (q := 60) dX9_drain_59 (Or.inl g6) g7 rfl rfl ?_
      refine z_aload_n (q := 61) dX9_drain_60 rfl rfl rfl ?_
      refine z_getR (c := 9) (k := 0) (r := (RX9, TX9, 13)) (q := 64) dX9_drain_61 rfl (by decide) fl_X9_9 rfl g1 g8 rfl ?_
      refine z_iload_n (q := 65) dX9_drain_64 rfl rfl rfl ?_
      refine y_iald (j := (Int32.toNatClampNeg l1)) (q := 66) dX9_drain_65 (Or.inl g9) g10 rfl rfl ?_
      refine z_isub (q := 67) dX9_drain_66 rfl ?_
      refine z_iadd (q := 68) dX9_drain_67 rfl ?_
      refine z_putI (c := 9) (k := 12) (r := (RX9, TX9, 13)) (q := 71) dX9_drain_68 rfl (by decide) fl_X9_56 rfl rfl g1 rfl ?_
      refine z_aload_n (q := 72) dX9_drain_71 rfl rfl rfl ?_
      refine z_getR (c := 9) (k := 2) (r := (RX9, TX9, 13)) (q := 75) dX9_drain_72 rfl (by decide) fl_X9_18 rfl g1 g5 rfl ?_
      refine z_iload_n (q := 76) dX9_drain_75 rfl rfl rfl ?_
      refine z_aload_n (q := 77) dX9_drain_76 rfl rfl rfl ?_
      refine z_getR (c := 9) (k := 0) (r := (RX9, TX9, 13)) (q := 80) dX9_drain_77 rfl (by decide) fl_X9_9 rfl g1 g8 rfl ?_
      refine z_iload_n (q := 81) dX9_drain_80 rfl rfl rfl ?_
      refine z_nameH (fun h11 eh12 => ?_)
      have hF := hF h11 eh12
      obtain ⟨g13, hF⟩ := hF
      obtain ⟨g14, hF⟩ := hF
      refine y_iald (j := (Int32.toNatClampNeg l1)) (q := 82) dX9_drain_81 (Or.inl g13) g14 rfl rfl ?_
      obtain ⟨g15, hF⟩ := hF
      obtain ⟨g16, hF⟩ := hF
      refine y_iast (j := (Int32.toNatClampNeg l1)) (q := 83) dX9_drain_82 g15 g16 rfl rfl ?_
      exact z_return dX9_drain_83 rfl ⟨rfl, hF⟩
  · have hF := hF.2 hc
    refine z_aload_n (q := 10) dX9_drain_9 rfl rfl rfl ?_
    refine z_dup (q := 11) dX9_drain_10 rfl rfl ?_
    refine z_getI (c := 9) (k := 11) (r := (RX9, TX9, 13)) (q := 14) dX9_drain_11 rfl (by decide) fl_X9_53 rfl g1 rfl ?_
    refine z_aload_n (q := 15) dX9_drain_14 rfl rfl rfl ?_
    obtain ⟨g17, hF⟩ := hF
    refine z_getR (c := 9) (k := 2) (r := (RX9, TX9, 13)) (q := 18) dX9_drain_15 rfl (by decide) fl_X9_18 rfl g1 g17 rfl ?_
    refine z_iload_n (q := 19) dX9_drain_18 rfl rfl rfl ?_
    obtain ⟨g18, hF⟩ := hF
    obtain ⟨g19, hF⟩ := hF
    refine y_iald (j := (Int32.toNatClampNeg l1)) (q := 20) dX9_drain_19 (Or.inl g18) g19 rfl rfl ?_
    refine z_iadd (q := 21) dX9_drain_20 rfl ?_
    refine z_putI (c := 9) (k := 11) (r := (RX9, TX9, 13)) (q := 24) dX9_drain_21 rfl (by decide) fl_X9_53 rfl rfl g1 rfl ?_
    refine z_aload_n (q := 25) dX9_drain_24 rfl rfl rfl ?_
    refine z_getR (c := 9) (k := 2) (r := (RX9, TX9, 13)) (q := 28) dX9_drain_25 rfl (by decide) fl_X9_18 rfl g1 g17 rfl ?_
    refine z_iload_n (q := 29) dX9_drain_28 rfl rfl rfl ?_
    refine z_iconst (q := 30) (v := 0) dX9_drain_29 (by decide) rfl ?_
    refine y_iast (j := (Int32.toNatClampNeg l1)) (q := 31) dX9_drain_30 g18 g19 rfl rfl ?_
    refine z_goto (q := 83) dX9_drain_31 (by decide) ?_
    exact z_return dX9_drain_83 rfl ⟨rfl, hF⟩
