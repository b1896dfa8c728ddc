set_option maxRecDepth 100000 in
set_option maxHeartbeats 4000000 in
theorem wX3_init {ψ : ZH → Prop} {l0 : Nat} {h : ZH} (hF : ∃ a1 : Nat, a1 ≠ 0 ∧ zK h a1 = 0 ∧ ∀ h4 : ZH, h4 = (zmk h a1 20 5) → (zK h4 l0 = 4) ∧ ψ (zsR h4 l0 0 a1)) : ZcV mX3_init [.ref l0] h ψ := by
  refine Zc.intro (L := [some (.ref l0)]) (show plainName RX3 = true by decide) rfl (Nat.le_of_ble_eq_true rfl) ?_
  show Zt _ _ 1 5 _ _ _ _
  refine z_aload_n (q := 1) dX3_init_0 rfl rfl rfl ?_
  refine z_objInit (q := 4) dX3_init_1 ow_X3_3 (Nat.le_of_ble_eq_true rfl) (by decide) rfl ?_
  refine z_aload_n (q := 5) dX3_init_4 rfl rfl rfl ?_
  refine z_iconst (q := 6) (v := 5) dX3_init_5 (by decide) rfl ?_
  obtain ⟨a1, g2, g3, hF⟩ := hF
  refine z_newa (rc := 0) (rs := 0) (a := a1) (kd := 20) (N := 5) (q := 8) dX3_init_6 rfl (by decide) ac_20 (by decide) (by decide) (by decide) g2 g3 rfl ?_
  refine z_nameH (fun h4 eh5 => ?_)
  have hF := hF h4 eh5
  obtain ⟨g6, hF⟩ := hF
  refine z_putRF (c := 3) (k := 0) (r := (RX3, TX3, 2)) (q := 11) dX3_init_8 rfl (by decide) fw_X3_9 rfl rfl rfl rfl g6 rfl ?_
  exact z_return dX3_init_11 rfl ⟨rfl, hF⟩
set_option maxRecDepth 100000 in
set_option maxHeartbeats 4000000 in
theorem wX3_result_11 {ψ : Int32 → ZH → Prop} {l0 : Nat} {l1 : Nat} {l2 : Nat} {l3 : Int32} {l4 : Int32} {l5 : Int32} {h : ZH} (hF : (zK h l1 = 9) ∧ (((zI h l1 1) ≤ l5 → (zK h l0 = 4) ∧ ZcI mX3_take [.ref l0] h (fun x4 h2 => ψ x4 h2)) ∧ (¬ (zI h l1 1) ≤ l5 → ((zR h l1 0) ≠ 0) ∧ (zK h (zR h l1 0) = 20) ∧ (vp_in l5 (zN h (zR h l1 0))) ∧ ∀ v8 : Int32, v8 = (zI h (zR h l1 0) (Int32.toNatClampNeg l5)) → ZcI mX8_isDigit [.int v8] h (fun x11 h10 => ((x11 = 0 → (zK h10 l0 = 4) ∧ ZcL mX3_whatComesOf [.ref l0, .int v8, .ref l2, .int l3, .int l4] h10 (fun x14 h12 => (zK h12 l0 = 4) ∧ ZcV mX3_lay [.ref l0, .long x14] h12 (fun h15 => Zt mX3_result (zPI ψ) 0 0 11 [some (.ref l0), some (.ref l1), some (.ref l2), some (.int l3), some (.int 0), some (.int (l5 + 1)), none] [] h15))) ∧ (¬ x11 = 0 → Zt mX3_result (zPI ψ) 0 0 11 [some (.ref l0), some (.ref l1), some (.ref l2), some (.int l3), some (.int (((l4 * 10) + v8) - 48)), some (.int (l5 + 1)), none] [] h10)))))) : Zt mX3_result (zPI ψ) 0 0 11 [some (.ref l0), some (.ref l1), some (.ref l2), some (.int l3), some (.int l4), some (.int l5), none] [] h := by
  refine z_iload (q := 13) dX3_result_11 rfl rfl ?_
  refine z_aload_n (q := 14) dX3_result_13 rfl rfl rfl ?_
  obtain ⟨g1, hF⟩ := hF
  refine z_getI (c := 8) (k := 1) (r := (RX8, TX8, 2)) (q := 17) dX3_result_14 rfl (by decide) fl_X3_19 rfl g1 rfl ?_
  refine z_icmp_ge (t := 76) (q := 20) dX3_result_17 (by decide) rfl (fun hc => ?_) (fun hc => ?_)
  · have hF := hF.1 hc
    refine z_aload_n (q := 77) dX3_result_76 rfl rfl rfl ?_
    obtain ⟨g3, hF⟩ := hF
    refine z_callVI (rc := 0) (rs := 0) (b := l0) (av := []) (ci := 3) (r := (RX3, TX3, 2)) (q := 80) hF dX3_result_77 ml_X3_39 ok_X3_take in_X3_take se_X3_take rfl rfl g3 rfl (Nat.le_of_ble_eq_true rfl) (by decide) (Nat.le_of_ble_eq_true rfl) rfl rfl rfl rfl (fun x4 h2 hF => ?_)
    exact z_ireturn dX3_result_80 rfl ⟨_, rfl, hF⟩
  · have hF := hF.2 hc
    refine z_aload_n (q := 21) dX3_result_20 rfl rfl rfl ?_
    obtain ⟨g5, hF⟩ := hF
    refine z_getR (c := 8) (k := 0) (r := (RX8, TX8, 2)) (q := 24) dX3_result_21 rfl (by decide) fl_X3_24 rfl g1 g5 rfl ?_
    refine z_iload (q := 26) dX3_result_24 rfl rfl ?_
    obtain ⟨g6, hF⟩ := hF
    obtain ⟨g7, hF⟩ := hF
    refine y_iald (j := (Int32.toNatClampNeg l5)) (q := 27) dX3_result_26 (Or.inl g6) g7 rfl rfl ?_
    refine z_nameI (fun v8 ev9 => ?_)
    have hF := hF v8 ev9
    refine z_istore (q := 29) (L' := [some (.ref l0), some (.ref l1), some (.ref l2), some (.int l3), some (.int l4), some (.int l5), some (.int v8)]) dX3_result_27 (Nat.le_of_ble_eq_true rfl) rfl rfl rfl ?_
    refine z_iload (q := 31) dX3_result_29 rfl rfl ?_
    refine z_callSI (rc := 0) (rs := 0) (av := [.int v8]) (q := 34) hF dX3_result_31 ml_X3_27 ok_X8_isDigit st_X8_isDigit rfl (Nat.le_of_ble_eq_true rfl) (by decide) (Nat.le_of_ble_eq_true rfl) rfl rfl rfl rfl (fun x11 h10 hF => ?_)
    refine z_if_eq (t := 53) (q := 37) dX3_result_34 (by decide) rfl (fun hc => ?_) (fun hc => ?_)
    · have hF := hF.1 hc
      refine z_aload_n (q := 54) dX3_result_53 rfl rfl rfl ?_
      refine z_aload_n (q := 55) dX3_result_54 rfl rfl rfl ?_
      refine z_iload (q := 57) dX3_result_55 rfl rfl ?_
      refine z_aload_n (q := 58) dX3_result_57 rfl rfl rfl ?_
      refine z_iload_n (q := 59) dX3_result_58 rfl rfl rfl ?_
      refine z_iload (q := 61) dX3_result_59 rfl rfl ?_
      obtain ⟨g13, hF⟩ := hF
      refine z_callVL (rc := 0) (rs := 0) (b := l0) (av := [.int v8, .ref l2, .int l3, .int l4]) (ci := 3) (r := (RX3, TX3, 2)) (q := 64) hF dX3_result_61 ml_X3_31 ok_X3_whatComesOf in_X3_whatComesOf se_X3_whatComesOf rfl rfl g13 rfl (Nat.le_of_ble_eq_true rfl) (by decide) (Nat.le_of_ble_eq_true rfl) rfl rfl rfl rfl (fun x14 h12 hF => ?_)
      obtain ⟨g16, hF⟩ := hF
      refine z_callVV (rc := 0) (rs := 0) (b := l0) (av := [.long x14]) (ci := 3) (r := (RX3, TX3, 2)) (q := 67) hF dX3_result_64 ml_X3_35 ok_X3_lay in_X3_lay se_X3_lay rfl rfl g16 rfl (Nat.le_of_ble_eq_true rfl) (by decide) (Nat.le_of_ble_eq_true rfl) rfl rfl rfl rfl (fun h15 hF => ?_)
      refine z_iconst (q := 68) (v := 0) dX3_result_67 (by decide) rfl ?_
      refine z_istore (q := 70) (L' := [some (.ref l0), some (.ref l1), some (.ref l2), some (.int l3), some (.int 0), some (.int l5), some (.int v8)]) dX3_result_68 (Nat.le_of_ble_eq_true rfl) rfl rfl rfl ?_
      refine z_iinc (q := 73) (v := (l5 + 1)) (L' := [some (.ref l0), some (.ref l1), some (.ref l2), some (.int l3), some (.int 0), some (.int (l5 + 1)), some (.int v8)]) dX3_result_70 rfl rfl (Nat.le_of_ble_eq_true rfl) rfl rfl rfl ?_
      refine z_goto (q := 11) dX3_result_73 (by decide) ?_
      refine Zt.drop (i := 6) (L' := [some (.ref l0), some (.ref l1), some (.ref l2), some (.int l3), some (.int 0), some (.int (l5 + 1)), none]) rfl ?_
      exact hF
    · have hF := hF.2 hc
      refine z_iload (q := 39) dX3_result_37 rfl rfl ?_
      refine z_bipush (q := 41) (v := 10) dX3_result_39 (by decide) rfl ?_
      refine z_imul (q := 42) dX3_result_41 rfl ?_
      refine z_iload (q := 44) dX3_result_42 rfl rfl ?_
      refine z_iadd (q := 45) dX3_result_44 rfl ?_
      refine z_bipush (q := 47) (v := 48) dX3_result_45 (by decide) rfl ?_
      refine z_isub (q := 48) dX3_result_47 rfl ?_
      refine z_istore (q := 50) (L' := [some (.ref l0), some (.ref l1), some (.ref l2), some (.int l3), some (.int (((l4 * 10) + v8) - 48)), some (.int l5), some (.int v8)]) dX3_result_48 (Nat.le_of_ble_eq_true rfl) rfl rfl rfl ?_
      refine z_goto (q := 70) dX3_result_50 (by decide) ?_
      refine z_iinc (q := 73) (v := (l5 + 1)) (L' := [some (.ref l0), some (.ref l1), some (.ref l2), some (.int l3), some (.int (((l4 * 10) + v8) - 48)), some (.int (l5 + 1)), some (.int v8)]) dX3_result_70 rfl rfl (Nat.le_of_ble_eq_true rfl) rfl rfl rfl ?_
      refine z_goto (q := 11) dX3_result_73 (by decide) ?_
      refine Zt.drop (i := 6) (L' := [some (.ref l0), some (.ref l1), some (.ref l2), some (.int l3), some (.int (((l4 * 10) + v8) - 48)), some (.int (l5 + 1)), none]) rfl ?_
      exact hF
set_option maxRecDepth 100000 in
set_option maxHeartbeats 4000000 in
theorem wX3_result {ψ : Int32 → ZH → Prop} {l0 : Nat} {l1 : Nat} {l2 : Nat} {l3 : Int32} {h : ZH} (hF : (zK h l0 = 4) ∧ Zt mX3_result (zPI ψ) 0 0 11 [some (.ref l0), some (.ref l1), some (.ref l2), some (.int l3), some (.int 0), some (.int 0), none] [] (zsI h l0 1 0)) : ZcI mX3_result [.ref l0, .ref l1, .ref l2, .int l3] h ψ := by
  refine Zc.intro (L := [some (.ref l0), some (.ref l1), some (.ref l2), some (.int l3), none, none, none]) (show plainName RX3 = true by decide) rfl (Nat.le_of_ble_eq_true rfl) ?_
  show Zt _ _ 0 0 _ _ _ _
  refine z_aload_n (q := 1) dX3_result_0 rfl rfl rfl ?_
  refine z_iconst (q := 2) (v := 0) dX3_result_1 (by decide) rfl ?_
  obtain ⟨g17, hF⟩ := hF
  refine z_putI (c := 3) (k := 1) (r := (RX3, TX3, 2)) (q := 5) dX3_result_2 rfl (by decide) fl_X3_15 rfl rfl g17 rfl ?_
  refine z_iconst (q := 6) (v := 0) dX3_result_5 (by decide) rfl ?_
  refine z_istore (q := 8) (L' := [some (.ref l0), some (.ref l1), some (.ref l2), some (.int l3), some (.int 0), none, none]) dX3_result_6 (Nat.le_of_ble_eq_true rfl) rfl rfl rfl ?_
  refine z_iconst (q := 9) (v := 0) dX3_result_8 (by decide) rfl ?_
  refine z_istore (q := 11) (L' := [some (.ref l0), some (.ref l1), some (.ref l2), some (.int l3), some (.int 0), some (.int 0), none]) dX3_result_9 (Nat.le_of_ble_eq_true rfl) rfl rfl rfl ?_
  exact hF
set_option maxRecDepth 100000 in
set_option maxHeartbeats 4000000 in
theorem wX3_whatComesOf {ψ : Int64 → ZH → Prop} {l0 : Nat} {l1 : Int32} {l2 : Nat} {l3 : Int32} {l4 : Int32} {h : ZH} (hF : ((l1 = 33 → (zK h l0 = 4) ∧ ZcI mX3_take [.ref l0] h (fun x10 h8 => ((¬ x10 = 0 → ZcI mX10_asOne [.int 0] h8 (fun x12 h11 => ψ (Int32.toInt64 x12) h11)) ∧ (x10 = 0 → ZcI mX10_asOne [.int 1] h8 (fun x14 h13 => ψ (Int32.toInt64 x14) h13))))) ∧ (l1 = 44 → ψ (Int32.toInt64 l4) h) ∧ (l1 = 97 → (zK h l2 = 2) ∧ ψ (Int32.toInt64 (zI h l2 0)) h) ∧ (l1 = 102 → ψ (Int32.toInt64 l3) h) ∧ (l1 = 107 → (zK h l2 = 2) ∧ ZcI mX10_asOne [.int (zI h l2 5)] h (fun x18 h17 => ψ (Int32.toInt64 x18) h17)) ∧ (l1 = 116 → (zK h l2 = 2) ∧ ψ (Int32.toInt64 (zI h l2 1)) h) ∧ (l1 = 121 → (zK h l2 = 2) ∧ ψ (Int32.toInt64 (zI h l2 2)) h) ∧ (¬ l1 = 33 → ¬ l1 = 44 → ¬ l1 = 97 → ¬ l1 = 102 → ¬ l1 = 107 → ¬ l1 = 116 → ¬ l1 = 121 → (zK h l0 = 4) ∧ ZcL mX3_joined [.ref l0, .int l1] h (fun x23 h21 => ψ x23 h21)))) : ZcL mX3_whatComesOf [.ref l0, .int l1, .ref l2, .int l3, .int l4] h ψ := by
  refine Zc.intro (L := [some (.ref l0), some (.int l1), some (.ref l2), some (.int l3), some (.int l4)]) (show plainName RX3 = true by decide) rfl (Nat.le_of_ble_eq_true rfl) ?_
  show Zt _ _ 0 0 _ _ _ _
  refine z_iload_n (q := 1) dX3_whatComesOf_0 rfl rfl rfl ?_
  by_cases e1 : l1 = 33
  · refine z_lookup (q := 102) (off := 101) dX3_whatComesOf_1 (by decide) (by rw [e1]; decide) (by decide) ?_
    have hF := hF.1 e1
    refine z_aload_n (q := 103) dX3_whatComesOf_102 rfl rfl rfl ?_
    obtain ⟨g9, hF⟩ := hF
    refine z_callVI (rc := 0) (rs := 0) (b := l0) (av := []) (ci := 3) (r := (RX3, TX3, 2)) (q := 106) hF dX3_whatComesOf_103 ml_X3_39 ok_X3_take in_X3_take se_X3_take rfl rfl g9 rfl (Nat.le_of_ble_eq_true rfl) (by decide) (Nat.le_of_ble_eq_true rfl) rfl rfl rfl rfl (fun x10 h8 hF => ?_)
    refine z_if_ne (t := 113) (q := 109) dX3_whatComesOf_106 (by decide) rfl (fun hc => ?_) (fun hc => ?_)
    · have hF := hF.1 hc
      refine z_iconst (q := 114) (v := 0) dX3_whatComesOf_113 (by decide) rfl ?_
      refine z_callSI (rc := 0) (rs := 0) (av := [.int 0]) (q := 117) hF dX3_whatComesOf_114 ml_X3_58 ok_X10_asOne st_X10_asOne rfl (Nat.le_of_ble_eq_true rfl) (by decide) (Nat.le_of_ble_eq_true rfl) rfl rfl rfl rfl (fun x12 h11 hF => ?_)
      refine z_i2l (q := 118) dX3_whatComesOf_117 rfl ?_
      exact z_lreturn dX3_whatComesOf_118 rfl ⟨_, rfl, hF⟩
    · have hF := hF.2 hc
      refine z_iconst (q := 110) (v := 1) dX3_whatComesOf_109 (by decide) rfl ?_
      refine z_goto (q := 114) dX3_whatComesOf_110 (by decide) ?_
      refine z_callSI (rc := 0) (rs := 0) (av := [.int 1]) (q := 117) hF dX3_whatComesOf_114 ml_X3_58 ok_X10_asOne st_X10_asOne rfl (Nat.le_of_ble_eq_true rfl) (by decide) (Nat.le_of_ble_eq_true rfl) rfl rfl rfl rfl (fun x14 h13 hF => ?_)
      refine z_i2l (q := 118) dX3_whatComesOf_117 rfl ?_
      exact z_lreturn dX3_whatComesOf_118 rfl ⟨_, rfl, hF⟩
  by_cases e2 : l1 = 44
  · refine z_lookup (q := 98) (off := 97) dX3_whatComesOf_1 (by decide) (by rw [e2]; decide) (by decide) ?_
    have hF := hF.2.1 e2
    refine z_iload (q := 100) dX3_whatComesOf_98 rfl rfl ?_
    refine z_i2l (q := 101) dX3_whatComesOf_100 rfl ?_
    exact z_lreturn dX3_whatComesOf_101 rfl ⟨_, rfl, hF⟩
  by_cases e3 : l1 = 97
  · refine z_lookup (q := 68) (off := 67) dX3_whatComesOf_1 (by decide) (by rw [e3]; decide) (by decide) ?_
    have hF := hF.2.2.1 e3
    refine z_aload_n (q := 69) dX3_whatComesOf_68 rfl rfl rfl ?_
    obtain ⟨g15, hF⟩ := hF
    refine z_getI (c := 1) (k := 0) (r := (RX1, TX1, 7)) (q := 72) dX3_whatComesOf_69 rfl (by decide) fl_X3_43 rfl g15 rfl ?_
    refine z_i2l (q := 73) dX3_whatComesOf_72 rfl ?_
    exact z_lreturn dX3_whatComesOf_73 rfl ⟨_, rfl, hF⟩
  by_cases e4 : l1 = 102
  · refine z_lookup (q := 95) (off := 94) dX3_whatComesOf_1 (by decide) (by rw [e4]; decide) (by decide) ?_
    have hF := hF.2.2.2.1 e4
    refine z_iload_n (q := 96) dX3_whatComesOf_95 rfl rfl rfl ?_
    refine z_i2l (q := 97) dX3_whatComesOf_96 rfl ?_
    exact z_lreturn dX3_whatComesOf_97 rfl ⟨_, rfl, hF⟩
  by_cases e5 : l1 = 107
  · refine z_lookup (q := 86) (off := 85) dX3_whatComesOf_1 (by decide) (by rw [e5]; decide) (by decide) ?_
    have hF := hF.2.2.2.2.1 e5
    refine z_aload_n (q := 87) dX3_whatComesOf_86 rfl rfl rfl ?_
    obtain ⟨g16, hF⟩ := hF
    refine z_getI (c := 1) (k := 5) (r := (RX1, TX1, 7)) (q := 90) dX3_whatComesOf_87 rfl (by decide) fl_X3_54 rfl g16 rfl ?_
    refine z_callSI (rc := 0) (rs := 0) (av := [.int (zI h l2 5)]) (q := 93) hF dX3_whatComesOf_90 ml_X3_58 ok_X10_asOne st_X10_asOne rfl (Nat.le_of_ble_eq_true rfl) (by decide) (Nat.le_of_ble_eq_true rfl) rfl rfl rfl rfl (fun x18 h17 hF => ?_)
    refine z_i2l (q := 94) dX3_whatComesOf_93 rfl ?_
    exact z_lreturn dX3_whatComesOf_94 rfl ⟨_, rfl, hF⟩
  by_cases e6 : l1 = 116
  · refine z_lookup (q := 80) (off := 79) dX3_whatComesOf_1 (by decide) (by rw [e6]; decide) (by decide) ?_
    have hF := hF.2.2.2.2.2.1 e6
    refine z_aload_n (q := 81) dX3_whatComesOf_80 rfl rfl rfl ?_
    obtain ⟨g19, hF⟩ := hF
    refine z_getI (c := 1) (k := 1) (r := (RX1, TX1, 7)) (q := 84) dX3_whatComesOf_81 rfl (by decide) fl_X3_51 rfl g19 rfl ?_
    refine z_i2l (q := 85) dX3_whatComesOf_84 rfl ?_
    exact z_lreturn dX3_whatComesOf_85 rfl ⟨_, rfl, hF⟩
  by_cases e7 : l1 = 121
  · refine z_lookup (q := 74) (off := 73) dX3_whatComesOf_1 (by decide) (by rw [e7]; decide) (by decide) ?_
    have hF := hF.2.2.2.2.2.2.1 e7
    refine z_aload_n (q := 75) dX3_whatComesOf_74 rfl rfl rfl ?_
    obtain ⟨g20, hF⟩ := hF
    refine z_getI (c := 1) (k := 2) (r := (RX1, TX1, 7)) (q := 78) dX3_whatComesOf_75 rfl (by decide) fl_X3_48 rfl g20 rfl ?_
    refine z_i2l (q := 79) dX3_whatComesOf_78 rfl ?_
    exact z_lreturn dX3_whatComesOf_79 rfl ⟨_, rfl, hF⟩
  refine z_lookup (q := 119) (off := 118) dX3_whatComesOf_1 (by decide) (by
    simp only [lookupswitch.offset]
    rw [if_neg (fun q => zsw_ne (k := 33) e1 (by decide) q.symm), if_neg (fun q => zsw_ne (k := 44) e2 (by decide) q.symm), if_neg (fun q => zsw_ne (k := 97) e3 (by decide) q.symm), if_neg (fun q => zsw_ne (k := 102) e4 (by decide) q.symm), if_neg (fun q => zsw_ne (k := 107) e5 (by decide) q.symm), if_neg (fun q => zsw_ne (k := 116) e6 (by decide) q.symm), if_neg (fun q => zsw_ne (k := 121) e7 (by decide) q.symm)]) (by decide) ?_
  have hF := hF.2.2.2.2.2.2.2 e1 e2 e3 e4 e5 e6 e7
  refine z_aload_n (q := 120) dX3_whatComesOf_119 rfl rfl rfl ?_
  refine z_iload_n (q := 121) dX3_whatComesOf_120 rfl rfl rfl ?_
  obtain ⟨g22, hF⟩ := hF
  refine z_callVL (rc := 0) (rs := 0) (b := l0) (av := [.int l1]) (ci := 3) (r := (RX3, TX3, 2)) (q := 124) hF dX3_whatComesOf_121 ml_X3_62 ok_X3_joined in_X3_joined se_X3_joined rfl rfl g22 rfl (Nat.le_of_ble_eq_true rfl) (by decide) (Nat.le_of_ble_eq_true rfl) rfl rfl rfl rfl (fun x23 h21 hF => ?_)
  exact z_lreturn dX3_whatComesOf_124 rfl ⟨_, rfl, hF⟩
set_option maxRecDepth 100000 in
set_option maxHeartbeats 4000000 in
theorem wX3_joined {ψ : Int64 → ZH → Prop} {l0 : Nat} {l1 : Int32} {h : ZH} (hF : (zK h l0 = 4) ∧ ZcI mX3_take [.ref l0] h (fun x3 h1 => (zK h1 l0 = 4) ∧ ZcI mX3_take [.ref l0] h1 (fun x6 h4 => ((l1 = 38 → (((lg_cmp (Int32.toInt64 x6) 0) = 0 → ZcI mX10_asOne [.int 0] h4 (fun x15 h14 => ψ (Int32.toInt64 x15) h14)) ∧ (¬ (lg_cmp (Int32.toInt64 x6) 0) = 0 → (((lg_cmp (Int32.toInt64 x3) 0) = 0 → ZcI mX10_asOne [.int 0] h4 (fun x17 h16 => ψ (Int32.toInt64 x17) h16)) ∧ (¬ (lg_cmp (Int32.toInt64 x3) 0) = 0 → ZcI mX10_asOne [.int 1] h4 (fun x19 h18 => ψ (Int32.toInt64 x19) h18)))))) ∧ (l1 = 42 → ψ ((Int32.toInt64 x6) * (Int32.toInt64 x3)) h4) ∧ (l1 = 43 → ψ ((Int32.toInt64 x6) + (Int32.toInt64 x3)) h4) ∧ (l1 = 45 → ψ ((Int32.toInt64 x6) - (Int32.toInt64 x3)) h4) ∧ (l1 = 60 → ((0 ≤ (lg_cmp (Int32.toInt64 x6) (Int32.toInt64 x3)) → ZcI mX10_asOne [.int 0] h4 (fun x21 h20 => ψ (Int32.toInt64 x21) h20)) ∧ (¬ 0 ≤ (lg_cmp (Int32.toInt64 x6) (Int32.toInt64 x3)) → ZcI mX10_asOne [.int 1] h4 (fun x23 h22 => ψ (Int32.toInt64 x23) h22)))) ∧ (l1 = 61 → ((¬ (lg_cmp (Int32.toInt64 x6) (Int32.toInt64 x3)) = 0 → ZcI mX10_asOne [.int 0] h4 (fun x25 h24 => ψ (Int32.toInt64 x25) h24)) ∧ ((lg_cmp (Int32.toInt64 x6) (Int32.toInt64 x3)) = 0 → ZcI mX10_asOne [.int 1] h4 (fun x27 h26 => ψ (Int32.toInt64 x27) h26)))) ∧ (l1 = 62 → (((lg_cmp (Int32.toInt64 x6) (Int32.toInt64 x3)) ≤ 0 → ZcI mX10_asOne [.int 0] h4 (fun x29 h28 => ψ (Int32.toInt64 x29) h28)) ∧ (¬ (lg_cmp (Int32.toInt64 x6) (Int32.toInt64 x3)) ≤ 0 → ZcI mX10_asOne [.int 1] h4 (fun x31 h30 => ψ (Int32.toInt64 x31) h30)))) ∧ (¬ l1 = 38 → ¬ l1 = 42 → ¬ l1 = 43 → ¬ l1 = 45 → ¬ l1 = 60 → ¬ l1 = 61 → ¬ l1 = 62 → ((¬ (lg_cmp (Int32.toInt64 x6) 0) = 0 → ZcI mX10_asOne [.int 1] h4 (fun x33 h32 => ψ (Int32.toInt64 x33) h32)) ∧ ((lg_cmp (Int32.toInt64 x6) 0) = 0 → (((lg_cmp (Int32.toInt64 x3) 0) = 0 → ZcI mX10_asOne [.int 0] h4 (fun x35 h34 => ψ (Int32.toInt64 x35) h34)) ∧ (¬ (lg_cmp (Int32.toInt64 x3) 0) = 0 → ZcI mX10_asOne [.int 1] h4 (fun x37 h36 => ψ (Int32.toInt64 x37) h36)))))))))) : ZcL mX3_joined [.ref l0, .int l1] h ψ := by
  refine Zc.intro (L := [some (.ref l0), some (.int l1), none, none, none, none]) (show plainName RX3 = true by decide) rfl (Nat.le_of_ble_eq_true rfl) ?_
  show Zt _ _ 0 0 _ _ _ _
  refine z_aload_n (q := 1) dX3_joined_0 rfl rfl rfl ?_
  obtain ⟨g2, hF⟩ := hF
  refine z_callVI (rc := 0) (rs := 0) (b := l0) (av := []) (ci := 3) (r := (RX3, TX3, 2)) (q := 4) hF dX3_joined_1 ml_X3_39 ok_X3_take in_X3_take se_X3_take rfl rfl g2 rfl (Nat.le_of_ble_eq_true rfl) (by decide) (Nat.le_of_ble_eq_true rfl) rfl rfl rfl rfl (fun x3 h1 hF => ?_)
  refine z_i2l (q := 5) dX3_joined_4 rfl ?_
  refine z_lstore_n (q := 6) (L' := [some (.ref l0), some (.int l1), some (.long (Int32.toInt64 x3)), none, none, none]) dX3_joined_5 rfl (Nat.le_of_ble_eq_true rfl) rfl rfl rfl rfl ?_
  refine z_aload_n (q := 7) dX3_joined_6 rfl rfl rfl ?_
  obtain ⟨g5, hF⟩ := hF
  refine z_callVI (rc := 0) (rs := 0) (b := l0) (av := []) (ci := 3) (r := (RX3, TX3, 2)) (q := 10) hF dX3_joined_7 ml_X3_39 ok_X3_take in_X3_take se_X3_take rfl rfl g5 rfl (Nat.le_of_ble_eq_true rfl) (by decide) (Nat.le_of_ble_eq_true rfl) rfl rfl rfl rfl (fun x6 h4 hF => ?_)
  refine z_i2l (q := 11) dX3_joined_10 rfl ?_
  refine z_lstore (q := 13) (L' := [some (.ref l0), some (.int l1), some (.long (Int32.toInt64 x3)), none, some (.long (Int32.toInt64 x6)), none]) dX3_joined_11 (Nat.le_of_ble_eq_true rfl) rfl rfl rfl rfl ?_
  refine z_iload_n (q := 14) dX3_joined_13 rfl rfl rfl ?_
  by_cases e7 : l1 = 38
  · refine z_tableIn (q := 194) (off := 180) dX3_joined_14 (by rw [e7]; decide) (by rw [e7]; decide) (by rw [e7]; decide) (by decide) ?_
    have hF := hF.1 e7
    refine z_lload (q := 196) dX3_joined_194 rfl rfl ?_
    refine z_lconst (q := 197) (v := 0) dX3_joined_196 (by decide) rfl ?_
    refine z_lcmp (q := 198) dX3_joined_197 rfl ?_
    refine z_if_eq (t := 211) (q := 201) dX3_joined_198 (by decide) rfl (fun hc => ?_) (fun hc => ?_)
    · have hF := hF.1 hc
      refine z_iconst (q := 212) (v := 0) dX3_joined_211 (by decide) rfl ?_
      refine z_callSI (rc := 0) (rs := 0) (av := [.int 0]) (q := 215) hF dX3_joined_212 ml_X3_58 ok_X10_asOne st_X10_asOne rfl (Nat.le_of_ble_eq_true rfl) (by decide) (Nat.le_of_ble_eq_true rfl) rfl rfl rfl rfl (fun x15 h14 hF => ?_)
      refine z_i2l (q := 216) dX3_joined_215 rfl ?_
      exact z_lreturn dX3_joined_216 rfl ⟨_, rfl, hF⟩
    · have hF := hF.2 hc
      refine z_lload_n (q := 202) dX3_joined_201 rfl rfl rfl ?_
      refine z_lconst (q := 203) (v := 0) dX3_joined_202 (by decide) rfl ?_
      refine z_lcmp (q := 204) dX3_joined_203 rfl ?_
      refine z_if_eq (t := 211) (q := 207) dX3_joined_204 (by decide) rfl (fun hc => ?_) (fun hc => ?_)
      · have hF := hF.1 hc
        refine z_iconst (q := 212) (v := 0) dX3_joined_211 (by decide) rfl ?_
        refine z_callSI (rc := 0) (rs := 0) (av := [.int 0]) (q := 215) hF dX3_joined_212 ml_X3_58 ok_X10_asOne st_X10_asOne rfl (Nat.le_of_ble_eq_true rfl) (by decide) (Nat.le_of_ble_eq_true rfl) rfl rfl rfl rfl (fun x17 h16 hF => ?_)
        refine z_i2l (q := 216) dX3_joined_215 rfl ?_
        exact z_lreturn dX3_joined_216 rfl ⟨_, rfl, hF⟩
      · have hF := hF.2 hc
        refine z_iconst (q := 208) (v := 1) dX3_joined_207 (by decide) rfl ?_
        refine z_goto (q := 212) dX3_joined_208 (by decide) ?_
        refine z_callSI (rc := 0) (rs := 0) (av := [.int 1]) (q := 215) hF dX3_joined_212 ml_X3_58 ok_X10_asOne st_X10_asOne rfl (Nat.le_of_ble_eq_true rfl) (by decide) (Nat.le_of_ble_eq_true rfl) rfl rfl rfl rfl (fun x19 h18 hF => ?_)
        refine z_i2l (q := 216) dX3_joined_215 rfl ?_
        exact z_lreturn dX3_joined_216 rfl ⟨_, rfl, hF⟩
  by_cases e8 : l1 = 42
  · refine z_tableIn (q := 138) (off := 124) dX3_joined_14 (by rw [e8]; decide) (by rw [e8]; decide) (by rw [e8]; decide) (by decide) ?_
    have hF := hF.2.1 e8
    refine z_lload (q := 140) dX3_joined_138 rfl rfl ?_
    refine z_lload_n (q := 141) dX3_joined_140 rfl rfl rfl ?_
    refine z_lmul (q := 142) dX3_joined_141 rfl ?_
    exact z_lreturn dX3_joined_142 rfl ⟨_, rfl, hF⟩
  by_cases e9 : l1 = 43
  · refine z_tableIn (q := 128) (off := 114) dX3_joined_14 (by rw [e9]; decide) (by rw [e9]; decide) (by rw [e9]; decide) (by decide) ?_
    have hF := hF.2.2.1 e9
    refine z_lload (q := 130) dX3_joined_128 rfl rfl ?_
    refine z_lload_n (q := 131) dX3_joined_130 rfl rfl rfl ?_
    refine z_ladd (q := 132) dX3_joined_131 rfl ?_
    exact z_lreturn dX3_joined_132 rfl ⟨_, rfl, hF⟩
  by_cases e10 : l1 = 45
  · refine z_tableIn (q := 133) (off := 119) dX3_joined_14 (by rw [e10]; decide) (by rw [e10]; decide) (by rw [e10]; decide) (by decide) ?_
    have hF := hF.2.2.2.1 e10
    refine z_lload (q := 135) dX3_joined_133 rfl rfl ?_
    refine z_lload_n (q := 136) dX3_joined_135 rfl rfl rfl ?_
    refine z_lsub (q := 137) dX3_joined_136 rfl ?_
    exact z_lreturn dX3_joined_137 rfl ⟨_, rfl, hF⟩
  by_cases e11 : l1 = 60
  · refine z_tableIn (q := 143) (off := 129) dX3_joined_14 (by rw [e11]; decide) (by rw [e11]; decide) (by rw [e11]; decide) (by decide) ?_
    have hF := hF.2.2.2.2.1 e11
    refine z_lload (q := 145) dX3_joined_143 rfl rfl ?_
    refine z_lload_n (q := 146) dX3_joined_145 rfl rfl rfl ?_
    refine z_lcmp (q := 147) dX3_joined_146 rfl ?_
    refine z_if_ge (t := 154) (q := 150) dX3_joined_147 (by decide) rfl (fun hc => ?_) (fun hc => ?_)
    · have hF := hF.1 hc
      refine z_iconst (q := 155) (v := 0) dX3_joined_154 (by decide) rfl ?_
      refine z_callSI (rc := 0) (rs := 0) (av := [.int 0]) (q := 158) hF dX3_joined_155 ml_X3_58 ok_X10_asOne st_X10_asOne rfl (Nat.le_of_ble_eq_true rfl) (by decide) (Nat.le_of_ble_eq_true rfl) rfl rfl rfl rfl (fun x21 h20 hF => ?_)
      refine z_i2l (q := 159) dX3_joined_158 rfl ?_
      exact z_lreturn dX3_joined_159 rfl ⟨_, rfl, hF⟩
    · have hF := hF.2 hc
      refine z_iconst (q := 151) (v := 1) dX3_joined_150 (by decide) rfl ?_
      refine z_goto (q := 155) dX3_joined_151 (by decide) ?_
      refine z_callSI (rc := 0) (rs := 0) (av := [.int 1]) (q := 158) hF dX3_joined_155 ml_X3_58 ok_X10_asOne st_X10_asOne rfl (Nat.le_of_ble_eq_true rfl) (by decide) (Nat.le_of_ble_eq_true rfl) rfl rfl rfl rfl (fun x23 h22 hF => ?_)
      refine z_i2l (q := 159) dX3_joined_158 rfl ?_
      exact z_lreturn dX3_joined_159 rfl ⟨_, rfl, hF⟩
  by_cases e12 : l1 = 61
  · refine z_tableIn (q := 177) (off := 163) dX3_joined_14 (by rw [e12]; decide) (by rw [e12]; decide) (by rw [e12]; decide) (by decide) ?_
    have hF := hF.2.2.2.2.2.1 e12
    refine z_lload (q := 179) dX3_joined_177 rfl rfl ?_
    refine z_lload_n (q := 180) dX3_joined_179 rfl rfl rfl ?_
    refine z_lcmp (q := 181) dX3_joined_180 rfl ?_
    refine z_if_ne (t := 188) (q := 184) dX3_joined_181 (by decide) rfl (fun hc => ?_) (fun hc => ?_)
    · have hF := hF.1 hc
      refine z_iconst (q := 189) (v := 0) dX3_joined_188 (by decide) rfl ?_
      refine z_callSI (rc := 0) (rs := 0) (av := [.int 0]) (q := 192) hF dX3_joined_189 ml_X3_58 ok_X10_asOne st_X10_asOne rfl (Nat.le_of_ble_eq_true rfl) (by decide) (Nat.le_of_ble_eq_true rfl) rfl rfl rfl rfl (fun x25 h24 hF => ?_)
      refine z_i2l (q := 193) dX3_joined_192 rfl ?_
      exact z_lreturn dX3_joined_193 rfl ⟨_, rfl, hF⟩
    · have hF := hF.2 hc
      refine z_iconst (q := 185) (v := 1) dX3_joined_184 (by decide) rfl ?_
      refine z_goto (q := 189) dX3_joined_185 (by decide) ?_
      refine z_callSI (rc := 0) (rs := 0) (av := [.int 1]) (q := 192) hF dX3_joined_189 ml_X3_58 ok_X10_asOne st_X10_asOne rfl (Nat.le_of_ble_eq_true rfl) (by decide) (Nat.le_of_ble_eq_true rfl) rfl rfl rfl rfl (fun x27 h26 hF => ?_)
      refine z_i2l (q := 193) dX3_joined_192 rfl ?_
      exact z_lreturn dX3_joined_193 rfl ⟨_, rfl, hF⟩
  by_cases e13 : l1 = 62
  · refine z_tableIn (q := 160) (off := 146) dX3_joined_14 (by rw [e13]; decide) (by rw [e13]; decide) (by rw [e13]; decide) (by decide) ?_
    have hF := hF.2.2.2.2.2.2.1 e13
    refine z_lload (q := 162) dX3_joined_160 rfl rfl ?_
    refine z_lload_n (q := 163) dX3_joined_162 rfl rfl rfl ?_
    refine z_lcmp (q := 164) dX3_joined_163 rfl ?_
    refine z_if_le (t := 171) (q := 167) dX3_joined_164 (by decide) rfl (fun hc => ?_) (fun hc => ?_)
    · have hF := hF.1 hc
      refine z_iconst (q := 172) (v := 0) dX3_joined_171 (by decide) rfl ?_
      refine z_callSI (rc := 0) (rs := 0) (av := [.int 0]) (q := 175) hF dX3_joined_172 ml_X3_58 ok_X10_asOne st_X10_asOne rfl (Nat.le_of_ble_eq_true rfl) (by decide) (Nat.le_of_ble_eq_true rfl) rfl rfl rfl rfl (fun x29 h28 hF => ?_)
      refine z_i2l (q := 176) dX3_joined_175 rfl ?_
      exact z_lreturn dX3_joined_176 rfl ⟨_, rfl, hF⟩
    · have hF := hF.2 hc
      refine z_iconst (q := 168) (v := 1) dX3_joined_167 (by decide) rfl ?_
      refine z_goto (q := 172) dX3_joined_168 (by decide) ?_
      refine z_callSI (rc := 0) (rs := 0) (av := [.int 1]) (q := 175) hF dX3_joined_172 ml_X3_58 ok_X10_asOne st_X10_asOne rfl (Nat.le_of_ble_eq_true rfl) (by decide) (Nat.le_of_ble_eq_true rfl) rfl rfl rfl rfl (fun x31 h30 hF => ?_)
      refine z_i2l (q := 176) dX3_joined_175 rfl ?_
      exact z_lreturn dX3_joined_176 rfl ⟨_, rfl, hF⟩
  have hD : Zt mX3_joined (zPL ψ) 0 0 217 [some (.ref l0), some (.int l1), some (.long (Int32.toInt64 x3)), none, some (.long (Int32.toInt64 x6)), none] [] h4 := by
    have hF := hF.2.2.2.2.2.2.2 e7 e8 e9 e10 e11 e12 e13
    refine z_lload (q := 219) dX3_joined_217 rfl rfl ?_
    refine z_lconst (q := 220) (v := 0) dX3_joined_219 (by decide) rfl ?_
    refine z_lcmp (q := 221) dX3_joined_220 rfl ?_
    refine z_if_ne (t := 230) (q := 224) dX3_joined_221 (by decide) rfl (fun hc => ?_) (fun hc => ?_)
    · have hF := hF.1 hc
      refine z_iconst (q := 231) (v := 1) dX3_joined_230 (by decide) rfl ?_
      refine z_goto (q := 235) dX3_joined_231 (by decide) ?_
      refine z_callSI (rc := 0) (rs := 0) (av := [.int 1]) (q := 238) hF dX3_joined_235 ml_X3_58 ok_X10_asOne st_X10_asOne rfl (Nat.le_of_ble_eq_true rfl) (by decide) (Nat.le_of_ble_eq_true rfl) rfl rfl rfl rfl (fun x33 h32 hF => ?_)
      refine z_i2l (q := 239) dX3_joined_238 rfl ?_
      exact z_lreturn dX3_joined_239 rfl ⟨_, rfl, hF⟩
    · have hF := hF.2 hc
      refine z_lload_n (q := 225) dX3_joined_224 rfl rfl rfl ?_
      refine z_lconst (q := 226) (v := 0) dX3_joined_225 (by decide) rfl ?_
      refine z_lcmp (q := 227) dX3_joined_226 rfl ?_
      refine z_if_eq (t := 234) (q := 230) dX3_joined_227 (by decide) rfl (fun hc => ?_) (fun hc => ?_)
      · have hF := hF.1 hc
        refine z_iconst (q := 235) (v := 0) dX3_joined_234 (by decide) rfl ?_
        refine z_callSI (rc := 0) (rs := 0) (av := [.int 0]) (q := 238) hF dX3_joined_235 ml_X3_58 ok_X10_asOne st_X10_asOne rfl (Nat.le_of_ble_eq_true rfl) (by decide) (Nat.le_of_ble_eq_true rfl) rfl rfl rfl rfl (fun x35 h34 hF => ?_)
        refine z_i2l (q := 239) dX3_joined_238 rfl ?_
        exact z_lreturn dX3_joined_239 rfl ⟨_, rfl, hF⟩
      · have hF := hF.2 hc
        refine z_iconst (q := 231) (v := 1) dX3_joined_230 (by decide) rfl ?_
        refine z_goto (q := 235) dX3_joined_231 (by decide) ?_
        refine z_callSI (rc := 0) (rs := 0) (av := [.int 1]) (q := 238) hF dX3_joined_235 ml_X3_58 ok_X10_asOne st_X10_asOne rfl (Nat.le_of_ble_eq_true rfl) (by decide) (Nat.le_of_ble_eq_true rfl) rfl rfl rfl rfl (fun x37 h36 hF => ?_)
        refine z_i2l (q := 239) dX3_joined_238 rfl ?_
        exact z_lreturn dX3_joined_239 rfl ⟨_, rfl, hF⟩
  by_cases hr : l1.toInt < 38 ∨ 62 < l1.toInt
  · exact z_tableOut (q := 217) dX3_joined_14 hr (by decide) hD
  · refine z_tableIn (q := 217) (off := 203) dX3_joined_14 (by omega) (by omega) (by
      have k0 := zsw_ne (k := 38) e7 (by decide)
      have k1 := zsw_ne (k := 42) e8 (by decide)
      have k2 := zsw_ne (k := 43) e9 (by decide)
      have k3 := zsw_ne (k := 45) e10 (by decide)
      have k4 := zsw_ne (k := 60) e11 (by decide)
      have k5 := zsw_ne (k := 61) e12 (by decide)
      have k6 := zsw_ne (k := 62) e13 (by decide)
      generalize l1.toInt = z at *
      obtain ⟨j, hj⟩ : ∃ j : Nat, z = 38 + j := ⟨(z - 38).toNat, by omega⟩
      subst hj
      have hj2 : j < 25 := by omega
      rw [show (38 + (j : Int) - 38).toNat = j by omega]
      have : ∀ j : Nat, j < 25 → (j = 0 ∨ j = 4 ∨ j = 5 ∨ j = 7 ∨ j = 22 ∨ j = 23 ∨ j = 24) ∨ (#[180, 203, 203, 203, 124, 114, 203, 119, 203, 203, 203, 203, 203, 203, 203, 203, 203, 203, 203, 203, 203, 203, 129, 163, 146] : Array Int)[j]? = some (203 : Int) := by decide
      exact (this j hj2).resolve_left (by omega)) (by decide) hD
set_option maxRecDepth 100000 in
set_option maxHeartbeats 4000000 in
theorem wX3_lay {ψ : ZH → Prop} {l0 : Nat} {l1 : Int64} {h : ZH} (hF : (zK h l0 = 4) ∧ ((5 ≤ (zI h l0 1) → ψ h) ∧ (¬ 5 ≤ (zI h l0 1) → ((zR h l0 0) ≠ 0) ∧ (zK h (zR h l0 0) = 20) ∧ (vp_in (zI h l0 1) (zN h (zR h l0 0))) ∧ ∀ h5 : ZH, h5 = (zsI h (zR h l0 0) (Int32.toNatClampNeg (zI h l0 1)) (Int64.toInt32 (if (if l1 < 1000000 then l1 else 1000000) < (-1000000) then (-1000000) else (if l1 < 1000000 then l1 else 1000000)))) → (zK h5 l0 = 4) ∧ ψ (zsI h5 l0 1 ((zI h5 l0 1) + 1))))) : ZcV mX3_lay [.ref l0, .long l1] h ψ := by
  refine Zc.intro (L := [some (.ref l0), some (.long l1), none]) (show plainName RX3 = true by decide) rfl (Nat.le_of_ble_eq_true rfl) ?_
  show Zt _ _ 0 0 _ _ _ _
  refine z_aload_n (q := 1) dX3_lay_0 rfl rfl rfl ?_
  obtain ⟨g1, hF⟩ := hF
  refine z_getI (c := 3) (k := 1) (r := (RX3, TX3, 2)) (q := 4) dX3_lay_1 rfl (by decide) fl_X3_15 rfl g1 rfl ?_
  refine z_iconst (q := 5) (v := 5) dX3_lay_4 (by decide) rfl ?_
  refine z_icmp_ge (t := 41) (q := 8) dX3_lay_5 (by decide) rfl (fun hc => ?_) (fun hc => ?_)
  · have hF := hF.1 hc
    exact z_return dX3_lay_41 rfl ⟨rfl, hF⟩
  · have hF := hF.2 hc
    refine z_aload_n (q := 9) dX3_lay_8 rfl rfl rfl ?_
    obtain ⟨g2, hF⟩ := hF
    refine z_getR (c := 3) (k := 0) (r := (RX3, TX3, 2)) (q := 12) dX3_lay_9 rfl (by decide) fl_X3_9 rfl g1 g2 rfl ?_
    refine z_aload_n (q := 13) dX3_lay_12 rfl rfl rfl ?_
    refine z_getI (c := 3) (k := 1) (r := (RX3, TX3, 2)) (q := 16) dX3_lay_13 rfl (by decide) fl_X3_15 rfl g1 rfl ?_
    refine z_ldc2 (q := 19) (v := (-1000000)) dX3_lay_16 cw_X3_66 rfl ?_
    refine z_ldc2 (q := 22) (v := 1000000) dX3_lay_19 cw_X3_68 rfl ?_
    refine z_lload_n (q := 23) dX3_lay_22 rfl rfl rfl ?_
    refine z_lmin (q := 26) dX3_lay_23 mw_X3_70 (Nat.le_of_ble_eq_true rfl) (by decide) rfl ?_
    refine z_lmax (q := 29) dX3_lay_26 mw_X3_76 (Nat.le_of_ble_eq_true rfl) (by decide) rfl ?_
    refine z_l2i (q := 30) dX3_lay_29 rfl ?_
    obtain ⟨g3, hF⟩ := hF
    obtain ⟨g4, hF⟩ := hF
    refine y_iast (j := (Int32.toNatClampNeg (zI h l0 1))) (q := 31) dX3_lay_30 g3 g4 rfl rfl ?_
    refine z_aload_n (q := 32) dX3_lay_31 rfl rfl rfl ?_
    refine z_dup (q := 33) dX3_lay_32 rfl rfl ?_
    refine z_nameH (fun h5 eh6 => ?_)
    have hF := hF h5 eh6
    obtain ⟨g7, hF⟩ := hF
    refine z_getI (c := 3) (k := 1) (r := (RX3, TX3, 2)) (q := 36) dX3_lay_33 rfl (by decide) fl_X3_15 rfl g7 rfl ?_
    refine z_iconst (q := 37) (v := 1) dX3_lay_36 (by decide) rfl ?_
    refine z_iadd (q := 38) dX3_lay_37 rfl ?_
    refine z_putI (c := 3) (k := 1) (r := (RX3, TX3, 2)) (q := 41) dX3_lay_38 rfl (by decide) fl_X3_15 rfl rfl g7 rfl ?_
    exact z_return dX3_lay_41 rfl ⟨rfl, hF⟩
set_option maxRecDepth 100000 in
set_option maxHeartbeats 4000000 in
theorem wX3_take {ψ : Int32 → ZH → Prop} {l0 : Nat} {h : ZH} (hF : (zK h l0 = 4) ∧ ((0 < (zI h l0 1) → ((zR h l0 0) ≠ 0) ∧ ∀ h3 : ZH, h3 = (zsI h l0 1 ((zI h l0 1) - 1)) → (zK h3 l0 = 4) ∧ (zK h3 (zR h l0 0) = 20) ∧ (vp_in (zI h3 l0 1) (zN h3 (zR h l0 0))) ∧ ψ (zI h3 (zR h l0 0) (Int32.toNatClampNeg (zI h3 l0 1))) h3) ∧ (¬ 0 < (zI h l0 1) → ψ 0 h))) : ZcI mX3_take [.ref l0] h ψ := by
  refine Zc.intro (L := [some (.ref l0)]) (show plainName RX3 = true by decide) rfl (Nat.le_of_ble_eq_true rfl) ?_
  show Zt _ _ 0 0 _ _ _ _
  refine z_aload_n (q := 1) dX3_take_0 rfl rfl rfl ?_
  obtain ⟨g1, hF⟩ := hF
  refine z_getI (c := 3) (k := 1) (r := (RX3, TX3, 2)) (q := 4) dX3_take_1 rfl (by decide) fl_X3_15 rfl g1 rfl ?_
  refine z_if_gt (t := 9) (q := 7) dX3_take_4 (by decide) rfl (fun hc => ?_) (fun hc => ?_)
  · have hF := hF.1 hc
    refine z_aload_n (q := 10) dX3_take_9 rfl rfl rfl ?_
    refine z_dup (q := 11) dX3_take_10 rfl rfl ?_
    refine z_getI (c := 3) (k := 1) (r := (RX3, TX3, 2)) (q := 14) dX3_take_11 rfl (by decide) fl_X3_15 rfl g1 rfl ?_
    refine z_iconst (q := 15) (v := 1) dX3_take_14 (by decide) rfl ?_
    refine z_isub (q := 16) dX3_take_15 rfl ?_
    refine z_putI (c := 3) (k := 1) (r := (RX3, TX3, 2)) (q := 19) dX3_take_16 rfl (by decide) fl_X3_15 rfl rfl g1 rfl ?_
    refine z_aload_n (q := 20) dX3_take_19 rfl rfl rfl ?_
    obtain ⟨g2, hF⟩ := hF
    refine z_getR (c := 3) (k := 0) (r := (RX3, TX3, 2)) (q := 23) dX3_take_20 rfl (by decide) fl_X3_9 rfl g1 g2 rfl ?_
    refine z_aload_n (q := 24) dX3_take_23 rfl rfl rfl ?_
    refine z_nameH (fun h3 eh4 => ?_)
    have hF := hF h3 eh4
    obtain ⟨g5, hF⟩ := hF
    refine z_getI (c := 3) (k := 1) (r := (RX3, TX3, 2)) (q := 27) dX3_take_24 rfl (by decide) fl_X3_15 rfl g5 rfl ?_
    obtain ⟨g6, hF⟩ := hF
    obtain ⟨g7, hF⟩ := hF
    refine y_iald (j := (Int32.toNatClampNeg (zI h3 l0 1))) (q := 28) dX3_take_27 (Or.inl g6) g7 rfl rfl ?_
    exact z_ireturn dX3_take_28 rfl ⟨_, rfl, hF⟩
  · have hF := hF.2 hc
    refine z_iconst (q := 8) (v := 0) dX3_take_7 (by decide) rfl ?_
    exact z_ireturn dX3_take_8 rfl ⟨_, rfl, hF⟩
