set_option maxRecDepth 100000 in
set_option maxHeartbeats 4000000 in
theorem wX3_init {ψ : ZH → Prop} {l0 : Nat} {h : ZH} (hF : ∃ a1 : Nat, a1 ≠ 0 ∧ zK h a1 = 0 ∧ ∀ h4 : ZH, h4 = (zmk h a1 20 5) → (zK h4 l0 = 4) ∧ ψ (zsR h4 l0 0 a1)) : ZcV mX3_init [.ref l0] h ψ := by
  refine Zc.intro (L := [some (.ref l0)]) (show plainName RX3 = true by decide) rfl (Nat.le_of_ble_eq_true rfl) ?_
  show Zt _ _ 1 5 _ _ _ _
  refine z_aload_n (q := 1) dX3_init_0 rfl rfl rfl ?_
  refine z_objInit (q := 4) dX3_init_1 ow_X3_3 (Nat.le_of_ble_eq_true rfl) (by decide) rfl ?_
  refine z_aload_n (q := 5) dX3_init_4 rfl rfl rfl ?_
  refine z_iconst (q := 6) (v := 5) dX3_init_5 (by decide) rfl ?_
  obtain ⟨a1, g2, g3, hF⟩ := hF
  refine z_newa (rc := 0) (rs := 0) (a := a1) (kd := 20) (N := 5) (q := 8) dX3_init_6 rfl (by decide) ac_20 (by decide) (by decide) (by decide) g2 g3 rfl ?_
  refine z_nameH (fun h4 eh5 => ?_)
  have hF := hF h4 eh5
  obtain ⟨g6, hF⟩ := hF
  refine z_putRF (c := 3) (k := 0) (r := (RX3, TX3, 2)) (q := 11) dX3_init_8 rfl (by decide) fw_X3_9 rfl rfl rfl rfl g6 rfl ?_
  exact z_return dX3_init_11 rfl ⟨rfl, hF⟩
set_option maxRecDepth 100000 in
set_option maxHeartbeats 4000000 in
theorem wX3_result_11 {ψ : Int32 → ZH → Prop} {l0 : Nat} {l1 : Nat} {l2 : Nat} {l3 : Int32} {l4 : Int32} {l5 : Int32} {h : ZH} (hF : (zK h l1 = 9) ∧ (((zI h l1 1) ≤ l5 → (zK h l0 = 4) ∧ ZcI mX3_take [.ref l0] h (fun x4 h2 => ψ x4 h2)) ∧ (¬ (zI h l1 1) ≤ l5 → ((zR h l1 0) ≠ 0) ∧ (zK h (zR h l1 0) = 20) ∧ (vp_in l5 (zN h (zR h l1 0))) ∧ ∀ v8 : Int32, v8 = (zI h (zR h l1 0) (Int32.toNatClampNeg l5)) → ZcI mX8_isDigit [.int v8] h (fun x11 h10 => ((x11 = 0 → (zK h10 l0 = 4) ∧ ZcV mX3_step [.ref l0, .int v8, .ref l2, .int l3, .int l4] h10 (fun h12 => Zt mX3_result (zPI ψ) 0 0 11 [some (.ref l0), some (.ref l1), some (.ref l2), some (.int l3), some (.int 0), some (.int (l5 + 1)), none] [] h12)) ∧ (¬ x11 = 0 → Zt mX3_result (zPI ψ) 0 0 11 [some (.ref l0), some (.ref l1), some (.ref l2), some (.int l3), some (.int (((l4 * 10) + v8) - 48)), some (.int (l5 + 1)), none] [] h10)))))) : Zt mX3_result (zPI ψ) 0 0 11 [some (.ref l0), some (.ref l1), some (.ref l2), some (.int l3), some (.int l4), some (.int l5), none] [] h := by
  refine z_iload (q := 13) dX3_result_11 rfl rfl ?_
  refine z_aload_n (q := 14) dX3_result_13 rfl rfl rfl ?_
  obtain ⟨g1, hF⟩ := hF
  refine z_getI (c := 8) (k := 1) (r := (RX8, TX8, 2)) (q := 17) dX3_result_14 rfl (by decide) fl_X3_19 rfl g1 rfl ?_
  refine z_icmp_ge (t := 72) (q := 20) dX3_result_17 (by decide) rfl (fun hc => ?_) (fun hc => ?_)
  · have hF := hF.1 hc
    refine z_aload_n (q := 73) dX3_result_72 rfl rfl rfl ?_
    obtain ⟨g3, hF⟩ := hF
    refine z_callVI (rc := 0) (rs := 0) (b := l0) (av := []) (ci := 3) (r := (RX3, TX3, 2)) (q := 76) hF dX3_result_73 ml_X3_35 ok_X3_take in_X3_take se_X3_take rfl rfl g3 rfl (Nat.le_of_ble_eq_true rfl) (by decide) (Nat.le_of_ble_eq_true rfl) rfl rfl rfl rfl (fun x4 h2 hF => ?_)
    exact z_ireturn dX3_result_76 rfl ⟨_, rfl, hF⟩
  · have hF := hF.2 hc
    refine z_aload_n (q := 21) dX3_result_20 rfl rfl rfl ?_
    obtain ⟨g5, hF⟩ := hF
    refine z_getR (c := 8) (k := 0) (r := (RX8, TX8, 2)) (q := 24) dX3_result_21 rfl (by decide) fl_X3_24 rfl g1 g5 rfl ?_
    refine z_iload (q := 26) dX3_result_24 rfl rfl ?_
    obtain ⟨g6, hF⟩ := hF
    obtain ⟨g7, hF⟩ := hF
    refine y_iald (j := (Int32.toNatClampNeg l5)) (q := 27) dX3_result_26 (Or.inl g6) g7 rfl rfl ?_
    refine z_nameI (fun v8 ev9 => ?_)
    have hF := hF v8 ev9
    refine z_istore (q := 29) (L' := [some (.ref l0), some (.ref l1), some (.ref l2), some (.int l3), some (.int l4), some (.int l5), some (.int v8)]) dX3_result_27 (Nat.le_of_ble_eq_true rfl) rfl rfl rfl ?_
    refine z_iload (q := 31) dX3_result_29 rfl rfl ?_
    refine z_callSI (rc := 0) (rs := 0) (av := [.int v8]) (q := 34) hF dX3_result_31 ml_X3_27 ok_X8_isDigit st_X8_isDigit rfl (Nat.le_of_ble_eq_true rfl) (by decide) (Nat.le_of_ble_eq_true rfl) rfl rfl rfl rfl (fun x11 h10 hF => ?_)
    refine z_if_eq (t := 53) (q := 37) dX3_result_34 (by decide) rfl (fun hc => ?_) (fun hc => ?_)
    · have hF := hF.1 hc
      refine z_aload_n (q := 54) dX3_result_53 rfl rfl rfl ?_
      refine z_iload (q := 56) dX3_result_54 rfl rfl ?_
      refine z_aload_n (q := 57) dX3_result_56 rfl rfl rfl ?_
      refine z_iload_n (q := 58) dX3_result_57 rfl rfl rfl ?_
      refine z_iload (q := 60) dX3_result_58 rfl rfl ?_
      obtain ⟨g13, hF⟩ := hF
      refine z_callVV (rc := 0) (rs := 0) (b := l0) (av := [.int v8, .ref l2, .int l3, .int l4]) (ci := 3) (r := (RX3, TX3, 2)) (q := 63) hF dX3_result_60 ml_X3_31 ok_X3_step in_X3_step se_X3_step rfl rfl g13 rfl (Nat.le_of_ble_eq_true rfl) (by decide) (Nat.le_of_ble_eq_true rfl) rfl rfl rfl rfl (fun h12 hF => ?_)
      refine z_iconst (q := 64) (v := 0) dX3_result_63 (by decide) rfl ?_
      refine z_istore (q := 66) (L' := [some (.ref l0), some (.ref l1), some (.ref l2), some (.int l3), some (.int 0), some (.int l5), some (.int v8)]) dX3_result_64 (Nat.le_of_ble_eq_true rfl) rfl rfl rfl ?_
      refine z_iinc (q := 69) (v := (l5 + 1)) (L' := [some (.ref l0), some (.ref l1), some (.ref l2), some (.int l3), some (.int 0), some (.int (l5 + 1)), some (.int v8)]) dX3_result_66 rfl rfl (Nat.le_of_ble_eq_true rfl) rfl rfl rfl ?_
      refine z_goto (q := 11) dX3_result_69 (by decide) ?_
      refine Zt.drop (i := 6) (L' := [some (.ref l0), some (.ref l1), some (.ref l2), some (.int l3), some (.int 0), some (.int (l5 + 1)), none]) rfl ?_
      exact hF
    · have hF := hF.2 hc
      refine z_iload (q := 39) dX3_result_37 rfl rfl ?_
      refine z_bipush (q := 41) (v := 10) dX3_result_39 (by decide) rfl ?_
      refine z_imul (q := 42) dX3_result_41 rfl ?_
      refine z_iload (q := 44) dX3_result_42 rfl rfl ?_
      refine z_iadd (q := 45) dX3_result_44 rfl ?_
      refine z_bipush (q := 47) (v := 48) dX3_result_45 (by decide) rfl ?_
      refine z_isub (q := 48) dX3_result_47 rfl ?_
      refine z_istore (q := 50) (L' := [some (.ref l0), some (.ref l1), some (.ref l2), some (.int l3), some (.int (((l4 * 10) + v8) - 48)), some (.int l5), some (.int v8)]) dX3_result_48 (Nat.le_of_ble_eq_true rfl) rfl rfl rfl ?_
      refine z_goto (q := 66) dX3_result_50 (by decide) ?_
      refine z_iinc (q := 69) (v := (l5 + 1)) (L' := [some (.ref l0), some (.ref l1), some (.ref l2), some (.int l3), some (.int (((l4 * 10) + v8) - 48)), some (.int (l5 + 1)), some (.int v8)]) dX3_result_66 rfl rfl (Nat.le_of_ble_eq_true rfl) rfl rfl rfl ?_
      refine z_goto (q := 11) dX3_result_69 (by decide) ?_
      refine Zt.drop (i := 6) (L' := [some (.ref l0), some (.ref l1), some (.ref l2), some (.int l3), some (.int (((l4 * 10) + v8) - 48)), some (.int (l5 + 1)), none]) rfl ?_
      exact hF
set_option maxRecDepth 100000 in
set_option maxHeartbeats 4000000 in
theorem wX3_result {ψ : Int32 → ZH → Prop} {l0 : Nat} {l1 : Nat} {l2 : Nat} {l3 : Int32} {h : ZH} (hF : (zK h l0 = 4) ∧ Zt mX3_result (zPI ψ) 0 0 11 [some (.ref l0), some (.ref l1), some (.ref l2), some (.int l3), some (.int 0), some (.int 0), none] [] (zsI h l0 1 0)) : ZcI mX3_result [.ref l0, .ref l1, .ref l2, .int l3] h ψ := by
  refine Zc.intro (L := [some (.ref l0), some (.ref l1), some (.ref l2), some (.int l3), none, none, none]) (show plainName RX3 = true by decide) rfl (Nat.le_of_ble_eq_true rfl) ?_
  show Zt _ _ 0 0 _ _ _ _
  refine z_aload_n (q := 1) dX3_result_0 rfl rfl rfl ?_
  refine z_iconst (q := 2) (v := 0) dX3_result_1 (by decide) rfl ?_
  obtain ⟨g14, hF⟩ := hF
  refine z_putI (c := 3) (k := 1) (r := (RX3, TX3, 2)) (q := 5) dX3_result_2 rfl (by decide) fl_X3_15 rfl rfl g14 rfl ?_
  refine z_iconst (q := 6) (v := 0) dX3_result_5 (by decide) rfl ?_
  refine z_istore (q := 8) (L' := [some (.ref l0), some (.ref l1), some (.ref l2), some (.int l3), some (.int 0), none, none]) dX3_result_6 (Nat.le_of_ble_eq_true rfl) rfl rfl rfl ?_
  refine z_iconst (q := 9) (v := 0) dX3_result_8 (by decide) rfl ?_
  refine z_istore (q := 11) (L' := [some (.ref l0), some (.ref l1), some (.ref l2), some (.int l3), some (.int 0), some (.int 0), none]) dX3_result_9 (Nat.le_of_ble_eq_true rfl) rfl rfl rfl ?_
  exact hF
set_option maxRecDepth 100000 in
set_option maxHeartbeats 4000000 in
theorem wX3_step {ψ : ZH → Prop} {l0 : Nat} {l1 : Int32} {l2 : Nat} {l3 : Int32} {l4 : Int32} {h : ZH} (hF : ((l1 = 33 → (zK h l0 = 4) ∧ ZcI mX3_take [.ref l0] h (fun x10 h8 => ((¬ x10 = 0 → ZcI mX10_asOne [.int 0] h8 (fun x12 h11 => (zK h11 l0 = 4) ∧ ZcV mX3_lay [.ref l0, .long (Int32.toInt64 x12)] h11 (fun h13 => ψ h13))) ∧ (x10 = 0 → ZcI mX10_asOne [.int 1] h8 (fun x16 h15 => (zK h15 l0 = 4) ∧ ZcV mX3_lay [.ref l0, .long (Int32.toInt64 x16)] h15 (fun h17 => ψ h17)))))) ∧ (l1 = 44 → (zK h l0 = 4) ∧ ZcV mX3_lay [.ref l0, .long (Int32.toInt64 l4)] h (fun h19 => ψ h19)) ∧ (l1 = 97 → (zK h l2 = 2) ∧ (zK h l0 = 4) ∧ ZcV mX3_lay [.ref l0, .long (Int32.toInt64 (zI h l2 0))] h (fun h22 => ψ h22)) ∧ (l1 = 102 → (zK h l0 = 4) ∧ ZcV mX3_lay [.ref l0, .long (Int32.toInt64 l3)] h (fun h24 => ψ h24)) ∧ (l1 = 107 → (zK h l2 = 2) ∧ ZcI mX10_asOne [.int (zI h l2 5)] h (fun x28 h27 => (zK h27 l0 = 4) ∧ ZcV mX3_lay [.ref l0, .long (Int32.toInt64 x28)] h27 (fun h29 => ψ h29))) ∧ (l1 = 116 → (zK h l2 = 2) ∧ (zK h l0 = 4) ∧ ZcV mX3_lay [.ref l0, .long (Int32.toInt64 (zI h l2 1))] h (fun h32 => ψ h32)) ∧ (l1 = 121 → (zK h l2 = 2) ∧ (zK h l0 = 4) ∧ ZcV mX3_lay [.ref l0, .long (Int32.toInt64 (zI h l2 2))] h (fun h35 => ψ h35)) ∧ (¬ l1 = 33 → ¬ l1 = 44 → ¬ l1 = 97 → ¬ l1 = 102 → ¬ l1 = 107 → ¬ l1 = 116 → ¬ l1 = 121 → (zK h l0 = 4) ∧ ZcV mX3_join [.ref l0, .int l1] h (fun h37 => ψ h37)))) : ZcV mX3_step [.ref l0, .int l1, .ref l2, .int l3, .int l4] h ψ := by
  refine Zc.intro (L := [some (.ref l0), some (.int l1), some (.ref l2), some (.int l3), some (.int l4)]) (show plainName RX3 = true by decide) rfl (Nat.le_of_ble_eq_true rfl) ?_
  show Zt _ _ 0 0 _ _ _ _
  refine z_iload_n (q := 1) dX3_step_0 rfl rfl rfl ?_
  by_cases e1 : l1 = 33
  · refine z_lookup (q := 138) (off := 137) dX3_step_1 (by decide) (by rw [e1]; decide) (by decide) ?_
    have hF := hF.1 e1
    refine z_aload_n (q := 139) dX3_step_138 rfl rfl rfl ?_
    refine z_aload_n (q := 140) dX3_step_139 rfl rfl rfl ?_
    obtain ⟨g9, hF⟩ := hF
    refine z_callVI (rc := 0) (rs := 0) (b := l0) (av := []) (ci := 3) (r := (RX3, TX3, 2)) (q := 143) hF dX3_step_140 ml_X3_35 ok_X3_take in_X3_take se_X3_take rfl rfl g9 rfl (Nat.le_of_ble_eq_true rfl) (by decide) (Nat.le_of_ble_eq_true rfl) rfl rfl rfl rfl (fun x10 h8 hF => ?_)
    refine z_if_ne (t := 150) (q := 146) dX3_step_143 (by decide) rfl (fun hc => ?_) (fun hc => ?_)
    · have hF := hF.1 hc
      refine z_iconst (q := 151) (v := 0) dX3_step_150 (by decide) rfl ?_
      refine z_callSI (rc := 0) (rs := 0) (av := [.int 0]) (q := 154) hF dX3_step_151 ml_X3_58 ok_X10_asOne st_X10_asOne rfl (Nat.le_of_ble_eq_true rfl) (by decide) (Nat.le_of_ble_eq_true rfl) rfl rfl rfl rfl (fun x12 h11 hF => ?_)
      refine z_i2l (q := 155) dX3_step_154 rfl ?_
      obtain ⟨g14, hF⟩ := hF
      refine z_callVV (rc := 0) (rs := 0) (b := l0) (av := [.long (Int32.toInt64 x12)]) (ci := 3) (r := (RX3, TX3, 2)) (q := 158) hF dX3_step_155 ml_X3_44 ok_X3_lay in_X3_lay se_X3_lay rfl rfl g14 rfl (Nat.le_of_ble_eq_true rfl) (by decide) (Nat.le_of_ble_eq_true rfl) rfl rfl rfl rfl (fun h13 hF => ?_)
      refine z_goto (q := 166) dX3_step_158 (by decide) ?_
      exact z_return dX3_step_166 rfl ⟨rfl, hF⟩
    · have hF := hF.2 hc
      refine z_iconst (q := 147) (v := 1) dX3_step_146 (by decide) rfl ?_
      refine z_goto (q := 151) dX3_step_147 (by decide) ?_
      refine z_callSI (rc := 0) (rs := 0) (av := [.int 1]) (q := 154) hF dX3_step_151 ml_X3_58 ok_X10_asOne st_X10_asOne rfl (Nat.le_of_ble_eq_true rfl) (by decide) (Nat.le_of_ble_eq_true rfl) rfl rfl rfl rfl (fun x16 h15 hF => ?_)
      refine z_i2l (q := 155) dX3_step_154 rfl ?_
      obtain ⟨g18, hF⟩ := hF
      refine z_callVV (rc := 0) (rs := 0) (b := l0) (av := [.long (Int32.toInt64 x16)]) (ci := 3) (r := (RX3, TX3, 2)) (q := 158) hF dX3_step_155 ml_X3_44 ok_X3_lay in_X3_lay se_X3_lay rfl rfl g18 rfl (Nat.le_of_ble_eq_true rfl) (by decide) (Nat.le_of_ble_eq_true rfl) rfl rfl rfl rfl (fun h17 hF => ?_)
      refine z_goto (q := 166) dX3_step_158 (by decide) ?_
      exact z_return dX3_step_166 rfl ⟨rfl, hF⟩
  by_cases e2 : l1 = 44
  · refine z_lookup (q := 128) (off := 127) dX3_step_1 (by decide) (by rw [e2]; decide) (by decide) ?_
    have hF := hF.2.1 e2
    refine z_aload_n (q := 129) dX3_step_128 rfl rfl rfl ?_
    refine z_iload (q := 131) dX3_step_129 rfl rfl ?_
    refine z_i2l (q := 132) dX3_step_131 rfl ?_
    obtain ⟨g20, hF⟩ := hF
    refine z_callVV (rc := 0) (rs := 0) (b := l0) (av := [.long (Int32.toInt64 l4)]) (ci := 3) (r := (RX3, TX3, 2)) (q := 135) hF dX3_step_132 ml_X3_44 ok_X3_lay in_X3_lay se_X3_lay rfl rfl g20 rfl (Nat.le_of_ble_eq_true rfl) (by decide) (Nat.le_of_ble_eq_true rfl) rfl rfl rfl rfl (fun h19 hF => ?_)
    refine z_goto (q := 166) dX3_step_135 (by decide) ?_
    exact z_return dX3_step_166 rfl ⟨rfl, hF⟩
  by_cases e3 : l1 = 97
  · refine z_lookup (q := 68) (off := 67) dX3_step_1 (by decide) (by rw [e3]; decide) (by decide) ?_
    have hF := hF.2.2.1 e3
    refine z_aload_n (q := 69) dX3_step_68 rfl rfl rfl ?_
    refine z_aload_n (q := 70) dX3_step_69 rfl rfl rfl ?_
    obtain ⟨g21, hF⟩ := hF
    refine z_getI (c := 1) (k := 0) (r := (RX1, TX1, 7)) (q := 73) dX3_step_70 rfl (by decide) fl_X3_39 rfl g21 rfl ?_
    refine z_i2l (q := 74) dX3_step_73 rfl ?_
    obtain ⟨g23, hF⟩ := hF
    refine z_callVV (rc := 0) (rs := 0) (b := l0) (av := [.long (Int32.toInt64 (zI h l2 0))]) (ci := 3) (r := (RX3, TX3, 2)) (q := 77) hF dX3_step_74 ml_X3_44 ok_X3_lay in_X3_lay se_X3_lay rfl rfl g23 rfl (Nat.le_of_ble_eq_true rfl) (by decide) (Nat.le_of_ble_eq_true rfl) rfl rfl rfl rfl (fun h22 hF => ?_)
    refine z_goto (q := 166) dX3_step_77 (by decide) ?_
    exact z_return dX3_step_166 rfl ⟨rfl, hF⟩
  by_cases e4 : l1 = 102
  · refine z_lookup (q := 119) (off := 118) dX3_step_1 (by decide) (by rw [e4]; decide) (by decide) ?_
    have hF := hF.2.2.2.1 e4
    refine z_aload_n (q := 120) dX3_step_119 rfl rfl rfl ?_
    refine z_iload_n (q := 121) dX3_step_120 rfl rfl rfl ?_
    refine z_i2l (q := 122) dX3_step_121 rfl ?_
    obtain ⟨g25, hF⟩ := hF
    refine z_callVV (rc := 0) (rs := 0) (b := l0) (av := [.long (Int32.toInt64 l3)]) (ci := 3) (r := (RX3, TX3, 2)) (q := 125) hF dX3_step_122 ml_X3_44 ok_X3_lay in_X3_lay se_X3_lay rfl rfl g25 rfl (Nat.le_of_ble_eq_true rfl) (by decide) (Nat.le_of_ble_eq_true rfl) rfl rfl rfl rfl (fun h24 hF => ?_)
    refine z_goto (q := 166) dX3_step_125 (by decide) ?_
    exact z_return dX3_step_166 rfl ⟨rfl, hF⟩
  by_cases e5 : l1 = 107
  · refine z_lookup (q := 104) (off := 103) dX3_step_1 (by decide) (by rw [e5]; decide) (by decide) ?_
    have hF := hF.2.2.2.2.1 e5
    refine z_aload_n (q := 105) dX3_step_104 rfl rfl rfl ?_
    refine z_aload_n (q := 106) dX3_step_105 rfl rfl rfl ?_
    obtain ⟨g26, hF⟩ := hF
    refine z_getI (c := 1) (k := 5) (r := (RX1, TX1, 7)) (q := 109) dX3_step_106 rfl (by decide) fl_X3_54 rfl g26 rfl ?_
    refine z_callSI (rc := 0) (rs := 0) (av := [.int (zI h l2 5)]) (q := 112) hF dX3_step_109 ml_X3_58 ok_X10_asOne st_X10_asOne rfl (Nat.le_of_ble_eq_true rfl) (by decide) (Nat.le_of_ble_eq_true rfl) rfl rfl rfl rfl (fun x28 h27 hF => ?_)
    refine z_i2l (q := 113) dX3_step_112 rfl ?_
    obtain ⟨g30, hF⟩ := hF
    refine z_callVV (rc := 0) (rs := 0) (b := l0) (av := [.long (Int32.toInt64 x28)]) (ci := 3) (r := (RX3, TX3, 2)) (q := 116) hF dX3_step_113 ml_X3_44 ok_X3_lay in_X3_lay se_X3_lay rfl rfl g30 rfl (Nat.le_of_ble_eq_true rfl) (by decide) (Nat.le_of_ble_eq_true rfl) rfl rfl rfl rfl (fun h29 hF => ?_)
    refine z_goto (q := 166) dX3_step_116 (by decide) ?_
    exact z_return dX3_step_166 rfl ⟨rfl, hF⟩
  by_cases e6 : l1 = 116
  · refine z_lookup (q := 92) (off := 91) dX3_step_1 (by decide) (by rw [e6]; decide) (by decide) ?_
    have hF := hF.2.2.2.2.2.1 e6
    refine z_aload_n (q := 93) dX3_step_92 rfl rfl rfl ?_
    refine z_aload_n (q := 94) dX3_step_93 rfl rfl rfl ?_
    obtain ⟨g31, hF⟩ := hF
    refine z_getI (c := 1) (k := 1) (r := (RX1, TX1, 7)) (q := 97) dX3_step_94 rfl (by decide) fl_X3_51 rfl g31 rfl ?_
    refine z_i2l (q := 98) dX3_step_97 rfl ?_
    obtain ⟨g33, hF⟩ := hF
    refine z_callVV (rc := 0) (rs := 0) (b := l0) (av := [.long (Int32.toInt64 (zI h l2 1))]) (ci := 3) (r := (RX3, TX3, 2)) (q := 101) hF dX3_step_98 ml_X3_44 ok_X3_lay in_X3_lay se_X3_lay rfl rfl g33 rfl (Nat.le_of_ble_eq_true rfl) (by decide) (Nat.le_of_ble_eq_true rfl) rfl rfl rfl rfl (fun h32 hF => ?_)
    refine z_goto (q := 166) dX3_step_101 (by decide) ?_
    exact z_return dX3_step_166 rfl ⟨rfl, hF⟩
  by_cases e7 : l1 = 121
  · refine z_lookup (q := 80) (off := 79) dX3_step_1 (by decide) (by rw [e7]; decide) (by decide) ?_
    have hF := hF.2.2.2.2.2.2.1 e7
    refine z_aload_n (q := 81) dX3_step_80 rfl rfl rfl ?_
    refine z_aload_n (q := 82) dX3_step_81 rfl rfl rfl ?_
    obtain ⟨g34, hF⟩ := hF
    refine z_getI (c := 1) (k := 2) (r := (RX1, TX1, 7)) (q := 85) dX3_step_82 rfl (by decide) fl_X3_48 rfl g34 rfl ?_
    refine z_i2l (q := 86) dX3_step_85 rfl ?_
    obtain ⟨g36, hF⟩ := hF
    refine z_callVV (rc := 0) (rs := 0) (b := l0) (av := [.long (Int32.toInt64 (zI h l2 2))]) (ci := 3) (r := (RX3, TX3, 2)) (q := 89) hF dX3_step_86 ml_X3_44 ok_X3_lay in_X3_lay se_X3_lay rfl rfl g36 rfl (Nat.le_of_ble_eq_true rfl) (by decide) (Nat.le_of_ble_eq_true rfl) rfl rfl rfl rfl (fun h35 hF => ?_)
    refine z_goto (q := 166) dX3_step_89 (by decide) ?_
    exact z_return dX3_step_166 rfl ⟨rfl, hF⟩
  refine z_lookup (q := 161) (off := 160) dX3_step_1 (by decide) (by
    simp only [lookupswitch.offset]
    rw [if_neg (fun q => zsw_ne (k := 33) e1 (by decide) q.symm), if_neg (fun q => zsw_ne (k := 44) e2 (by decide) q.symm), if_neg (fun q => zsw_ne (k := 97) e3 (by decide) q.symm), if_neg (fun q => zsw_ne (k := 102) e4 (by decide) q.symm), if_neg (fun q => zsw_ne (k := 107) e5 (by decide) q.symm), if_neg (fun q => zsw_ne (k := 116) e6 (by decide) q.symm), if_neg (fun q => zsw_ne (k := 121) e7 (by decide) q.symm)]) (by decide) ?_
  have hF := hF.2.2.2.2.2.2.2 e1 e2 e3 e4 e5 e6 e7
  refine z_aload_n (q := 162) dX3_step_161 rfl rfl rfl ?_
  refine z_iload_n (q := 163) dX3_step_162 rfl rfl rfl ?_
  obtain ⟨g38, hF⟩ := hF
  refine z_callVV (rc := 0) (rs := 0) (b := l0) (av := [.int l1]) (ci := 3) (r := (RX3, TX3, 2)) (q := 166) hF dX3_step_163 ml_X3_62 ok_X3_join in_X3_join se_X3_join rfl rfl g38 rfl (Nat.le_of_ble_eq_true rfl) (by decide) (Nat.le_of_ble_eq_true rfl) rfl rfl rfl rfl (fun h37 hF => ?_)
  exact z_return dX3_step_166 rfl ⟨rfl, hF⟩
set_option maxRecDepth 100000 in
set_option maxHeartbeats 4000000 in
theorem wX3_join {ψ : ZH → Prop} {l0 : Nat} {l1 : Int32} {h : ZH} (hF : (zK h l0 = 4) ∧ ZcI mX3_take [.ref l0] h (fun x3 h1 => (zK h1 l0 = 4) ∧ ZcI mX3_take [.ref l0] h1 (fun x6 h4 => ((l1 = 38 → (((lg_cmp (Int32.toInt64 x6) 0) = 0 → ZcI mX10_asOne [.int 0] h4 (fun x15 h14 => (zK h14 l0 = 4) ∧ ZcV mX3_lay [.ref l0, .long (Int32.toInt64 x15)] h14 (fun h16 => ψ h16))) ∧ (¬ (lg_cmp (Int32.toInt64 x6) 0) = 0 → (((lg_cmp (Int32.toInt64 x3) 0) = 0 → ZcI mX10_asOne [.int 0] h4 (fun x19 h18 => (zK h18 l0 = 4) ∧ ZcV mX3_lay [.ref l0, .long (Int32.toInt64 x19)] h18 (fun h20 => ψ h20))) ∧ (¬ (lg_cmp (Int32.toInt64 x3) 0) = 0 → ZcI mX10_asOne [.int 1] h4 (fun x23 h22 => (zK h22 l0 = 4) ∧ ZcV mX3_lay [.ref l0, .long (Int32.toInt64 x23)] h22 (fun h24 => ψ h24))))))) ∧ (l1 = 42 → (zK h4 l0 = 4) ∧ ZcV mX3_lay [.ref l0, .long ((Int32.toInt64 x6) * (Int32.toInt64 x3))] h4 (fun h26 => ψ h26)) ∧ (l1 = 43 → (zK h4 l0 = 4) ∧ ZcV mX3_lay [.ref l0, .long ((Int32.toInt64 x6) + (Int32.toInt64 x3))] h4 (fun h28 => ψ h28)) ∧ (l1 = 45 → (zK h4 l0 = 4) ∧ ZcV mX3_lay [.ref l0, .long ((Int32.toInt64 x6) - (Int32.toInt64 x3))] h4 (fun h30 => ψ h30)) ∧ (l1 = 60 → ((0 ≤ (lg_cmp (Int32.toInt64 x6) (Int32.toInt64 x3)) → ZcI mX10_asOne [.int 0] h4 (fun x33 h32 => (zK h32 l0 = 4) ∧ ZcV mX3_lay [.ref l0, .long (Int32.toInt64 x33)] h32 (fun h34 => ψ h34))) ∧ (¬ 0 ≤ (lg_cmp (Int32.toInt64 x6) (Int32.toInt64 x3)) → ZcI mX10_asOne [.int 1] h4 (fun x37 h36 => (zK h36 l0 = 4) ∧ ZcV mX3_lay [.ref l0, .long (Int32.toInt64 x37)] h36 (fun h38 => ψ h38))))) ∧ (l1 = 61 → ((¬ (lg_cmp (Int32.toInt64 x6) (Int32.toInt64 x3)) = 0 → ZcI mX10_asOne [.int 0] h4 (fun x41 h40 => (zK h40 l0 = 4) ∧ ZcV mX3_lay [.ref l0, .long (Int32.toInt64 x41)] h40 (fun h42 => ψ h42))) ∧ ((lg_cmp (Int32.toInt64 x6) (Int32.toInt64 x3)) = 0 → ZcI mX10_asOne [.int 1] h4 (fun x45 h44 => (zK h44 l0 = 4) ∧ ZcV mX3_lay [.ref l0, .long (Int32.toInt64 x45)] h44 (fun h46 => ψ h46))))) ∧ (l1 = 62 → (((lg_cmp (Int32.toInt64 x6) (Int32.toInt64 x3)) ≤ 0 → ZcI mX10_asOne [.int 0] h4 (fun x49 h48 => (zK h48 l0 = 4) ∧ ZcV mX3_lay [.ref l0, .long (Int32.toInt64 x49)] h48 (fun h50 => ψ h50))) ∧ (¬ (lg_cmp (Int32.toInt64 x6) (Int32.toInt64 x3)) ≤ 0 → ZcI mX10_asOne [.int 1] h4 (fun x53 h52 => (zK h52 l0 = 4) ∧ ZcV mX3_lay [.ref l0, .long (Int32.toInt64 x53)] h52 (fun h54 => ψ h54))))) ∧ (¬ l1 = 38 → ¬ l1 = 42 → ¬ l1 = 43 → ¬ l1 = 45 → ¬ l1 = 60 → ¬ l1 = 61 → ¬ l1 = 62 → ((¬ (lg_cmp (Int32.toInt64 x6) 0) = 0 → ZcI mX10_asOne [.int 1] h4 (fun x57 h56 => (zK h56 l0 = 4) ∧ ZcV mX3_lay [.ref l0, .long (Int32.toInt64 x57)] h56 (fun h58 => ψ h58))) ∧ ((lg_cmp (Int32.toInt64 x6) 0) = 0 → (((lg_cmp (Int32.toInt64 x3) 0) = 0 → ZcI mX10_asOne [.int 0] h4 (fun x61 h60 => (zK h60 l0 = 4) ∧ ZcV mX3_lay [.ref l0, .long (Int32.toInt64 x61)] h60 (fun h62 => ψ h62))) ∧ (¬ (lg_cmp (Int32.toInt64 x3) 0) = 0 → ZcI mX10_asOne [.int 1] h4 (fun x65 h64 => (zK h64 l0 = 4) ∧ ZcV mX3_lay [.ref l0, .long (Int32.toInt64 x65)] h64 (fun h66 => ψ h66))))))))))) : ZcV mX3_join [.ref l0, .int l1] h ψ := by
  refine Zc.intro (L := [some (.ref l0), some (.int l1), none, none, none, none]) (show plainName RX3 = true by decide) rfl (Nat.le_of_ble_eq_true rfl) ?_
  show Zt _ _ 0 0 _ _ _ _
  refine z_aload_n (q := 1) dX3_join_0 rfl rfl rfl ?_
  obtain ⟨g2, hF⟩ := hF
  refine z_callVI (rc := 0) (rs := 0) (b := l0) (av := []) (ci := 3) (r := (RX3, TX3, 2)) (q := 4) hF dX3_join_1 ml_X3_35 ok_X3_take in_X3_take se_X3_take rfl rfl g2 rfl (Nat.le_of_ble_eq_true rfl) (by decide) (Nat.le_of_ble_eq_true rfl) rfl rfl rfl rfl (fun x3 h1 hF => ?_)
  refine z_i2l (q := 5) dX3_join_4 rfl ?_
  refine z_lstore_n (q := 6) (L' := [some (.ref l0), some (.int l1), some (.long (Int32.toInt64 x3)), none, none, none]) dX3_join_5 rfl (Nat.le_of_ble_eq_true rfl) rfl rfl rfl rfl ?_
  refine z_aload_n (q := 7) dX3_join_6 rfl rfl rfl ?_
  obtain ⟨g5, hF⟩ := hF
  refine z_callVI (rc := 0) (rs := 0) (b := l0) (av := []) (ci := 3) (r := (RX3, TX3, 2)) (q := 10) hF dX3_join_7 ml_X3_35 ok_X3_take in_X3_take se_X3_take rfl rfl g5 rfl (Nat.le_of_ble_eq_true rfl) (by decide) (Nat.le_of_ble_eq_true rfl) rfl rfl rfl rfl (fun x6 h4 hF => ?_)
  refine z_i2l (q := 11) dX3_join_10 rfl ?_
  refine z_lstore (q := 13) (L' := [some (.ref l0), some (.int l1), some (.long (Int32.toInt64 x3)), none, some (.long (Int32.toInt64 x6)), none]) dX3_join_11 (Nat.le_of_ble_eq_true rfl) rfl rfl rfl rfl ?_
  refine z_iload_n (q := 14) dX3_join_13 rfl rfl rfl ?_
  by_cases e7 : l1 = 38
  · refine z_tableIn (q := 230) (off := 216) dX3_join_14 (by rw [e7]; decide) (by rw [e7]; decide) (by rw [e7]; decide) (by decide) ?_
    have hF := hF.1 e7
    refine z_aload_n (q := 231) dX3_join_230 rfl rfl rfl ?_
    refine z_lload (q := 233) dX3_join_231 rfl rfl ?_
    refine z_lconst (q := 234) (v := 0) dX3_join_233 (by decide) rfl ?_
    refine z_lcmp (q := 235) dX3_join_234 rfl ?_
    refine z_if_eq (t := 248) (q := 238) dX3_join_235 (by decide) rfl (fun hc => ?_) (fun hc => ?_)
    · have hF := hF.1 hc
      refine z_iconst (q := 249) (v := 0) dX3_join_248 (by decide) rfl ?_
      refine z_callSI (rc := 0) (rs := 0) (av := [.int 0]) (q := 252) hF dX3_join_249 ml_X3_58 ok_X10_asOne st_X10_asOne rfl (Nat.le_of_ble_eq_true rfl) (by decide) (Nat.le_of_ble_eq_true rfl) rfl rfl rfl rfl (fun x15 h14 hF => ?_)
      refine z_i2l (q := 253) dX3_join_252 rfl ?_
      obtain ⟨g17, hF⟩ := hF
      refine z_callVV (rc := 0) (rs := 0) (b := l0) (av := [.long (Int32.toInt64 x15)]) (ci := 3) (r := (RX3, TX3, 2)) (q := 256) hF dX3_join_253 ml_X3_44 ok_X3_lay in_X3_lay se_X3_lay rfl rfl g17 rfl (Nat.le_of_ble_eq_true rfl) (by decide) (Nat.le_of_ble_eq_true rfl) rfl rfl rfl rfl (fun h16 hF => ?_)
      refine z_goto (q := 285) dX3_join_256 (by decide) ?_
      exact z_return dX3_join_285 rfl ⟨rfl, hF⟩
    · have hF := hF.2 hc
      refine z_lload_n (q := 239) dX3_join_238 rfl rfl rfl ?_
      refine z_lconst (q := 240) (v := 0) dX3_join_239 (by decide) rfl ?_
      refine z_lcmp (q := 241) dX3_join_240 rfl ?_
      refine z_if_eq (t := 248) (q := 244) dX3_join_241 (by decide) rfl (fun hc => ?_) (fun hc => ?_)
      · have hF := hF.1 hc
        refine z_iconst (q := 249) (v := 0) dX3_join_248 (by decide) rfl ?_
        refine z_callSI (rc := 0) (rs := 0) (av := [.int 0]) (q := 252) hF dX3_join_249 ml_X3_58 ok_X10_asOne st_X10_asOne rfl (Nat.le_of_ble_eq_true rfl) (by decide) (Nat.le_of_ble_eq_true rfl) rfl rfl rfl rfl (fun x19 h18 hF => ?_)
        refine z_i2l (q := 253) dX3_join_252 rfl ?_
        obtain ⟨g21, hF⟩ := hF
        refine z_callVV (rc := 0) (rs := 0) (b := l0) (av := [.long (Int32.toInt64 x19)]) (ci := 3) (r := (RX3, TX3, 2)) (q := 256) hF dX3_join_253 ml_X3_44 ok_X3_lay in_X3_lay se_X3_lay rfl rfl g21 rfl (Nat.le_of_ble_eq_true rfl) (by decide) (Nat.le_of_ble_eq_true rfl) rfl rfl rfl rfl (fun h20 hF => ?_)
        refine z_goto (q := 285) dX3_join_256 (by decide) ?_
        exact z_return dX3_join_285 rfl ⟨rfl, hF⟩
      · have hF := hF.2 hc
        refine z_iconst (q := 245) (v := 1) dX3_join_244 (by decide) rfl ?_
        refine z_goto (q := 249) dX3_join_245 (by decide) ?_
        refine z_callSI (rc := 0) (rs := 0) (av := [.int 1]) (q := 252) hF dX3_join_249 ml_X3_58 ok_X10_asOne st_X10_asOne rfl (Nat.le_of_ble_eq_true rfl) (by decide) (Nat.le_of_ble_eq_true rfl) rfl rfl rfl rfl (fun x23 h22 hF => ?_)
        refine z_i2l (q := 253) dX3_join_252 rfl ?_
        obtain ⟨g25, hF⟩ := hF
        refine z_callVV (rc := 0) (rs := 0) (b := l0) (av := [.long (Int32.toInt64 x23)]) (ci := 3) (r := (RX3, TX3, 2)) (q := 256) hF dX3_join_253 ml_X3_44 ok_X3_lay in_X3_lay se_X3_lay rfl rfl g25 rfl (Nat.le_of_ble_eq_true rfl) (by decide) (Nat.le_of_ble_eq_true rfl) rfl rfl rfl rfl (fun h24 hF => ?_)
        refine z_goto (q := 285) dX3_join_256 (by decide) ?_
        exact z_return dX3_join_285 rfl ⟨rfl, hF⟩
  by_cases e8 : l1 = 42
  · refine z_tableIn (q := 150) (off := 136) dX3_join_14 (by rw [e8]; decide) (by rw [e8]; decide) (by rw [e8]; decide) (by decide) ?_
    have hF := hF.2.1 e8
    refine z_aload_n (q := 151) dX3_join_150 rfl rfl rfl ?_
    refine z_lload (q := 153) dX3_join_151 rfl rfl ?_
    refine z_lload_n (q := 154) dX3_join_153 rfl rfl rfl ?_
    refine z_lmul (q := 155) dX3_join_154 rfl ?_
    obtain ⟨g27, hF⟩ := hF
    refine z_callVV (rc := 0) (rs := 0) (b := l0) (av := [.long ((Int32.toInt64 x6) * (Int32.toInt64 x3))]) (ci := 3) (r := (RX3, TX3, 2)) (q := 158) hF dX3_join_155 ml_X3_44 ok_X3_lay in_X3_lay se_X3_lay rfl rfl g27 rfl (Nat.le_of_ble_eq_true rfl) (by decide) (Nat.le_of_ble_eq_true rfl) rfl rfl rfl rfl (fun h26 hF => ?_)
    refine z_goto (q := 285) dX3_join_158 (by decide) ?_
    exact z_return dX3_join_285 rfl ⟨rfl, hF⟩
  by_cases e9 : l1 = 43
  · refine z_tableIn (q := 128) (off := 114) dX3_join_14 (by rw [e9]; decide) (by rw [e9]; decide) (by rw [e9]; decide) (by decide) ?_
    have hF := hF.2.2.1 e9
    refine z_aload_n (q := 129) dX3_join_128 rfl rfl rfl ?_
    refine z_lload (q := 131) dX3_join_129 rfl rfl ?_
    refine z_lload_n (q := 132) dX3_join_131 rfl rfl rfl ?_
    refine z_ladd (q := 133) dX3_join_132 rfl ?_
    obtain ⟨g29, hF⟩ := hF
    refine z_callVV (rc := 0) (rs := 0) (b := l0) (av := [.long ((Int32.toInt64 x6) + (Int32.toInt64 x3))]) (ci := 3) (r := (RX3, TX3, 2)) (q := 136) hF dX3_join_133 ml_X3_44 ok_X3_lay in_X3_lay se_X3_lay rfl rfl g29 rfl (Nat.le_of_ble_eq_true rfl) (by decide) (Nat.le_of_ble_eq_true rfl) rfl rfl rfl rfl (fun h28 hF => ?_)
    refine z_goto (q := 285) dX3_join_136 (by decide) ?_
    exact z_return dX3_join_285 rfl ⟨rfl, hF⟩
  by_cases e10 : l1 = 45
  · refine z_tableIn (q := 139) (off := 125) dX3_join_14 (by rw [e10]; decide) (by rw [e10]; decide) (by rw [e10]; decide) (by decide) ?_
    have hF := hF.2.2.2.1 e10
    refine z_aload_n (q := 140) dX3_join_139 rfl rfl rfl ?_
    refine z_lload (q := 142) dX3_join_140 rfl rfl ?_
    refine z_lload_n (q := 143) dX3_join_142 rfl rfl rfl ?_
    refine z_lsub (q := 144) dX3_join_143 rfl ?_
    obtain ⟨g31, hF⟩ := hF
    refine z_callVV (rc := 0) (rs := 0) (b := l0) (av := [.long ((Int32.toInt64 x6) - (Int32.toInt64 x3))]) (ci := 3) (r := (RX3, TX3, 2)) (q := 147) hF dX3_join_144 ml_X3_44 ok_X3_lay in_X3_lay se_X3_lay rfl rfl g31 rfl (Nat.le_of_ble_eq_true rfl) (by decide) (Nat.le_of_ble_eq_true rfl) rfl rfl rfl rfl (fun h30 hF => ?_)
    refine z_goto (q := 285) dX3_join_147 (by decide) ?_
    exact z_return dX3_join_285 rfl ⟨rfl, hF⟩
  by_cases e11 : l1 = 60
  · refine z_tableIn (q := 161) (off := 147) dX3_join_14 (by rw [e11]; decide) (by rw [e11]; decide) (by rw [e11]; decide) (by decide) ?_
    have hF := hF.2.2.2.2.1 e11
    refine z_aload_n (q := 162) dX3_join_161 rfl rfl rfl ?_
    refine z_lload (q := 164) dX3_join_162 rfl rfl ?_
    refine z_lload_n (q := 165) dX3_join_164 rfl rfl rfl ?_
    refine z_lcmp (q := 166) dX3_join_165 rfl ?_
    refine z_if_ge (t := 173) (q := 169) dX3_join_166 (by decide) rfl (fun hc => ?_) (fun hc => ?_)
    · have hF := hF.1 hc
      refine z_iconst (q := 174) (v := 0) dX3_join_173 (by decide) rfl ?_
      refine z_callSI (rc := 0) (rs := 0) (av := [.int 0]) (q := 177) hF dX3_join_174 ml_X3_58 ok_X10_asOne st_X10_asOne rfl (Nat.le_of_ble_eq_true rfl) (by decide) (Nat.le_of_ble_eq_true rfl) rfl rfl rfl rfl (fun x33 h32 hF => ?_)
      refine z_i2l (q := 178) dX3_join_177 rfl ?_
      obtain ⟨g35, hF⟩ := hF
      refine z_callVV (rc := 0) (rs := 0) (b := l0) (av := [.long (Int32.toInt64 x33)]) (ci := 3) (r := (RX3, TX3, 2)) (q := 181) hF dX3_join_178 ml_X3_44 ok_X3_lay in_X3_lay se_X3_lay rfl rfl g35 rfl (Nat.le_of_ble_eq_true rfl) (by decide) (Nat.le_of_ble_eq_true rfl) rfl rfl rfl rfl (fun h34 hF => ?_)
      refine z_goto (q := 285) dX3_join_181 (by decide) ?_
      exact z_return dX3_join_285 rfl ⟨rfl, hF⟩
    · have hF := hF.2 hc
      refine z_iconst (q := 170) (v := 1) dX3_join_169 (by decide) rfl ?_
      refine z_goto (q := 174) dX3_join_170 (by decide) ?_
      refine z_callSI (rc := 0) (rs := 0) (av := [.int 1]) (q := 177) hF dX3_join_174 ml_X3_58 ok_X10_asOne st_X10_asOne rfl (Nat.le_of_ble_eq_true rfl) (by decide) (Nat.le_of_ble_eq_true rfl) rfl rfl rfl rfl (fun x37 h36 hF => ?_)
      refine z_i2l (q := 178) dX3_join_177 rfl ?_
      obtain ⟨g39, hF⟩ := hF
      refine z_callVV (rc := 0) (rs := 0) (b := l0) (av := [.long (Int32.toInt64 x37)]) (ci := 3) (r := (RX3, TX3, 2)) (q := 181) hF dX3_join_178 ml_X3_44 ok_X3_lay in_X3_lay se_X3_lay rfl rfl g39 rfl (Nat.le_of_ble_eq_true rfl) (by decide) (Nat.le_of_ble_eq_true rfl) rfl rfl rfl rfl (fun h38 hF => ?_)
      refine z_goto (q := 285) dX3_join_181 (by decide) ?_
      exact z_return dX3_join_285 rfl ⟨rfl, hF⟩
  by_cases e12 : l1 = 61
  · refine z_tableIn (q := 207) (off := 193) dX3_join_14 (by rw [e12]; decide) (by rw [e12]; decide) (by rw [e12]; decide) (by decide) ?_
    have hF := hF.2.2.2.2.2.1 e12
    refine z_aload_n (q := 208) dX3_join_207 rfl rfl rfl ?_
    refine z_lload (q := 210) dX3_join_208 rfl rfl ?_
    refine z_lload_n (q := 211) dX3_join_210 rfl rfl rfl ?_
    refine z_lcmp (q := 212) dX3_join_211 rfl ?_
    refine z_if_ne (t := 219) (q := 215) dX3_join_212 (by decide) rfl (fun hc => ?_) (fun hc => ?_)
    · have hF := hF.1 hc
      refine z_iconst (q := 220) (v := 0) dX3_join_219 (by decide) rfl ?_
      refine z_callSI (rc := 0) (rs := 0) (av := [.int 0]) (q := 223) hF dX3_join_220 ml_X3_58 ok_X10_asOne st_X10_asOne rfl (Nat.le_of_ble_eq_true rfl) (by decide) (Nat.le_of_ble_eq_true rfl) rfl rfl rfl rfl (fun x41 h40 hF => ?_)
      refine z_i2l (q := 224) dX3_join_223 rfl ?_
      obtain ⟨g43, hF⟩ := hF
      refine z_callVV (rc := 0) (rs := 0) (b := l0) (av := [.long (Int32.toInt64 x41)]) (ci := 3) (r := (RX3, TX3, 2)) (q := 227) hF dX3_join_224 ml_X3_44 ok_X3_lay in_X3_lay se_X3_lay rfl rfl g43 rfl (Nat.le_of_ble_eq_true rfl) (by decide) (Nat.le_of_ble_eq_true rfl) rfl rfl rfl rfl (fun h42 hF => ?_)
      refine z_goto (q := 285) dX3_join_227 (by decide) ?_
      exact z_return dX3_join_285 rfl ⟨rfl, hF⟩
    · have hF := hF.2 hc
      refine z_iconst (q := 216) (v := 1) dX3_join_215 (by decide) rfl ?_
      refine z_goto (q := 220) dX3_join_216 (by decide) ?_
      refine z_callSI (rc := 0) (rs := 0) (av := [.int 1]) (q := 223) hF dX3_join_220 ml_X3_58 ok_X10_asOne st_X10_asOne rfl (Nat.le_of_ble_eq_true rfl) (by decide) (Nat.le_of_ble_eq_true rfl) rfl rfl rfl rfl (fun x45 h44 hF => ?_)
      refine z_i2l (q := 224) dX3_join_223 rfl ?_
      obtain ⟨g47, hF⟩ := hF
      refine z_callVV (rc := 0) (rs := 0) (b := l0) (av := [.long (Int32.toInt64 x45)]) (ci := 3) (r := (RX3, TX3, 2)) (q := 227) hF dX3_join_224 ml_X3_44 ok_X3_lay in_X3_lay se_X3_lay rfl rfl g47 rfl (Nat.le_of_ble_eq_true rfl) (by decide) (Nat.le_of_ble_eq_true rfl) rfl rfl rfl rfl (fun h46 hF => ?_)
      refine z_goto (q := 285) dX3_join_227 (by decide) ?_
      exact z_return dX3_join_285 rfl ⟨rfl, hF⟩
  by_cases e13 : l1 = 62
  · refine z_tableIn (q := 184) (off := 170) dX3_join_14 (by rw [e13]; decide) (by rw [e13]; decide) (by rw [e13]; decide) (by decide) ?_
    have hF := hF.2.2.2.2.2.2.1 e13
    refine z_aload_n (q := 185) dX3_join_184 rfl rfl rfl ?_
    refine z_lload (q := 187) dX3_join_185 rfl rfl ?_
    refine z_lload_n (q := 188) dX3_join_187 rfl rfl rfl ?_
    refine z_lcmp (q := 189) dX3_join_188 rfl ?_
    refine z_if_le (t := 196) (q := 192) dX3_join_189 (by decide) rfl (fun hc => ?_) (fun hc => ?_)
    · have hF := hF.1 hc
      refine z_iconst (q := 197) (v := 0) dX3_join_196 (by decide) rfl ?_
      refine z_callSI (rc := 0) (rs := 0) (av := [.int 0]) (q := 200) hF dX3_join_197 ml_X3_58 ok_X10_asOne st_X10_asOne rfl (Nat.le_of_ble_eq_true rfl) (by decide) (Nat.le_of_ble_eq_true rfl) rfl rfl rfl rfl (fun x49 h48 hF => ?_)
      refine z_i2l (q := 201) dX3_join_200 rfl ?_
      obtain ⟨g51, hF⟩ := hF
      refine z_callVV (rc := 0) (rs := 0) (b := l0) (av := [.long (Int32.toInt64 x49)]) (ci := 3) (r := (RX3, TX3, 2)) (q := 204) hF dX3_join_201 ml_X3_44 ok_X3_lay in_X3_lay se_X3_lay rfl rfl g51 rfl (Nat.le_of_ble_eq_true rfl) (by decide) (Nat.le_of_ble_eq_true rfl) rfl rfl rfl rfl (fun h50 hF => ?_)
      refine z_goto (q := 285) dX3_join_204 (by decide) ?_
      exact z_return dX3_join_285 rfl ⟨rfl, hF⟩
    · have hF := hF.2 hc
      refine z_iconst (q := 193) (v := 1) dX3_join_192 (by decide) rfl ?_
      refine z_goto (q := 197) dX3_join_193 (by decide) ?_
      refine z_callSI (rc := 0) (rs := 0) (av := [.int 1]) (q := 200) hF dX3_join_197 ml_X3_58 ok_X10_asOne st_X10_asOne rfl (Nat.le_of_ble_eq_true rfl) (by decide) (Nat.le_of_ble_eq_true rfl) rfl rfl rfl rfl (fun x53 h52 hF => ?_)
      refine z_i2l (q := 201) dX3_join_200 rfl ?_
      obtain ⟨g55, hF⟩ := hF
      refine z_callVV (rc := 0) (rs := 0) (b := l0) (av := [.long (Int32.toInt64 x53)]) (ci := 3) (r := (RX3, TX3, 2)) (q := 204) hF dX3_join_201 ml_X3_44 ok_X3_lay in_X3_lay se_X3_lay rfl rfl g55 rfl (Nat.le_of_ble_eq_true rfl) (by decide) (Nat.le_of_ble_eq_true rfl) rfl rfl rfl rfl (fun h54 hF => ?_)
      refine z_goto (q := 285) dX3_join_204 (by decide) ?_
      exact z_return dX3_join_285 rfl ⟨rfl, hF⟩
  have hD : Zt mX3_join (zPV ψ) 0 0 259 [some (.ref l0), some (.int l1), some (.long (Int32.toInt64 x3)), none, some (.long (Int32.toInt64 x6)), none] [] h4 := by
    have hF := hF.2.2.2.2.2.2.2 e7 e8 e9 e10 e11 e12 e13
    refine z_aload_n (q := 260) dX3_join_259 rfl rfl rfl ?_
    refine z_lload (q := 262) dX3_join_260 rfl rfl ?_
    refine z_lconst (q := 263) (v := 0) dX3_join_262 (by decide) rfl ?_
    refine z_lcmp (q := 264) dX3_join_263 rfl ?_
    refine z_if_ne (t := 273) (q := 267) dX3_join_264 (by decide) rfl (fun hc => ?_) (fun hc => ?_)
    · have hF := hF.1 hc
      refine z_iconst (q := 274) (v := 1) dX3_join_273 (by decide) rfl ?_
      refine z_goto (q := 278) dX3_join_274 (by decide) ?_
      refine z_callSI (rc := 0) (rs := 0) (av := [.int 1]) (q := 281) hF dX3_join_278 ml_X3_58 ok_X10_asOne st_X10_asOne rfl (Nat.le_of_ble_eq_true rfl) (by decide) (Nat.le_of_ble_eq_true rfl) rfl rfl rfl rfl (fun x57 h56 hF => ?_)
      refine z_i2l (q := 282) dX3_join_281 rfl ?_
      obtain ⟨g59, hF⟩ := hF
      refine z_callVV (rc := 0) (rs := 0) (b := l0) (av := [.long (Int32.toInt64 x57)]) (ci := 3) (r := (RX3, TX3, 2)) (q := 285) hF dX3_join_282 ml_X3_44 ok_X3_lay in_X3_lay se_X3_lay rfl rfl g59 rfl (Nat.le_of_ble_eq_true rfl) (by decide) (Nat.le_of_ble_eq_true rfl) rfl rfl rfl rfl (fun h58 hF => ?_)
      exact z_return dX3_join_285 rfl ⟨rfl, hF⟩
    · have hF := hF.2 hc
      refine z_lload_n (q := 268) dX3_join_267 rfl rfl rfl ?_
      refine z_lconst (q := 269) (v := 0) dX3_join_268 (by decide) rfl ?_
      refine z_lcmp (q := 270) dX3_join_269 rfl ?_
      refine z_if_eq (t := 277) (q := 273) dX3_join_270 (by decide) rfl (fun hc => ?_) (fun hc => ?_)
      · have hF := hF.1 hc
        refine z_iconst (q := 278) (v := 0) dX3_join_277 (by decide) rfl ?_
        refine z_callSI (rc := 0) (rs := 0) (av := [.int 0]) (q := 281) hF dX3_join_278 ml_X3_58 ok_X10_asOne st_X10_asOne rfl (Nat.le_of_ble_eq_true rfl) (by decide) (Nat.le_of_ble_eq_true rfl) rfl rfl rfl rfl (fun x61 h60 hF => ?_)
        refine z_i2l (q := 282) dX3_join_281 rfl ?_
        obtain ⟨g63, hF⟩ := hF
        refine z_callVV (rc := 0) (rs := 0) (b := l0) (av := [.long (Int32.toInt64 x61)]) (ci := 3) (r := (RX3, TX3, 2)) (q := 285) hF dX3_join_282 ml_X3_44 ok_X3_lay in_X3_lay se_X3_lay rfl rfl g63 rfl (Nat.le_of_ble_eq_true rfl) (by decide) (Nat.le_of_ble_eq_true rfl) rfl rfl rfl rfl (fun h62 hF => ?_)
        exact z_return dX3_join_285 rfl ⟨rfl, hF⟩
      · have hF := hF.2 hc
        refine z_iconst (q := 274) (v := 1) dX3_join_273 (by decide) rfl ?_
        refine z_goto (q := 278) dX3_join_274 (by decide) ?_
        refine z_callSI (rc := 0) (rs := 0) (av := [.int 1]) (q := 281) hF dX3_join_278 ml_X3_58 ok_X10_asOne st_X10_asOne rfl (Nat.le_of_ble_eq_true rfl) (by decide) (Nat.le_of_ble_eq_true rfl) rfl rfl rfl rfl (fun x65 h64 hF => ?_)
        refine z_i2l (q := 282) dX3_join_281 rfl ?_
        obtain ⟨g67, hF⟩ := hF
        refine z_callVV (rc := 0) (rs := 0) (b := l0) (av := [.long (Int32.toInt64 x65)]) (ci := 3) (r := (RX3, TX3, 2)) (q := 285) hF dX3_join_282 ml_X3_44 ok_X3_lay in_X3_lay se_X3_lay rfl rfl g67 rfl (Nat.le_of_ble_eq_true rfl) (by decide) (Nat.le_of_ble_eq_true rfl) rfl rfl rfl rfl (fun h66 hF => ?_)
        exact z_return dX3_join_285 rfl ⟨rfl, hF⟩
  by_cases hr : l1.toInt < 38 ∨ 62 < l1.toInt
  · exact z_tableOut (q := 259) dX3_join_14 hr (by decide) hD
  · refine z_tableIn (q := 259) (off := 245) dX3_join_14 (by omega) (by omega) (by
      have k0 := zsw_ne (k := 38) e7 (by decide)
      have k1 := zsw_ne (k := 42) e8 (by decide)
      have k2 := zsw_ne (k := 43) e9 (by decide)
      have k3 := zsw_ne (k := 45) e10 (by decide)
      have k4 := zsw_ne (k := 60) e11 (by decide)
      have k5 := zsw_ne (k := 61) e12 (by decide)
      have k6 := zsw_ne (k := 62) e13 (by decide)
      generalize l1.toInt = z at *
      obtain ⟨j, hj⟩ : ∃ j : Nat, z = 38 + j := ⟨(z - 38).toNat, by omega⟩
      subst hj
      have hj2 : j < 25 := by omega
      rw [show (38 + (j : Int) - 38).toNat = j by omega]
      have : ∀ j : Nat, j < 25 → (j = 0 ∨ j = 4 ∨ j = 5 ∨ j = 7 ∨ j = 22 ∨ j = 23 ∨ j = 24) ∨ (#[216, 245, 245, 245, 136, 114, 245, 125, 245, 245, 245, 245, 245, 245, 245, 245, 245, 245, 245, 245, 245, 245, 147, 193, 170] : Array Int)[j]? = some (245 : Int) := by decide
      exact (this j hj2).resolve_left (by omega)) (by decide) hD
set_option maxRecDepth 100000 in
set_option maxHeartbeats 4000000 in
theorem wX3_lay {ψ : ZH → Prop} {l0 : Nat} {l1 : Int64} {h : ZH} (hF : (zK h l0 = 4) ∧ ((5 ≤ (zI h l0 1) → ψ h) ∧ (¬ 5 ≤ (zI h l0 1) → ((zR h l0 0) ≠ 0) ∧ (zK h (zR h l0 0) = 20) ∧ (vp_in (zI h l0 1) (zN h (zR h l0 0))) ∧ ∀ h5 : ZH, h5 = (zsI h (zR h l0 0) (Int32.toNatClampNeg (zI h l0 1)) (Int64.toInt32 (if (if l1 < 1000000 then l1 else 1000000) < (-1000000) then (-1000000) else (if l1 < 1000000 then l1 else 1000000)))) → (zK h5 l0 = 4) ∧ ψ (zsI h5 l0 1 ((zI h5 l0 1) + 1))))) : ZcV mX3_lay [.ref l0, .long l1] h ψ := by
  refine Zc.intro (L := [some (.ref l0), some (.long l1), none]) (show plainName RX3 = true by decide) rfl (Nat.le_of_ble_eq_true rfl) ?_
  show Zt _ _ 0 0 _ _ _ _
  refine z_aload_n (q := 1) dX3_lay_0 rfl rfl rfl ?_
  obtain ⟨g1, hF⟩ := hF
  refine z_getI (c := 3) (k := 1) (r := (RX3, TX3, 2)) (q := 4) dX3_lay_1 rfl (by decide) fl_X3_15 rfl g1 rfl ?_
  refine z_iconst (q := 5) (v := 5) dX3_lay_4 (by decide) rfl ?_
  refine z_icmp_ge (t := 41) (q := 8) dX3_lay_5 (by decide) rfl (fun hc => ?_) (fun hc => ?_)
  · have hF := hF.1 hc
    exact z_return dX3_lay_41 rfl ⟨rfl, hF⟩
  · have hF := hF.2 hc
    refine z_aload_n (q := 9) dX3_lay_8 rfl rfl rfl ?_
    obtain ⟨g2, hF⟩ := hF
    refine z_getR (c := 3) (k := 0) (r := (RX3, TX3, 2)) (q := 12) dX3_lay_9 rfl (by decide) fl_X3_9 rfl g1 g2 rfl ?_
    refine z_aload_n (q := 13) dX3_lay_12 rfl rfl rfl ?_
    refine z_getI (c := 3) (k := 1) (r := (RX3, TX3, 2)) (q := 16) dX3_lay_13 rfl (by decide) fl_X3_15 rfl g1 rfl ?_
    refine z_ldc2 (q := 19) (v := (-1000000)) dX3_lay_16 cw_X3_66 rfl ?_
    refine z_ldc2 (q := 22) (v := 1000000) dX3_lay_19 cw_X3_68 rfl ?_
    refine z_lload_n (q := 23) dX3_lay_22 rfl rfl rfl ?_
    refine z_lmin (q := 26) dX3_lay_23 mw_X3_70 (Nat.le_of_ble_eq_true rfl) (by decide) rfl ?_
    refine z_lmax (q := 29) dX3_lay_26 mw_X3_76 (Nat.le_of_ble_eq_true rfl) (by decide) rfl ?_
    refine z_l2i (q := 30) dX3_lay_29 rfl ?_
    obtain ⟨g3, hF⟩ := hF
    obtain ⟨g4, hF⟩ := hF
    refine y_iast (j := (Int32.toNatClampNeg (zI h l0 1))) (q := 31) dX3_lay_30 g3 g4 rfl rfl ?_
    refine z_aload_n (q := 32) dX3_lay_31 rfl rfl rfl ?_
    refine z_dup (q := 33) dX3_lay_32 rfl rfl ?_
    refine z_nameH (fun h5 eh6 => ?_)
    have hF := hF h5 eh6
    obtain ⟨g7, hF⟩ := hF
    refine z_getI (c := 3) (k := 1) (r := (RX3, TX3, 2)) (q := 36) dX3_lay_33 rfl (by decide) fl_X3_15 rfl g7 rfl ?_
    refine z_iconst (q := 37) (v := 1) dX3_lay_36 (by decide) rfl ?_
    refine z_iadd (q := 38) dX3_lay_37 rfl ?_
    refine z_putI (c := 3) (k := 1) (r := (RX3, TX3, 2)) (q := 41) dX3_lay_38 rfl (by decide) fl_X3_15 rfl rfl g7 rfl ?_
    exact z_return dX3_lay_41 rfl ⟨rfl, hF⟩
set_option maxRecDepth 100000 in
set_option maxHeartbeats 4000000 in
theorem wX3_take {ψ : Int32 → ZH → Prop} {l0 : Nat} {h : ZH} (hF : (zK h l0 = 4) ∧ ((0 < (zI h l0 1) → ((zR h l0 0) ≠ 0) ∧ ∀ h3 : ZH, h3 = (zsI h l0 1 ((zI h l0 1) - 1)) → (zK h3 l0 = 4) ∧ (zK h3 (zR h l0 0) = 20) ∧ (vp_in (zI h3 l0 1) (zN h3 (zR h l0 0))) ∧ ψ (zI h3 (zR h l0 0) (Int32.toNatClampNeg (zI h3 l0 1))) h3) ∧ (¬ 0 < (zI h l0 1) → ψ 0 h))) : ZcI mX3_take [.ref l0] h ψ := by
  refine Zc.intro (L := [some (.ref l0)]) (show plainName RX3 = true by decide) rfl (Nat.le_of_ble_eq_true rfl) ?_
  show Zt _ _ 0 0 _ _ _ _
  refine z_aload_n (q := 1) dX3_take_0 rfl rfl rfl ?_
  obtain ⟨g1, hF⟩ := hF
  refine z_getI (c := 3) (k := 1) (r := (RX3, TX3, 2)) (q := 4) dX3_take_1 rfl (by decide) fl_X3_15 rfl g1 rfl ?_
  refine z_if_gt (t := 9) (q := 7) dX3_take_4 (by decide) rfl (fun hc => ?_) (fun hc => ?_)
  · have hF := hF.1 hc
    refine z_aload_n (q := 10) dX3_take_9 rfl rfl rfl ?_
    refine z_dup (q := 11) dX3_take_10 rfl rfl ?_
    refine z_getI (c := 3) (k := 1) (r := (RX3, TX3, 2)) (q := 14) dX3_take_11 rfl (by decide) fl_X3_15 rfl g1 rfl ?_
    refine z_iconst (q := 15) (v := 1) dX3_take_14 (by decide) rfl ?_
    refine z_isub (q := 16) dX3_take_15 rfl ?_
    refine z_putI (c := 3) (k := 1) (r := (RX3, TX3, 2)) (q := 19) dX3_take_16 rfl (by decide) fl_X3_15 rfl rfl g1 rfl ?_
    refine z_aload_n (q := 20) dX3_take_19 rfl rfl rfl ?_
    obtain ⟨g2, hF⟩ := hF
    refine z_getR (c := 3) (k := 0) (r := (RX3, TX3, 2)) (q := 23) dX3_take_20 rfl (by decide) fl_X3_9 rfl g1 g2 rfl ?_
    refine z_aload_n (q := 24) dX3_take_23 rfl rfl rfl ?_
    refine z_nameH (fun h3 eh4 => ?_)
    have hF := hF h3 eh4
    obtain ⟨g5, hF⟩ := hF
    refine z_getI (c := 3) (k := 1) (r := (RX3, TX3, 2)) (q := 27) dX3_take_24 rfl (by decide) fl_X3_15 rfl g5 rfl ?_
    obtain ⟨g6, hF⟩ := hF
    obtain ⟨g7, hF⟩ := hF
    refine y_iald (j := (Int32.toNatClampNeg (zI h3 l0 1))) (q := 28) dX3_take_27 (Or.inl g6) g7 rfl rfl ?_
    exact z_ireturn dX3_take_28 rfl ⟨_, rfl, hF⟩
  · have hF := hF.2 hc
    refine z_iconst (q := 8) (v := 0) dX3_take_7 (by decide) rfl ?_
    exact z_ireturn dX3_take_8 rfl ⟨_, rfl, hF⟩
