set_option maxRecDepth 100000 in
set_option maxHeartbeats 4000000 in
theorem wX10_init_155 {ψ : ZH → Prop} {l0 : Nat} {l1 : Int32} {rc rs : Nat} {h : ZH} (hF : ((3 ≤ l1 → (zK h l0 = 11) ∧ ((zR h l0 4) ≠ 0) ∧ (zK h 1 = 30) ∧ (zK h (zR h l0 4) = 20) ∧ ((zR h l0 4) ≠ 1) ∧ ((Int32.ofNat (zN h 1)) = 7) ∧ (7 ≤ zN h 1) ∧ (7 ≤ zN h (zR h l0 4)) ∧ ∀ h9 : ZH, h9 = (zcp h 1 0 (zR h l0 4) 0 7) → ψ h9) ∧ (¬ 3 ≤ l1 → (zK h l0 = 11) ∧ ((zR h l0 6) ≠ 0) ∧ ∃ rc13 rs14 : Nat, rc13 + 1 ≤ rc ∧ rs14 + 2 ≤ rs ∧ ∃ a17 : Nat, a17 ≠ 0 ∧ zK h a17 = 0 ∧ ∀ h20 : ZH, h20 = (zmk h a17 9 0) → ∃ rc22 rs23 : Nat, rc22 + 1 ≤ rc13 ∧ rs23 + 40 ≤ rs14 ∧ ZcV mX8_init [.ref a17] h20 (fun h26 => (zK h26 (zR h l0 6) = 27) ∧ (vp_in l1 (zN h26 (zR h l0 6))) ∧ (zK h26 a17 = 9) ∧ Zt mX10_init (zPV ψ) rc22 rs23 155 [some (.ref l0), some (.int (l1 + 1))] [] (zsR h26 (zR h l0 6) (Int32.toNatClampNeg l1) a17))))) : Zt mX10_init (zPV ψ) rc rs 155 [some (.ref l0), some (.int l1)] [] h := by
  refine z_iload_n (q := 156) dX10_init_155 rfl rfl rfl ?_
  refine z_iconst (q := 157) (v := 3) dX10_init_156 (by decide) rfl ?_
  refine z_icmp_ge (t := 179) (q := 160) dX10_init_157 (by decide) rfl (fun hc => ?_) (fun hc => ?_)
  · have hF := hF.1 hc
    refine z_getst (q := 182) (a := 1) (f := "AT_FIRST") dX10_init_179 (by simp [zst]) sw_X10_33 rfl ?_
    refine z_iconst (q := 183) (v := 0) dX10_init_182 (by decide) rfl ?_
    refine z_aload_n (q := 184) dX10_init_183 rfl rfl rfl ?_
    obtain ⟨g1, hF⟩ := hF
    obtain ⟨g2, hF⟩ := hF
    refine z_getR (c := 10) (k := 4) (r := (RX10, TX10, 15)) (q := 187) dX10_init_184 rfl (by decide) fl_X10_37 rfl g1 g2 rfl ?_
    refine z_iconst (q := 188) (v := 0) dX10_init_187 (by decide) rfl ?_
    refine z_getst (q := 191) (a := 1) (f := "AT_FIRST") dX10_init_188 (by simp [zst]) sw_X10_33 rfl ?_
    obtain ⟨g3, hF⟩ := hF
    refine y_alen (kd := 30) (q := 192) dX10_init_191 g3 (by decide) (by decide) rfl ?_
    obtain ⟨g4, hF⟩ := hF
    obtain ⟨g5, hF⟩ := hF
    obtain ⟨g6, hF⟩ := hF
    obtain ⟨g7, hF⟩ := hF
    obtain ⟨g8, hF⟩ := hF
    refine z_acp7 g6 ?_
    refine z_acp (a := (zR h l0 4)) (b := 1) (kd := 20) (sp := 0) (dp := 0) (n := 7) (q := 195) dX10_init_192 aw_X10_85 g4 (Or.inr ⟨g3, rfl⟩) (by decide) g5 (by decide) (by decide) (by decide) (zadd0 (by decide) (by decide) g7) (zadd0 (by decide) (by decide) g8) (fun e => absurd e (by decide)) (Nat.le_of_ble_eq_true rfl) (by decide) rfl ?_
    refine z_nameH (fun h9 eh10 => ?_)
    have hF := hF h9 eh10
    exact z_return dX10_init_195 rfl ⟨rfl, hF⟩
  · have hF := hF.2 hc
    refine z_aload_n (q := 161) dX10_init_160 rfl rfl rfl ?_
    obtain ⟨g11, hF⟩ := hF
    obtain ⟨g12, hF⟩ := hF
    refine z_getR (c := 10) (k := 6) (r := (RX10, TX10, 15)) (q := 164) dX10_init_161 rfl (by decide) fl_X10_47 rfl g11 g12 rfl ?_
    refine z_iload_n (q := 165) dX10_init_164 rfl rfl rfl ?_
    obtain ⟨rc13, rs14, e15, e16, hF⟩ := hF
    refine Zt.room (rc' := rc13 + 1) (rs' := rs14 + 2) e15 e16 ?_
    obtain ⟨a17, g18, g19, hF⟩ := hF
    refine z_new (rc := rc13) (rs := rs14) (a := a17) (c := 8) (r := (RX8, TX8, 2)) (q := 168) dX10_init_165 rfl cl_X10_40 ni_X8 ii_X8 g18 g19 rfl ?_
    refine z_nameH (fun h20 eh21 => ?_)
    have hF := hF h20 eh21
    refine z_dup (q := 169) dX10_init_168 rfl rfl ?_
    obtain ⟨rc22, rs23, e24, e25, hF⟩ := hF
    refine Zt.room (rc' := rc22 + 1) (rs' := rs23 + 40) e24 e25 ?_
    refine z_callCV (rc := rc22) (rs := rs23) (b := a17) (av := []) (q := 172) hF dX10_init_169 ml_X10_42 ok_X8_init rfl in_X8_init rfl rfl (Nat.le_of_ble_eq_true rfl) (by decide) (Nat.le_of_ble_eq_true rfl) rfl rfl rfl rfl (fun h26 hF => ?_)
    obtain ⟨g27, hF⟩ := hF
    obtain ⟨g28, hF⟩ := hF
    obtain ⟨g29, hF⟩ := hF
    refine y_aast (kd := 27) (c := 8) (r := (RX8, TX8, 2)) (j := (Int32.toNatClampNeg l1)) (q := 173) dX10_init_172 g27 (by decide) (by decide) rfl rfl g29 g28 rfl rfl ?_
    refine z_iinc (q := 176) (v := (l1 + 1)) (L' := [some (.ref l0), some (.int (l1 + 1))]) dX10_init_173 rfl rfl (Nat.le_of_ble_eq_true rfl) rfl rfl rfl ?_
    refine z_goto (q := 155) dX10_init_176 (by decide) ?_
    exact hF
set_option maxRecDepth 100000 in
set_option maxHeartbeats 4000000 in
theorem wX10_init_126 {ψ : ZH → Prop} {l0 : Nat} {l1 : Int32} {rc rs : Nat} {h : ZH} (hF : ((6 ≤ l1 → Zt mX10_init (zPV ψ) rc rs 155 [some (.ref l0), some (.int 0)] [] h) ∧ (¬ 6 ≤ l1 → (zK h l0 = 11) ∧ ((zR h l0 0) ≠ 0) ∧ ∃ rc32 rs33 : Nat, rc32 + 1 ≤ rc ∧ rs33 + 2 ≤ rs ∧ ∃ a36 : Nat, a36 ≠ 0 ∧ zK h a36 = 0 ∧ ∀ h39 : ZH, h39 = (zmk h a36 6 0) → ZcV mX5_init [.ref a36, .int 0, .int 0] h39 (fun h41 => (zK h41 (zR h l0 0) = 26) ∧ (vp_in l1 (zN h41 (zR h l0 0))) ∧ (zK h41 a36 = 6) ∧ Zt mX10_init (zPV ψ) rc32 rs33 126 [some (.ref l0), some (.int (l1 + 1))] [] (zsR h41 (zR h l0 0) (Int32.toNatClampNeg l1) a36))))) : Zt mX10_init (zPV ψ) rc rs 126 [some (.ref l0), some (.int l1)] [] h := by
  refine z_iload_n (q := 127) dX10_init_126 rfl rfl rfl ?_
  refine z_bipush (q := 129) (v := 6) dX10_init_127 (by decide) rfl ?_
  refine z_icmp_ge (t := 153) (q := 132) dX10_init_129 (by decide) rfl (fun hc => ?_) (fun hc => ?_)
  · have hF := hF.1 hc
    refine z_iconst (q := 154) (v := 0) dX10_init_153 (by decide) rfl ?_
    refine z_istore_n (q := 155) (L' := [some (.ref l0), some (.int 0)]) dX10_init_154 rfl (Nat.le_of_ble_eq_true rfl) rfl rfl rfl ?_
    exact hF
  · have hF := hF.2 hc
    refine z_aload_n (q := 133) dX10_init_132 rfl rfl rfl ?_
    obtain ⟨g30, hF⟩ := hF
    obtain ⟨g31, hF⟩ := hF
    refine z_getR (c := 10) (k := 0) (r := (RX10, TX10, 15)) (q := 136) dX10_init_133 rfl (by decide) fl_X10_11 rfl g30 g31 rfl ?_
    refine z_iload_n (q := 137) dX10_init_136 rfl rfl rfl ?_
    obtain ⟨rc32, rs33, e34, e35, hF⟩ := hF
    refine Zt.room (rc' := rc32 + 1) (rs' := rs33 + 2) e34 e35 ?_
    obtain ⟨a36, g37, g38, hF⟩ := hF
    refine z_new (rc := rc32) (rs := rs33) (a := a36) (c := 5) (r := (RX5, TX5, 2)) (q := 140) dX10_init_137 rfl cl_X10_9 ni_X5 ii_X5 g37 g38 rfl ?_
    refine z_nameH (fun h39 eh40 => ?_)
    have hF := hF h39 eh40
    refine z_dup (q := 141) dX10_init_140 rfl rfl ?_
    refine z_iconst (q := 142) (v := 0) dX10_init_141 (by decide) rfl ?_
    refine z_iconst (q := 143) (v := 0) dX10_init_142 (by decide) rfl ?_
    refine z_callCV (rc := rc32) (rs := rs33) (b := a36) (av := [.int 0, .int 0]) (q := 146) hF dX10_init_143 ml_X10_82 ok_X5_init rfl in_X5_init rfl rfl (Nat.le_of_ble_eq_true rfl) (by decide) (Nat.le_of_ble_eq_true rfl) rfl rfl rfl rfl (fun h41 hF => ?_)
    obtain ⟨g42, hF⟩ := hF
    obtain ⟨g43, hF⟩ := hF
    obtain ⟨g44, hF⟩ := hF
    refine y_aast (kd := 26) (c := 5) (r := (RX5, TX5, 2)) (j := (Int32.toNatClampNeg l1)) (q := 147) dX10_init_146 g42 (by decide) (by decide) rfl rfl g44 g43 rfl rfl ?_
    refine z_iinc (q := 150) (v := (l1 + 1)) (L' := [some (.ref l0), some (.int (l1 + 1))]) dX10_init_147 rfl rfl (Nat.le_of_ble_eq_true rfl) rfl rfl rfl ?_
    refine z_goto (q := 126) dX10_init_150 (by decide) ?_
    exact hF
set_option maxRecDepth 100000 in
set_option maxHeartbeats 4000000 in
theorem wX10_init {ψ : ZH → Prop} {l0 : Nat} {h : ZH} (hF : ∃ a45 : Nat, a45 ≠ 0 ∧ zK h a45 = 0 ∧ ∀ h48 : ZH, h48 = (zmk h a45 26 6) → (zK h48 l0 = 11) ∧ ∃ a51 : Nat, a51 ≠ 0 ∧ zK h48 a51 = 0 ∧ ∀ h54 : ZH, h54 = (zmk (zsR h48 l0 0 a45) a51 25 8) → (zK h54 l0 = 11) ∧ ∃ a57 : Nat, a57 ≠ 0 ∧ zK h54 a57 = 0 ∧ ∀ h60 : ZH, h60 = (zmk (zsR h54 l0 1 a51) a57 24 24) → (zK h60 l0 = 11) ∧ ∃ a63 : Nat, a63 ≠ 0 ∧ zK h60 a63 = 0 ∧ ∀ h66 : ZH, h66 = (zmk (zsR h60 l0 2 a57) a63 23 10) → (zK h66 l0 = 11) ∧ (zK h66 1 = 30) ∧ ((Int32.ofNat (zN h66 1)) = 7) ∧ ∃ a71 : Nat, a71 ≠ 0 ∧ zK h66 a71 = 0 ∧ ∀ h74 : ZH, h74 = (zmk (zsR h66 l0 3 a63) a71 20 7) → (zK h74 l0 = 11) ∧ ∃ a77 : Nat, a77 ≠ 0 ∧ zK h74 a77 = 0 ∧ ∀ h80 : ZH, h80 = (zmk (zsR h74 l0 4 a71) a77 9 0) → ZcV mX8_init [.ref a77] h80 (fun h82 => (zK h82 l0 = 11) ∧ ∃ a84 : Nat, a84 ≠ 0 ∧ zK h82 a84 = 0 ∧ ∀ h87 : ZH, h87 = (zmk (zsR h82 l0 5 a77) a84 27 3) → (zK h87 l0 = 11) ∧ ∃ a90 : Nat, a90 ≠ 0 ∧ zK h87 a90 = 0 ∧ ∀ h93 : ZH, h93 = (zmk (zsR h87 l0 6 a84) a90 4 0) → ZcV mX3_init [.ref a90] h93 (fun h95 => (zK h95 l0 = 11) ∧ ∃ a97 : Nat, a97 ≠ 0 ∧ zK h95 a97 = 0 ∧ ∀ h100 : ZH, h100 = (zmk (zsR h95 l0 7 a90) a97 8 0) → ZcV mX7_init [.ref a97] h100 (fun h102 => (zK h102 l0 = 11) ∧ ∃ a104 : Nat, a104 ≠ 0 ∧ zK h102 a104 = 0 ∧ ∀ h107 : ZH, h107 = (zmk (zsR h102 l0 8 a97) a104 10 0) → ZcV mX9_init [.ref a104] h107 (fun h109 => (zK h109 l0 = 11) ∧ ∃ a111 : Nat, a111 ≠ 0 ∧ zK h109 a111 = 0 ∧ ∀ h114 : ZH, h114 = (zmk (zsR h109 l0 9 a104) a111 10 0) → ZcV mX9_init [.ref a111] h114 (fun h116 => (zK h116 l0 = 11) ∧ ∃ a118 : Nat, a118 ≠ 0 ∧ zK h116 a118 = 0 ∧ ∀ h121 : ZH, h121 = (zmk (zsR h116 l0 10 a111) a118 7 0) → ZcV mX6_init [.ref a118] h121 (fun h123 => (zK h123 l0 = 11) ∧ Zt mX10_init (zPV ψ) 12 138 126 [some (.ref l0), some (.int 0)] [] (zsR h123 l0 11 a118)))))))) : ZcV mX10_init [.ref l0] h ψ := by
  refine Zc.intro (L := [some (.ref l0), none]) (show plainName RX10 = true by decide) rfl (Nat.le_of_ble_eq_true rfl) ?_
  show Zt _ _ 140 1129 _ _ _ _
  refine z_aload_n (q := 1) dX10_init_0 rfl rfl rfl ?_
  refine z_objInit (q := 4) dX10_init_1 ow_X10_1 (Nat.le_of_ble_eq_true rfl) (by decide) rfl ?_
  refine z_aload_n (q := 5) dX10_init_4 rfl rfl rfl ?_
  refine z_bipush (q := 7) (v := 6) dX10_init_5 (by decide) rfl ?_
  obtain ⟨a45, g46, g47, hF⟩ := hF
  refine z_anew (rc := 139) (rs := 1123) (a := a45) (kd := 26) (N := 6) (C := RX5) (q := 10) dX10_init_7 rfl (by decide) (by decide) (by simp) cl_X10_9 (by decide) (by decide) (by decide) g46 g47 rfl ?_
  refine z_nameH (fun h48 eh49 => ?_)
  have hF := hF h48 eh49
  obtain ⟨g50, hF⟩ := hF
  refine z_putRF (c := 10) (k := 0) (r := (RX10, TX10, 15)) (q := 13) dX10_init_10 rfl (by decide) fw_X10_11 rfl rfl rfl rfl g50 rfl ?_
  refine z_aload_n (q := 14) dX10_init_13 rfl rfl rfl ?_
  refine z_bipush (q := 16) (v := 8) dX10_init_14 (by decide) rfl ?_
  obtain ⟨a51, g52, g53, hF⟩ := hF
  refine z_anew (rc := 138) (rs := 1115) (a := a51) (kd := 25) (N := 8) (C := RX4) (q := 19) dX10_init_16 rfl (by decide) (by decide) (by simp) cl_X10_15 (by decide) (by decide) (by decide) g52 g53 rfl ?_
  refine z_nameH (fun h54 eh55 => ?_)
  have hF := hF h54 eh55
  obtain ⟨g56, hF⟩ := hF
  refine z_putRF (c := 10) (k := 1) (r := (RX10, TX10, 15)) (q := 22) dX10_init_19 rfl (by decide) fw_X10_17 rfl rfl rfl rfl g56 rfl ?_
  refine z_aload_n (q := 23) dX10_init_22 rfl rfl rfl ?_
  refine z_bipush (q := 25) (v := 24) dX10_init_23 (by decide) rfl ?_
  obtain ⟨a57, g58, g59, hF⟩ := hF
  refine z_anew (rc := 137) (rs := 1091) (a := a57) (kd := 24) (N := 24) (C := RX1) (q := 28) dX10_init_25 rfl (by decide) (by decide) (by simp) cl_X10_21 (by decide) (by decide) (by decide) g58 g59 rfl ?_
  refine z_nameH (fun h60 eh61 => ?_)
  have hF := hF h60 eh61
  obtain ⟨g62, hF⟩ := hF
  refine z_putRF (c := 10) (k := 2) (r := (RX10, TX10, 15)) (q := 31) dX10_init_28 rfl (by decide) fw_X10_23 rfl rfl rfl rfl g62 rfl ?_
  refine z_aload_n (q := 32) dX10_init_31 rfl rfl rfl ?_
  refine z_bipush (q := 34) (v := 10) dX10_init_32 (by decide) rfl ?_
  obtain ⟨a63, g64, g65, hF⟩ := hF
  refine z_anew (rc := 136) (rs := 1081) (a := a63) (kd := 23) (N := 10) (C := RX0) (q := 37) dX10_init_34 rfl (by decide) (by decide) (by simp) cl_X10_27 (by decide) (by decide) (by decide) g64 g65 rfl ?_
  refine z_nameH (fun h66 eh67 => ?_)
  have hF := hF h66 eh67
  obtain ⟨g68, hF⟩ := hF
  refine z_putRF (c := 10) (k := 3) (r := (RX10, TX10, 15)) (q := 40) dX10_init_37 rfl (by decide) fw_X10_29 rfl rfl rfl rfl g68 rfl ?_
  refine z_aload_n (q := 41) dX10_init_40 rfl rfl rfl ?_
  refine z_getst (q := 44) (a := 1) (f := "AT_FIRST") dX10_init_41 (by simp [zst]) sw_X10_33 rfl ?_
  obtain ⟨g69, hF⟩ := hF
  refine y_alen (kd := 30) (q := 45) dX10_init_44 g69 (by decide) (by decide) rfl ?_
  obtain ⟨g70, hF⟩ := hF
  refine z_acp7 g70 ?_
  obtain ⟨a71, g72, g73, hF⟩ := hF
  refine z_newa (rc := 135) (rs := 1074) (a := a71) (kd := 20) (N := 7) (q := 47) dX10_init_45 rfl (by decide) ac_20 (by decide) (by decide) (by decide) g72 g73 rfl ?_
  refine z_nameH (fun h74 eh75 => ?_)
  have hF := hF h74 eh75
  obtain ⟨g76, hF⟩ := hF
  refine z_putRF (c := 10) (k := 4) (r := (RX10, TX10, 15)) (q := 50) dX10_init_47 rfl (by decide) fw_X10_37 rfl rfl rfl rfl g76 rfl ?_
  refine z_aload_n (q := 51) dX10_init_50 rfl rfl rfl ?_
  obtain ⟨a77, g78, g79, hF⟩ := hF
  refine z_new (rc := 134) (rs := 1072) (a := a77) (c := 8) (r := (RX8, TX8, 2)) (q := 54) dX10_init_51 rfl cl_X10_40 ni_X8 ii_X8 g78 g79 rfl ?_
  refine z_nameH (fun h80 eh81 => ?_)
  have hF := hF h80 eh81
  refine z_dup (q := 55) dX10_init_54 rfl rfl ?_
  refine z_callCV (rc := 133) (rs := 1032) (b := a77) (av := []) (q := 58) hF dX10_init_55 ml_X10_42 ok_X8_init rfl in_X8_init rfl rfl (Nat.le_of_ble_eq_true rfl) (by decide) (Nat.le_of_ble_eq_true rfl) rfl rfl rfl rfl (fun h82 hF => ?_)
  obtain ⟨g83, hF⟩ := hF
  refine z_putRF (c := 10) (k := 5) (r := (RX10, TX10, 15)) (q := 61) dX10_init_58 rfl (by decide) fw_X10_43 rfl rfl rfl rfl g83 rfl ?_
  refine z_aload_n (q := 62) dX10_init_61 rfl rfl rfl ?_
  refine z_iconst (q := 63) (v := 3) dX10_init_62 (by decide) rfl ?_
  obtain ⟨a84, g85, g86, hF⟩ := hF
  refine z_anew (rc := 132) (rs := 1029) (a := a84) (kd := 27) (N := 3) (C := RX8) (q := 66) dX10_init_63 rfl (by decide) (by decide) (by simp) cl_X10_40 (by decide) (by decide) (by decide) g85 g86 rfl ?_
  refine z_nameH (fun h87 eh88 => ?_)
  have hF := hF h87 eh88
  obtain ⟨g89, hF⟩ := hF
  refine z_putRF (c := 10) (k := 6) (r := (RX10, TX10, 15)) (q := 69) dX10_init_66 rfl (by decide) fw_X10_47 rfl rfl rfl rfl g89 rfl ?_
  refine z_aload_n (q := 70) dX10_init_69 rfl rfl rfl ?_
  obtain ⟨a90, g91, g92, hF⟩ := hF
  refine z_new (rc := 131) (rs := 1027) (a := a90) (c := 3) (r := (RX3, TX3, 2)) (q := 73) dX10_init_70 rfl cl_X10_51 ni_X3 ii_X3 g91 g92 rfl ?_
  refine z_nameH (fun h93 eh94 => ?_)
  have hF := hF h93 eh94
  refine z_dup (q := 74) dX10_init_73 rfl rfl ?_
  refine z_callCV (rc := 130) (rs := 1022) (b := a90) (av := []) (q := 77) hF dX10_init_74 ml_X10_53 ok_X3_init rfl in_X3_init rfl rfl (Nat.le_of_ble_eq_true rfl) (by decide) (Nat.le_of_ble_eq_true rfl) rfl rfl rfl rfl (fun h95 hF => ?_)
  obtain ⟨g96, hF⟩ := hF
  refine z_putRF (c := 10) (k := 7) (r := (RX10, TX10, 15)) (q := 80) dX10_init_77 rfl (by decide) fw_X10_54 rfl rfl rfl rfl g96 rfl ?_
  refine z_aload_n (q := 81) dX10_init_80 rfl rfl rfl ?_
  obtain ⟨a97, g98, g99, hF⟩ := hF
  refine z_new (rc := 129) (rs := 1011) (a := a97) (c := 7) (r := (RX7, TX7, 11)) (q := 84) dX10_init_81 rfl cl_X10_58 ni_X7 ii_X7 g98 g99 rfl ?_
  refine z_nameH (fun h100 eh101 => ?_)
  have hF := hF h100 eh101
  refine z_dup (q := 85) dX10_init_84 rfl rfl ?_
  refine z_callCV (rc := 108) (rs := 643) (b := a97) (av := []) (q := 88) hF dX10_init_85 ml_X10_60 ok_X7_init rfl in_X7_init rfl rfl (Nat.le_of_ble_eq_true rfl) (by decide) (Nat.le_of_ble_eq_true rfl) rfl rfl rfl rfl (fun h102 hF => ?_)
  obtain ⟨g103, hF⟩ := hF
  refine z_putRF (c := 10) (k := 8) (r := (RX10, TX10, 15)) (q := 91) dX10_init_88 rfl (by decide) fw_X10_61 rfl rfl rfl rfl g103 rfl ?_
  refine z_aload_n (q := 92) dX10_init_91 rfl rfl rfl ?_
  obtain ⟨a104, g105, g106, hF⟩ := hF
  refine z_new (rc := 107) (rs := 630) (a := a104) (c := 9) (r := (RX9, TX9, 13)) (q := 95) dX10_init_92 rfl cl_X10_65 ni_X9 ii_X9 g105 g106 rfl ?_
  refine z_nameH (fun h107 eh108 => ?_)
  have hF := hF h107 eh108
  refine z_dup (q := 96) dX10_init_95 rfl rfl ?_
  refine z_callCV (rc := 99) (rs := 554) (b := a104) (av := []) (q := 99) hF dX10_init_96 ml_X10_67 ok_X9_init rfl in_X9_init rfl rfl (Nat.le_of_ble_eq_true rfl) (by decide) (Nat.le_of_ble_eq_true rfl) rfl rfl rfl rfl (fun h109 hF => ?_)
  obtain ⟨g110, hF⟩ := hF
  refine z_putRF (c := 10) (k := 9) (r := (RX10, TX10, 15)) (q := 102) dX10_init_99 rfl (by decide) fw_X10_68 rfl rfl rfl rfl g110 rfl ?_
  refine z_aload_n (q := 103) dX10_init_102 rfl rfl rfl ?_
  obtain ⟨a111, g112, g113, hF⟩ := hF
  refine z_new (rc := 98) (rs := 541) (a := a111) (c := 9) (r := (RX9, TX9, 13)) (q := 106) dX10_init_103 rfl cl_X10_65 ni_X9 ii_X9 g112 g113 rfl ?_
  refine z_nameH (fun h114 eh115 => ?_)
  have hF := hF h114 eh115
  refine z_dup (q := 107) dX10_init_106 rfl rfl ?_
  refine z_callCV (rc := 90) (rs := 465) (b := a111) (av := []) (q := 110) hF dX10_init_107 ml_X10_67 ok_X9_init rfl in_X9_init rfl rfl (Nat.le_of_ble_eq_true rfl) (by decide) (Nat.le_of_ble_eq_true rfl) rfl rfl rfl rfl (fun h116 hF => ?_)
  obtain ⟨g117, hF⟩ := hF
  refine z_putRF (c := 10) (k := 10) (r := (RX10, TX10, 15)) (q := 113) dX10_init_110 rfl (by decide) fw_X10_72 rfl rfl rfl rfl g117 rfl ?_
  refine z_aload_n (q := 114) dX10_init_113 rfl rfl rfl ?_
  obtain ⟨a118, g119, g120, hF⟩ := hF
  refine z_new (rc := 89) (rs := 450) (a := a118) (c := 6) (r := (RX6, TX6, 15)) (q := 117) dX10_init_114 rfl cl_X10_75 ni_X6 ii_X6 g119 g120 rfl ?_
  refine z_nameH (fun h121 eh122 => ?_)
  have hF := hF h121 eh122
  refine z_dup (q := 118) dX10_init_117 rfl rfl ?_
  refine z_callCV (rc := 12) (rs := 138) (b := a118) (av := []) (q := 121) hF dX10_init_118 ml_X10_77 ok_X6_init rfl in_X6_init rfl rfl (Nat.le_of_ble_eq_true rfl) (by decide) (Nat.le_of_ble_eq_true rfl) rfl rfl rfl rfl (fun h123 hF => ?_)
  obtain ⟨g124, hF⟩ := hF
  refine z_putRF (c := 10) (k := 11) (r := (RX10, TX10, 15)) (q := 124) dX10_init_121 rfl (by decide) fw_X10_78 rfl rfl rfl rfl g124 rfl ?_
  refine z_iconst (q := 125) (v := 0) dX10_init_124 (by decide) rfl ?_
  refine z_istore_n (q := 126) (L' := [some (.ref l0), some (.int 0)]) dX10_init_125 rfl (Nat.le_of_ble_eq_true rfl) rfl rfl rfl ?_
  exact hF
set_option maxRecDepth 100000 in
set_option maxHeartbeats 4000000 in
theorem wX10_town {ψ : Int32 → ZH → Prop} {l0 : Nat} {l1 : Int32} {l2 : Int32} {l3 : Int32} {h : ZH} (hF : ZcI mX10_isTown [.int l1] h (fun x2 h1 => ((¬ x2 = 0 → ZcI mX10_isPlace [.int l2, .int l3] h1 (fun x4 h3 => ((¬ x4 = 0 → (zK h3 l0 = 11) ∧ ((zR h3 l0 0) ≠ 0) ∧ (zK h3 (zR h3 l0 0) = 26) ∧ (vp_in l1 (zN h3 (zR h3 l0 0))) ∧ ((zR h3 (zR h3 l0 0) (Int32.toNatClampNeg l1)) ≠ 0) ∧ (zK h3 (zR h3 (zR h3 l0 0) (Int32.toNatClampNeg l1)) = 6) ∧ ψ 1 (zsI (zsI h3 (zR h3 (zR h3 l0 0) (Int32.toNatClampNeg l1)) 0 l2) (zR h3 (zR h3 l0 0) (Int32.toNatClampNeg l1)) 1 l3)) ∧ (x4 = 0 → ψ (-2) h3)))) ∧ (x2 = 0 → ψ (-1) h1)))) : ZcI mX10_town [.ref l0, .int l1, .int l2, .int l3] h ψ := by
  refine Zc.intro (L := [some (.ref l0), some (.int l1), some (.int l2), some (.int l3)]) (show plainName RX10 = true by decide) rfl (Nat.le_of_ble_eq_true rfl) ?_
  show Zt _ _ 0 0 _ _ _ _
  refine z_iload_n (q := 1) dX10_town_0 rfl rfl rfl ?_
  refine z_callSI (rc := 0) (rs := 0) (av := [.int l1]) (q := 4) hF dX10_town_1 ml_X10_91 ok_X10_isTown st_X10_isTown rfl (Nat.le_of_ble_eq_true rfl) (by decide) (Nat.le_of_ble_eq_true rfl) rfl rfl rfl rfl (fun x2 h1 hF => ?_)
  refine z_if_ne (t := 9) (q := 7) dX10_town_4 (by decide) rfl (fun hc => ?_) (fun hc => ?_)
  · have hF := hF.1 hc
    refine z_iload_n (q := 10) dX10_town_9 rfl rfl rfl ?_
    refine z_iload_n (q := 11) dX10_town_10 rfl rfl rfl ?_
    refine z_callSI (rc := 0) (rs := 0) (av := [.int l2, .int l3]) (q := 14) hF dX10_town_11 ml_X10_95 ok_X10_isPlace st_X10_isPlace rfl (Nat.le_of_ble_eq_true rfl) (by decide) (Nat.le_of_ble_eq_true rfl) rfl rfl rfl rfl (fun x4 h3 hF => ?_)
    refine z_if_ne (t := 20) (q := 17) dX10_town_14 (by decide) rfl (fun hc => ?_) (fun hc => ?_)
    · have hF := hF.1 hc
      refine z_aload_n (q := 21) dX10_town_20 rfl rfl rfl ?_
      obtain ⟨g5, hF⟩ := hF
      obtain ⟨g6, hF⟩ := hF
      refine z_getR (c := 10) (k := 0) (r := (RX10, TX10, 15)) (q := 24) dX10_town_21 rfl (by decide) fl_X10_11 rfl g5 g6 rfl ?_
      refine z_iload_n (q := 25) dX10_town_24 rfl rfl rfl ?_
      obtain ⟨g7, hF⟩ := hF
      obtain ⟨g8, hF⟩ := hF
      obtain ⟨g9, hF⟩ := hF
      refine y_aald (kd := 26) (j := (Int32.toNatClampNeg l1)) (q := 26) dX10_town_25 g7 (by decide) (by decide) rfl g8 rfl g9 rfl ?_
      refine z_iload_n (q := 27) dX10_town_26 rfl rfl rfl ?_
      obtain ⟨g10, hF⟩ := hF
      refine z_putI (c := 5) (k := 0) (r := (RX5, TX5, 2)) (q := 30) dX10_town_27 rfl (by decide) fl_X10_99 rfl rfl g10 rfl ?_
      refine z_aload_n (q := 31) dX10_town_30 rfl rfl rfl ?_
      refine z_getR (c := 10) (k := 0) (r := (RX10, TX10, 15)) (q := 34) dX10_town_31 rfl (by decide) fl_X10_11 rfl g5 g6 rfl ?_
      refine z_iload_n (q := 35) dX10_town_34 rfl rfl rfl ?_
      refine y_aald (kd := 26) (j := (Int32.toNatClampNeg l1)) (q := 36) dX10_town_35 g7 (by decide) (by decide) rfl g8 rfl g9 rfl ?_
      refine z_iload_n (q := 37) dX10_town_36 rfl rfl rfl ?_
      refine z_putI (c := 5) (k := 1) (r := (RX5, TX5, 2)) (q := 40) dX10_town_37 rfl (by decide) fl_X10_103 rfl rfl g10 rfl ?_
      refine z_iconst (q := 41) (v := 1) dX10_town_40 (by decide) rfl ?_
      exact z_ireturn dX10_town_41 rfl ⟨_, rfl, hF⟩
    · have hF := hF.2 hc
      refine z_bipush (q := 19) (v := (-2)) dX10_town_17 (by decide) rfl ?_
      exact z_ireturn dX10_town_19 rfl ⟨_, rfl, hF⟩
  · have hF := hF.2 hc
    refine z_iconst (q := 8) (v := (-1)) dX10_town_7 (by decide) rfl ?_
    exact z_ireturn dX10_town_8 rfl ⟨_, rfl, hF⟩
set_option maxRecDepth 100000 in
set_option maxHeartbeats 4000000 in
theorem wX10_pit {ψ : Int32 → ZH → Prop} {l0 : Nat} {l1 : Int32} {l2 : Int32} {l3 : Int32} {l4 : Int32} {l5 : Int32} {h : ZH} (hF : ZcI mX10_isPlace [.int l1, .int l2] h (fun x2 h1 => ((x2 = 0 → ψ (-2) h1) ∧ (¬ x2 = 0 → ZcI mX10_isWithin [.int l3, .int 0, .int 1000] h1 (fun x4 h3 => ((x4 = 0 → ψ (-2) h3) ∧ (¬ x4 = 0 → ZcI mX10_isWithin [.int l4, .int 0, .int 200] h3 (fun x6 h5 => ((x6 = 0 → ψ (-2) h5) ∧ (¬ x6 = 0 → ZcI mX10_isWithin [.int l5, .int 1, .int 1000] h5 (fun x8 h7 => ((¬ x8 = 0 → (zK h7 l0 = 11) ∧ (((zI h7 l0 12) < 8 → ((zR h7 l0 1) ≠ 0) ∧ ∃ a11 : Nat, a11 ≠ 0 ∧ zK h7 a11 = 0 ∧ ∀ h14 : ZH, h14 = (zmk h7 a11 5 0) → ∃ a16 : Nat, a16 ≠ 0 ∧ zK h14 a16 = 0 ∧ ∀ h19 : ZH, h19 = (zmk h14 a16 6 0) → ZcV mX5_init [.ref a16, .int l1, .int l2] h19 (fun h21 => ZcV mX4_init [.ref a11, .ref a16, .int l3, .int l4, .int l5] h21 (fun h22 => (zK h22 (zR h7 l0 1) = 25) ∧ (vp_in (zI h7 l0 12) (zN h22 (zR h7 l0 1))) ∧ (zK h22 a11 = 5) ∧ ∀ h26 : ZH, h26 = (zsR h22 (zR h7 l0 1) (Int32.toNatClampNeg (zI h7 l0 12)) a11) → (zK h26 l0 = 11) ∧ ((zR h26 l0 9) ≠ 0) ∧ (zK h26 (zR h26 l0 9) = 10) ∧ ZcV mX9_addBasin [.ref (zR h26 l0 9), .int l5] h26 (fun h30 => (zK h30 l0 = 11) ∧ ψ (zI h30 l0 12) (zsI h30 l0 12 ((zI h30 l0 12) + 1)))))) ∧ (¬ (zI h7 l0 12) < 8 → ψ (-4) h7))) ∧ (x8 = 0 → ψ (-2) h7))))))))))))) : ZcI mX10_pit [.ref l0, .int l1, .int l2, .int l3, .int l4, .int l5] h ψ := by
  refine Zc.intro (L := [some (.ref l0), some (.int l1), some (.int l2), some (.int l3), some (.int l4), some (.int l5)]) (show plainName RX10 = true by decide) rfl (Nat.le_of_ble_eq_true rfl) ?_
  show Zt _ _ 3 13 _ _ _ _
  refine z_iload_n (q := 1) dX10_pit_0 rfl rfl rfl ?_
  refine z_iload_n (q := 2) dX10_pit_1 rfl rfl rfl ?_
  refine z_callSI (rc := 3) (rs := 13) (av := [.int l1, .int l2]) (q := 5) hF dX10_pit_2 ml_X10_95 ok_X10_isPlace st_X10_isPlace rfl (Nat.le_of_ble_eq_true rfl) (by decide) (Nat.le_of_ble_eq_true rfl) rfl rfl rfl rfl (fun x2 h1 hF => ?_)
  refine z_if_eq (t := 43) (q := 8) dX10_pit_5 (by decide) rfl (fun hc => ?_) (fun hc => ?_)
  · have hF := hF.1 hc
    refine z_bipush (q := 45) (v := (-2)) dX10_pit_43 (by decide) rfl ?_
    exact z_ireturn dX10_pit_45 rfl ⟨_, rfl, hF⟩
  · have hF := hF.2 hc
    refine z_iload_n (q := 9) dX10_pit_8 rfl rfl rfl ?_
    refine z_iconst (q := 10) (v := 0) dX10_pit_9 (by decide) rfl ?_
    refine z_sipush (q := 13) (v := 1000) dX10_pit_10 (by decide) rfl ?_
    refine z_callSI (rc := 3) (rs := 13) (av := [.int l3, .int 0, .int 1000]) (q := 16) hF dX10_pit_13 ml_X10_106 ok_X10_isWithin st_X10_isWithin rfl (Nat.le_of_ble_eq_true rfl) (by decide) (Nat.le_of_ble_eq_true rfl) rfl rfl rfl rfl (fun x4 h3 hF => ?_)
    refine z_if_eq (t := 43) (q := 19) dX10_pit_16 (by decide) rfl (fun hc => ?_) (fun hc => ?_)
    · have hF := hF.1 hc
      refine z_bipush (q := 45) (v := (-2)) dX10_pit_43 (by decide) rfl ?_
      exact z_ireturn dX10_pit_45 rfl ⟨_, rfl, hF⟩
    · have hF := hF.2 hc
      refine z_iload (q := 21) dX10_pit_19 rfl rfl ?_
      refine z_iconst (q := 22) (v := 0) dX10_pit_21 (by decide) rfl ?_
      refine z_sipush (q := 25) (v := 200) dX10_pit_22 (by decide) rfl ?_
      refine z_callSI (rc := 3) (rs := 13) (av := [.int l4, .int 0, .int 200]) (q := 28) hF dX10_pit_25 ml_X10_106 ok_X10_isWithin st_X10_isWithin rfl (Nat.le_of_ble_eq_true rfl) (by decide) (Nat.le_of_ble_eq_true rfl) rfl rfl rfl rfl (fun x6 h5 hF => ?_)
      refine z_if_eq (t := 43) (q := 31) dX10_pit_28 (by decide) rfl (fun hc => ?_) (fun hc => ?_)
      · have hF := hF.1 hc
        refine z_bipush (q := 45) (v := (-2)) dX10_pit_43 (by decide) rfl ?_
        exact z_ireturn dX10_pit_45 rfl ⟨_, rfl, hF⟩
      · have hF := hF.2 hc
        refine z_iload (q := 33) dX10_pit_31 rfl rfl ?_
        refine z_iconst (q := 34) (v := 1) dX10_pit_33 (by decide) rfl ?_
        refine z_sipush (q := 37) (v := 1000) dX10_pit_34 (by decide) rfl ?_
        refine z_callSI (rc := 3) (rs := 13) (av := [.int l5, .int 1, .int 1000]) (q := 40) hF dX10_pit_37 ml_X10_106 ok_X10_isWithin st_X10_isWithin rfl (Nat.le_of_ble_eq_true rfl) (by decide) (Nat.le_of_ble_eq_true rfl) rfl rfl rfl rfl (fun x8 h7 hF => ?_)
        refine z_if_ne (t := 46) (q := 43) dX10_pit_40 (by decide) rfl (fun hc => ?_) (fun hc => ?_)
        · have hF := hF.1 hc
          refine z_aload_n (q := 47) dX10_pit_46 rfl rfl rfl ?_
          obtain ⟨g9, hF⟩ := hF
          refine z_getI (c := 10) (k := 12) (r := (RX10, TX10, 15)) (q := 50) dX10_pit_47 rfl (by decide) fl_X10_110 rfl g9 rfl ?_
          refine z_bipush (q := 52) (v := 8) dX10_pit_50 (by decide) rfl ?_
          refine z_icmp_lt (t := 58) (q := 55) dX10_pit_52 (by decide) rfl (fun hc => ?_) (fun hc => ?_)
          · have hF := hF.1 hc
            refine z_aload_n (q := 59) dX10_pit_58 rfl rfl rfl ?_
            obtain ⟨g10, hF⟩ := hF
            refine z_getR (c := 10) (k := 1) (r := (RX10, TX10, 15)) (q := 62) dX10_pit_59 rfl (by decide) fl_X10_17 rfl g9 g10 rfl ?_
            refine z_aload_n (q := 63) dX10_pit_62 rfl rfl rfl ?_
            refine z_getI (c := 10) (k := 12) (r := (RX10, TX10, 15)) (q := 66) dX10_pit_63 rfl (by decide) fl_X10_110 rfl g9 rfl ?_
            obtain ⟨a11, g12, g13, hF⟩ := hF
            refine z_new (rc := 2) (rs := 5) (a := a11) (c := 4) (r := (RX4, TX4, 8)) (q := 69) dX10_pit_66 rfl cl_X10_15 ni_X4 ii_X4 g12 g13 rfl ?_
            refine z_nameH (fun h14 eh15 => ?_)
            have hF := hF h14 eh15
            refine z_dup (q := 70) dX10_pit_69 rfl rfl ?_
            obtain ⟨a16, g17, g18, hF⟩ := hF
            refine z_new (rc := 1) (rs := 3) (a := a16) (c := 5) (r := (RX5, TX5, 2)) (q := 73) dX10_pit_70 rfl cl_X10_9 ni_X5 ii_X5 g17 g18 rfl ?_
            refine z_nameH (fun h19 eh20 => ?_)
            have hF := hF h19 eh20
            refine z_dup (q := 74) dX10_pit_73 rfl rfl ?_
            refine z_iload_n (q := 75) dX10_pit_74 rfl rfl rfl ?_
            refine z_iload_n (q := 76) dX10_pit_75 rfl rfl rfl ?_
            refine z_callCV (rc := 1) (rs := 3) (b := a16) (av := [.int l1, .int l2]) (q := 79) hF dX10_pit_76 ml_X10_82 ok_X5_init rfl in_X5_init rfl rfl (Nat.le_of_ble_eq_true rfl) (by decide) (Nat.le_of_ble_eq_true rfl) rfl rfl rfl rfl (fun h21 hF => ?_)
            refine z_iload_n (q := 80) dX10_pit_79 rfl rfl rfl ?_
            refine z_iload (q := 82) dX10_pit_80 rfl rfl ?_
            refine z_iload (q := 84) dX10_pit_82 rfl rfl ?_
            refine z_callCV (rc := 0) (rs := 0) (b := a11) (av := [.ref a16, .int l3, .int l4, .int l5]) (q := 87) hF dX10_pit_84 ml_X10_113 ok_X4_init rfl in_X4_init rfl rfl (Nat.le_of_ble_eq_true rfl) (by decide) (Nat.le_of_ble_eq_true rfl) rfl rfl rfl rfl (fun h22 hF => ?_)
            obtain ⟨g23, hF⟩ := hF
            obtain ⟨g24, hF⟩ := hF
            obtain ⟨g25, hF⟩ := hF
            refine y_aast (kd := 25) (c := 4) (r := (RX4, TX4, 8)) (j := (Int32.toNatClampNeg (zI h7 l0 12))) (q := 88) dX10_pit_87 g23 (by decide) (by decide) rfl rfl g25 g24 rfl rfl ?_
            refine z_aload_n (q := 89) dX10_pit_88 rfl rfl rfl ?_
            refine z_nameH (fun h26 eh27 => ?_)
            have hF := hF h26 eh27
            obtain ⟨g28, hF⟩ := hF
            obtain ⟨g29, hF⟩ := hF
            refine z_getR (c := 10) (k := 9) (r := (RX10, TX10, 15)) (q := 92) dX10_pit_89 rfl (by decide) fl_X10_68 rfl g28 g29 rfl ?_
            refine z_iload (q := 94) dX10_pit_92 rfl rfl ?_
            obtain ⟨g31, hF⟩ := hF
            refine z_callVV (rc := 0) (rs := 0) (b := (zR h26 l0 9)) (av := [.int l5]) (ci := 9) (r := (RX9, TX9, 13)) (q := 97) hF dX10_pit_94 ml_X10_116 ok_X9_addBasin in_X9_addBasin se_X9_addBasin rfl rfl g31 rfl (Nat.le_of_ble_eq_true rfl) (by decide) (Nat.le_of_ble_eq_true rfl) rfl rfl rfl rfl (fun h30 hF => ?_)
            refine z_aload_n (q := 98) dX10_pit_97 rfl rfl rfl ?_
            refine z_dup (q := 99) dX10_pit_98 rfl rfl ?_
            obtain ⟨g32, hF⟩ := hF
            refine z_getI (c := 10) (k := 12) (r := (RX10, TX10, 15)) (q := 102) dX10_pit_99 rfl (by decide) fl_X10_110 rfl g32 rfl ?_
            refine z_dup_x1 (q := 103) dX10_pit_102 rfl rfl rfl ?_
            refine z_iconst (q := 104) (v := 1) dX10_pit_103 (by decide) rfl ?_
            refine z_iadd (q := 105) dX10_pit_104 rfl ?_
            refine z_putI (c := 10) (k := 12) (r := (RX10, TX10, 15)) (q := 108) dX10_pit_105 rfl (by decide) fl_X10_110 rfl rfl g32 rfl ?_
            exact z_ireturn dX10_pit_108 rfl ⟨_, rfl, hF⟩
          · have hF := hF.2 hc
            refine z_bipush (q := 57) (v := (-4)) dX10_pit_55 (by decide) rfl ?_
            exact z_ireturn dX10_pit_57 rfl ⟨_, rfl, hF⟩
        · have hF := hF.2 hc
          refine z_bipush (q := 45) (v := (-2)) dX10_pit_43 (by decide) rfl ?_
          exact z_ireturn dX10_pit_45 rfl ⟨_, rfl, hF⟩
set_option maxRecDepth 100000 in
set_option maxHeartbeats 4000000 in
theorem wX10_about {ψ : Int32 → ZH → Prop} {l0 : Nat} {l1 : Int32} {l2 : Int32} {h : ZH} (hF : (zK h l0 = 11) ∧ ZcI mX10_isPit [.ref l0, .int l1] h (fun x3 h1 => ((¬ x3 = 0 → (zK h1 l0 = 11) ∧ ((zR h1 l0 1) ≠ 0) ∧ (zK h1 (zR h1 l0 1) = 25) ∧ (vp_in l1 (zN h1 (zR h1 l0 1))) ∧ ((zR h1 (zR h1 l0 1) (Int32.toNatClampNeg l1)) ≠ 0) ∧ ((l2 = 0 → (zK h1 (zR h1 (zR h1 l0 1) (Int32.toNatClampNeg l1)) = 5) ∧ ((zR h1 (zR h1 (zR h1 l0 1) (Int32.toNatClampNeg l1)) 0) ≠ 0) ∧ (zK h1 (zR h1 (zR h1 (zR h1 l0 1) (Int32.toNatClampNeg l1)) 0) = 6) ∧ ψ (zI h1 (zR h1 (zR h1 (zR h1 l0 1) (Int32.toNatClampNeg l1)) 0) 0) h1) ∧ (l2 = 1 → (zK h1 (zR h1 (zR h1 l0 1) (Int32.toNatClampNeg l1)) = 5) ∧ ((zR h1 (zR h1 (zR h1 l0 1) (Int32.toNatClampNeg l1)) 0) ≠ 0) ∧ (zK h1 (zR h1 (zR h1 (zR h1 l0 1) (Int32.toNatClampNeg l1)) 0) = 6) ∧ ψ (zI h1 (zR h1 (zR h1 (zR h1 l0 1) (Int32.toNatClampNeg l1)) 0) 1) h1) ∧ (l2 = 2 → (zK h1 (zR h1 (zR h1 l0 1) (Int32.toNatClampNeg l1)) = 5) ∧ ψ (zI h1 (zR h1 (zR h1 l0 1) (Int32.toNatClampNeg l1)) 1) h1) ∧ (l2 = 3 → (zK h1 (zR h1 (zR h1 l0 1) (Int32.toNatClampNeg l1)) = 5) ∧ ψ (zI h1 (zR h1 (zR h1 l0 1) (Int32.toNatClampNeg l1)) 2) h1) ∧ (l2 = 4 → (zK h1 (zR h1 (zR h1 l0 1) (Int32.toNatClampNeg l1)) = 5) ∧ ψ (zI h1 (zR h1 (zR h1 l0 1) (Int32.toNatClampNeg l1)) 3) h1) ∧ (l2 = 5 → (zK h1 (zR h1 (zR h1 l0 1) (Int32.toNatClampNeg l1)) = 5) ∧ ZcI mX10_asOne [.int (zI h1 (zR h1 (zR h1 l0 1) (Int32.toNatClampNeg l1)) 5)] h1 (fun x33 h32 => ψ x33 h32)) ∧ (l2 = 6 → ZcI mX10_menAt [.ref l0, .int l1] h1 (fun x35 h34 => ψ x35 h34)) ∧ (l2 = 7 → ((zR h1 l0 9) ≠ 0) ∧ (zK h1 (zR h1 l0 9) = 10) ∧ ((zR h1 (zR h1 l0 9) 2) ≠ 0) ∧ (zK h1 (zR h1 (zR h1 l0 9) 2) = 20) ∧ (vp_in l1 (zN h1 (zR h1 (zR h1 l0 9) 2))) ∧ ψ (zI h1 (zR h1 (zR h1 l0 9) 2) (Int32.toNatClampNeg l1)) h1) ∧ (l2 = 8 → ((zR h1 l0 9) ≠ 0) ∧ (zK h1 (zR h1 l0 9) = 10) ∧ ((zR h1 (zR h1 l0 9) 4) ≠ 0) ∧ (zK h1 (zR h1 (zR h1 l0 9) 4) = 20) ∧ (vp_in l1 (zN h1 (zR h1 (zR h1 l0 9) 4))) ∧ ψ (zI h1 (zR h1 (zR h1 l0 9) 4) (Int32.toNatClampNeg l1)) h1) ∧ (l2 = 9 → ((zR h1 l0 9) ≠ 0) ∧ (zK h1 (zR h1 l0 9) = 10) ∧ ((zR h1 (zR h1 l0 9) 3) ≠ 0) ∧ (zK h1 (zR h1 (zR h1 l0 9) 3) = 21) ∧ (vp_in l1 (zN h1 (zR h1 (zR h1 l0 9) 3))) ∧ ZcI mX10_asOne [.int (zI h1 (zR h1 (zR h1 l0 9) 3) (Int32.toNatClampNeg l1))] h1 (fun x52 h51 => ψ x52 h51)) ∧ (l2 = 10 → (zK h1 (zR h1 (zR h1 l0 1) (Int32.toNatClampNeg l1)) = 5) ∧ ((zR h1 (zR h1 (zR h1 l0 1) (Int32.toNatClampNeg l1)) 4) ≠ 0) ∧ (zK h1 (zR h1 (zR h1 (zR h1 l0 1) (Int32.toNatClampNeg l1)) 4) = 20) ∧ (vp_in (l2 - 10) (zN h1 (zR h1 (zR h1 (zR h1 l0 1) (Int32.toNatClampNeg l1)) 4))) ∧ ψ (zI h1 (zR h1 (zR h1 (zR h1 l0 1) (Int32.toNatClampNeg l1)) 4) (Int32.toNatClampNeg (l2 - 10))) h1) ∧ (l2 = 11 → (zK h1 (zR h1 (zR h1 l0 1) (Int32.toNatClampNeg l1)) = 5) ∧ ((zR h1 (zR h1 (zR h1 l0 1) (Int32.toNatClampNeg l1)) 4) ≠ 0) ∧ (zK h1 (zR h1 (zR h1 (zR h1 l0 1) (Int32.toNatClampNeg l1)) 4) = 20) ∧ (vp_in (l2 - 10) (zN h1 (zR h1 (zR h1 (zR h1 l0 1) (Int32.toNatClampNeg l1)) 4))) ∧ ψ (zI h1 (zR h1 (zR h1 (zR h1 l0 1) (Int32.toNatClampNeg l1)) 4) (Int32.toNatClampNeg (l2 - 10))) h1) ∧ (l2 = 12 → (zK h1 (zR h1 (zR h1 l0 1) (Int32.toNatClampNeg l1)) = 5) ∧ ((zR h1 (zR h1 (zR h1 l0 1) (Int32.toNatClampNeg l1)) 4) ≠ 0) ∧ (zK h1 (zR h1 (zR h1 (zR h1 l0 1) (Int32.toNatClampNeg l1)) 4) = 20) ∧ (vp_in (l2 - 10) (zN h1 (zR h1 (zR h1 (zR h1 l0 1) (Int32.toNatClampNeg l1)) 4))) ∧ ψ (zI h1 (zR h1 (zR h1 (zR h1 l0 1) (Int32.toNatClampNeg l1)) 4) (Int32.toNatClampNeg (l2 - 10))) h1) ∧ (¬ l2 = 0 → ¬ l2 = 1 → ¬ l2 = 2 → ¬ l2 = 3 → ¬ l2 = 4 → ¬ l2 = 5 → ¬ l2 = 6 → ¬ l2 = 7 → ¬ l2 = 8 → ¬ l2 = 9 → ¬ l2 = 10 → ¬ l2 = 11 → ¬ l2 = 12 → ψ (-2) h1))) ∧ (x3 = 0 → ψ (-1) h1)))) : ZcI mX10_about [.ref l0, .int l1, .int l2] h ψ := by
  refine Zc.intro (L := [some (.ref l0), some (.int l1), some (.int l2), none]) (show plainName RX10 = true by decide) rfl (Nat.le_of_ble_eq_true rfl) ?_
  show Zt _ _ 0 0 _ _ _ _
  refine z_aload_n (q := 1) dX10_about_0 rfl rfl rfl ?_
  refine z_iload_n (q := 2) dX10_about_1 rfl rfl rfl ?_
  obtain ⟨g2, hF⟩ := hF
  refine z_callVI (rc := 0) (rs := 0) (b := l0) (av := [.int l1]) (ci := 10) (r := (RX10, TX10, 15)) (q := 5) hF dX10_about_2 ml_X10_120 ok_X10_isPit in_X10_isPit se_X10_isPit rfl rfl g2 rfl (Nat.le_of_ble_eq_true rfl) (by decide) (Nat.le_of_ble_eq_true rfl) rfl rfl rfl rfl (fun x3 h1 hF => ?_)
  refine z_if_ne (t := 10) (q := 8) dX10_about_5 (by decide) rfl (fun hc => ?_) (fun hc => ?_)
  · have hF := hF.1 hc
    refine z_aload_n (q := 11) dX10_about_10 rfl rfl rfl ?_
    obtain ⟨g4, hF⟩ := hF
    obtain ⟨g5, hF⟩ := hF
    refine z_getR (c := 10) (k := 1) (r := (RX10, TX10, 15)) (q := 14) dX10_about_11 rfl (by decide) fl_X10_17 rfl g4 g5 rfl ?_
    refine z_iload_n (q := 15) dX10_about_14 rfl rfl rfl ?_
    obtain ⟨g6, hF⟩ := hF
    obtain ⟨g7, hF⟩ := hF
    obtain ⟨g8, hF⟩ := hF
    refine y_aald (kd := 25) (j := (Int32.toNatClampNeg l1)) (q := 16) dX10_about_15 g6 (by decide) (by decide) rfl g7 rfl g8 rfl ?_
    refine z_astore_n (q := 17) (L' := [some (.ref l0), some (.int l1), some (.int l2), some (.ref (zR h1 (zR h1 l0 1) (Int32.toNatClampNeg l1)))]) dX10_about_16 rfl (Nat.le_of_ble_eq_true rfl) rfl rfl rfl ?_
    refine z_iload_n (q := 18) dX10_about_17 rfl rfl rfl ?_
    by_cases e9 : l2 = 0
    · refine z_tableIn (q := 84) (off := 66) dX10_about_18 (by rw [e9]; decide) (by rw [e9]; decide) (by rw [e9]; decide) (by decide) ?_
      have hF := hF.1 e9
      refine z_aload_n (q := 85) dX10_about_84 rfl rfl rfl ?_
      obtain ⟨g22, hF⟩ := hF
      obtain ⟨g23, hF⟩ := hF
      refine z_getR (c := 4) (k := 0) (r := (RX4, TX4, 8)) (q := 88) dX10_about_85 rfl (by decide) fl_X10_123 rfl g22 g23 rfl ?_
      obtain ⟨g24, hF⟩ := hF
      refine z_getI (c := 5) (k := 0) (r := (RX5, TX5, 2)) (q := 91) dX10_about_88 rfl (by decide) fl_X10_99 rfl g24 rfl ?_
      exact z_ireturn dX10_about_91 rfl ⟨_, rfl, hF⟩
    by_cases e10 : l2 = 1
    · refine z_tableIn (q := 92) (off := 74) dX10_about_18 (by rw [e10]; decide) (by rw [e10]; decide) (by rw [e10]; decide) (by decide) ?_
      have hF := hF.2.1 e10
      refine z_aload_n (q := 93) dX10_about_92 rfl rfl rfl ?_
      obtain ⟨g25, hF⟩ := hF
      obtain ⟨g26, hF⟩ := hF
      refine z_getR (c := 4) (k := 0) (r := (RX4, TX4, 8)) (q := 96) dX10_about_93 rfl (by decide) fl_X10_123 rfl g25 g26 rfl ?_
      obtain ⟨g27, hF⟩ := hF
      refine z_getI (c := 5) (k := 1) (r := (RX5, TX5, 2)) (q := 99) dX10_about_96 rfl (by decide) fl_X10_103 rfl g27 rfl ?_
      exact z_ireturn dX10_about_99 rfl ⟨_, rfl, hF⟩
    by_cases e11 : l2 = 2
    · refine z_tableIn (q := 100) (off := 82) dX10_about_18 (by rw [e11]; decide) (by rw [e11]; decide) (by rw [e11]; decide) (by decide) ?_
      have hF := hF.2.2.1 e11
      refine z_aload_n (q := 101) dX10_about_100 rfl rfl rfl ?_
      obtain ⟨g28, hF⟩ := hF
      refine z_getI (c := 4) (k := 1) (r := (RX4, TX4, 8)) (q := 104) dX10_about_101 rfl (by decide) fl_X10_127 rfl g28 rfl ?_
      exact z_ireturn dX10_about_104 rfl ⟨_, rfl, hF⟩
    by_cases e12 : l2 = 3
    · refine z_tableIn (q := 105) (off := 87) dX10_about_18 (by rw [e12]; decide) (by rw [e12]; decide) (by rw [e12]; decide) (by decide) ?_
      have hF := hF.2.2.2.1 e12
      refine z_aload_n (q := 106) dX10_about_105 rfl rfl rfl ?_
      obtain ⟨g29, hF⟩ := hF
      refine z_getI (c := 4) (k := 2) (r := (RX4, TX4, 8)) (q := 109) dX10_about_106 rfl (by decide) fl_X10_130 rfl g29 rfl ?_
      exact z_ireturn dX10_about_109 rfl ⟨_, rfl, hF⟩
    by_cases e13 : l2 = 4
    · refine z_tableIn (q := 110) (off := 92) dX10_about_18 (by rw [e13]; decide) (by rw [e13]; decide) (by rw [e13]; decide) (by decide) ?_
      have hF := hF.2.2.2.2.1 e13
      refine z_aload_n (q := 111) dX10_about_110 rfl rfl rfl ?_
      obtain ⟨g30, hF⟩ := hF
      refine z_getI (c := 4) (k := 3) (r := (RX4, TX4, 8)) (q := 114) dX10_about_111 rfl (by decide) fl_X10_133 rfl g30 rfl ?_
      exact z_ireturn dX10_about_114 rfl ⟨_, rfl, hF⟩
    by_cases e14 : l2 = 5
    · refine z_tableIn (q := 115) (off := 97) dX10_about_18 (by rw [e14]; decide) (by rw [e14]; decide) (by rw [e14]; decide) (by decide) ?_
      have hF := hF.2.2.2.2.2.1 e14
      refine z_aload_n (q := 116) dX10_about_115 rfl rfl rfl ?_
      obtain ⟨g31, hF⟩ := hF
      refine z_getI (c := 4) (k := 5) (r := (RX4, TX4, 8)) (q := 119) dX10_about_116 rfl (by decide) fl_X10_136 rfl g31 rfl ?_
      refine z_callSI (rc := 0) (rs := 0) (av := [.int (zI h1 (zR h1 (zR h1 l0 1) (Int32.toNatClampNeg l1)) 5)]) (q := 122) hF dX10_about_119 ml_X10_140 ok_X10_asOne st_X10_asOne rfl (Nat.le_of_ble_eq_true rfl) (by decide) (Nat.le_of_ble_eq_true rfl) rfl rfl rfl rfl (fun x33 h32 hF => ?_)
      exact z_ireturn dX10_about_122 rfl ⟨_, rfl, hF⟩
    by_cases e15 : l2 = 6
    · refine z_tableIn (q := 123) (off := 105) dX10_about_18 (by rw [e15]; decide) (by rw [e15]; decide) (by rw [e15]; decide) (by decide) ?_
      have hF := hF.2.2.2.2.2.2.1 e15
      refine z_aload_n (q := 124) dX10_about_123 rfl rfl rfl ?_
      refine z_iload_n (q := 125) dX10_about_124 rfl rfl rfl ?_
      refine z_callVI (rc := 0) (rs := 0) (b := l0) (av := [.int l1]) (ci := 10) (r := (RX10, TX10, 15)) (q := 128) hF dX10_about_125 ml_X10_144 ok_X10_menAt in_X10_menAt se_X10_menAt rfl rfl g4 rfl (Nat.le_of_ble_eq_true rfl) (by decide) (Nat.le_of_ble_eq_true rfl) rfl rfl rfl rfl (fun x35 h34 hF => ?_)
      exact z_ireturn dX10_about_128 rfl ⟨_, rfl, hF⟩
    by_cases e16 : l2 = 7
    · refine z_tableIn (q := 129) (off := 111) dX10_about_18 (by rw [e16]; decide) (by rw [e16]; decide) (by rw [e16]; decide) (by decide) ?_
      have hF := hF.2.2.2.2.2.2.2.1 e16
      refine z_aload_n (q := 130) dX10_about_129 rfl rfl rfl ?_
      obtain ⟨g36, hF⟩ := hF
      refine z_getR (c := 10) (k := 9) (r := (RX10, TX10, 15)) (q := 133) dX10_about_130 rfl (by decide) fl_X10_68 rfl g4 g36 rfl ?_
      obtain ⟨g37, hF⟩ := hF
      obtain ⟨g38, hF⟩ := hF
      refine z_getR (c := 9) (k := 2) (r := (RX9, TX9, 13)) (q := 136) dX10_about_133 rfl (by decide) fl_X10_148 rfl g37 g38 rfl ?_
      refine z_iload_n (q := 137) dX10_about_136 rfl rfl rfl ?_
      obtain ⟨g39, hF⟩ := hF
      obtain ⟨g40, hF⟩ := hF
      refine y_iald (j := (Int32.toNatClampNeg l1)) (q := 138) dX10_about_137 (Or.inl g39) g40 rfl rfl ?_
      exact z_ireturn dX10_about_138 rfl ⟨_, rfl, hF⟩
    by_cases e17 : l2 = 8
    · refine z_tableIn (q := 139) (off := 121) dX10_about_18 (by rw [e17]; decide) (by rw [e17]; decide) (by rw [e17]; decide) (by decide) ?_
      have hF := hF.2.2.2.2.2.2.2.2.1 e17
      refine z_aload_n (q := 140) dX10_about_139 rfl rfl rfl ?_
      obtain ⟨g41, hF⟩ := hF
      refine z_getR (c := 10) (k := 9) (r := (RX10, TX10, 15)) (q := 143) dX10_about_140 rfl (by decide) fl_X10_68 rfl g4 g41 rfl ?_
      obtain ⟨g42, hF⟩ := hF
      obtain ⟨g43, hF⟩ := hF
      refine z_getR (c := 9) (k := 4) (r := (RX9, TX9, 13)) (q := 146) dX10_about_143 rfl (by decide) fl_X10_151 rfl g42 g43 rfl ?_
      refine z_iload_n (q := 147) dX10_about_146 rfl rfl rfl ?_
      obtain ⟨g44, hF⟩ := hF
      obtain ⟨g45, hF⟩ := hF
      refine y_iald (j := (Int32.toNatClampNeg l1)) (q := 148) dX10_about_147 (Or.inl g44) g45 rfl rfl ?_
      exact z_ireturn dX10_about_148 rfl ⟨_, rfl, hF⟩
    by_cases e18 : l2 = 9
    · refine z_tableIn (q := 149) (off := 131) dX10_about_18 (by rw [e18]; decide) (by rw [e18]; decide) (by rw [e18]; decide) (by decide) ?_
      have hF := hF.2.2.2.2.2.2.2.2.2.1 e18
      refine z_aload_n (q := 150) dX10_about_149 rfl rfl rfl ?_
      obtain ⟨g46, hF⟩ := hF
      refine z_getR (c := 10) (k := 9) (r := (RX10, TX10, 15)) (q := 153) dX10_about_150 rfl (by decide) fl_X10_68 rfl g4 g46 rfl ?_
      obtain ⟨g47, hF⟩ := hF
      obtain ⟨g48, hF⟩ := hF
      refine z_getR (c := 9) (k := 3) (r := (RX9, TX9, 13)) (q := 156) dX10_about_153 rfl (by decide) fl_X10_154 rfl g47 g48 rfl ?_
      refine z_iload_n (q := 157) dX10_about_156 rfl rfl rfl ?_
      obtain ⟨g49, hF⟩ := hF
      obtain ⟨g50, hF⟩ := hF
      refine y_bald (j := (Int32.toNatClampNeg l1)) (q := 158) dX10_about_157 g49 g50 rfl rfl ?_
      refine z_callSI (rc := 0) (rs := 0) (av := [.int (zI h1 (zR h1 (zR h1 l0 9) 3) (Int32.toNatClampNeg l1))]) (q := 161) hF dX10_about_158 ml_X10_140 ok_X10_asOne st_X10_asOne rfl (Nat.le_of_ble_eq_true rfl) (by decide) (Nat.le_of_ble_eq_true rfl) rfl rfl rfl rfl (fun x52 h51 hF => ?_)
      exact z_ireturn dX10_about_161 rfl ⟨_, rfl, hF⟩
    by_cases e19 : l2 = 10
    · refine z_tableIn (q := 162) (off := 144) dX10_about_18 (by rw [e19]; decide) (by rw [e19]; decide) (by rw [e19]; decide) (by decide) ?_
      have hF := hF.2.2.2.2.2.2.2.2.2.2.1 e19
      refine z_aload_n (q := 163) dX10_about_162 rfl rfl rfl ?_
      obtain ⟨g53, hF⟩ := hF
      obtain ⟨g54, hF⟩ := hF
      refine z_getR (c := 4) (k := 4) (r := (RX4, TX4, 8)) (q := 166) dX10_about_163 rfl (by decide) fl_X10_158 rfl g53 g54 rfl ?_
      refine z_iload_n (q := 167) dX10_about_166 rfl rfl rfl ?_
      refine z_bipush (q := 169) (v := 10) dX10_about_167 (by decide) rfl ?_
      refine z_isub (q := 170) dX10_about_169 rfl ?_
      obtain ⟨g55, hF⟩ := hF
      obtain ⟨g56, hF⟩ := hF
      refine y_iald (j := (Int32.toNatClampNeg (l2 - 10))) (q := 171) dX10_about_170 (Or.inl g55) g56 rfl rfl ?_
      exact z_ireturn dX10_about_171 rfl ⟨_, rfl, hF⟩
    by_cases e20 : l2 = 11
    · refine z_tableIn (q := 162) (off := 144) dX10_about_18 (by rw [e20]; decide) (by rw [e20]; decide) (by rw [e20]; decide) (by decide) ?_
      have hF := hF.2.2.2.2.2.2.2.2.2.2.2.1 e20
      refine z_aload_n (q := 163) dX10_about_162 rfl rfl rfl ?_
      obtain ⟨g57, hF⟩ := hF
      obtain ⟨g58, hF⟩ := hF
      refine z_getR (c := 4) (k := 4) (r := (RX4, TX4, 8)) (q := 166) dX10_about_163 rfl (by decide) fl_X10_158 rfl g57 g58 rfl ?_
      refine z_iload_n (q := 167) dX10_about_166 rfl rfl rfl ?_
      refine z_bipush (q := 169) (v := 10) dX10_about_167 (by decide) rfl ?_
      refine z_isub (q := 170) dX10_about_169 rfl ?_
      obtain ⟨g59, hF⟩ := hF
      obtain ⟨g60, hF⟩ := hF
      refine y_iald (j := (Int32.toNatClampNeg (l2 - 10))) (q := 171) dX10_about_170 (Or.inl g59) g60 rfl rfl ?_
      exact z_ireturn dX10_about_171 rfl ⟨_, rfl, hF⟩
    by_cases e21 : l2 = 12
    · refine z_tableIn (q := 162) (off := 144) dX10_about_18 (by rw [e21]; decide) (by rw [e21]; decide) (by rw [e21]; decide) (by decide) ?_
      have hF := hF.2.2.2.2.2.2.2.2.2.2.2.2.1 e21
      refine z_aload_n (q := 163) dX10_about_162 rfl rfl rfl ?_
      obtain ⟨g61, hF⟩ := hF
      obtain ⟨g62, hF⟩ := hF
      refine z_getR (c := 4) (k := 4) (r := (RX4, TX4, 8)) (q := 166) dX10_about_163 rfl (by decide) fl_X10_158 rfl g61 g62 rfl ?_
      refine z_iload_n (q := 167) dX10_about_166 rfl rfl rfl ?_
      refine z_bipush (q := 169) (v := 10) dX10_about_167 (by decide) rfl ?_
      refine z_isub (q := 170) dX10_about_169 rfl ?_
      obtain ⟨g63, hF⟩ := hF
      obtain ⟨g64, hF⟩ := hF
      refine y_iald (j := (Int32.toNatClampNeg (l2 - 10))) (q := 171) dX10_about_170 (Or.inl g63) g64 rfl rfl ?_
      exact z_ireturn dX10_about_171 rfl ⟨_, rfl, hF⟩
    refine z_tableOut (q := 172) dX10_about_18 (by
      have k0 := zsw_ne (k := 0) e9 (by decide)
      have k1 := zsw_ne (k := 1) e10 (by decide)
      have k2 := zsw_ne (k := 2) e11 (by decide)
      have k3 := zsw_ne (k := 3) e12 (by decide)
      have k4 := zsw_ne (k := 4) e13 (by decide)
      have k5 := zsw_ne (k := 5) e14 (by decide)
      have k6 := zsw_ne (k := 6) e15 (by decide)
      have k7 := zsw_ne (k := 7) e16 (by decide)
      have k8 := zsw_ne (k := 8) e17 (by decide)
      have k9 := zsw_ne (k := 9) e18 (by decide)
      have k10 := zsw_ne (k := 10) e19 (by decide)
      have k11 := zsw_ne (k := 11) e20 (by decide)
      have k12 := zsw_ne (k := 12) e21 (by decide)
      omega) (by decide) ?_
    have hF := hF.2.2.2.2.2.2.2.2.2.2.2.2.2 e9 e10 e11 e12 e13 e14 e15 e16 e17 e18 e19 e20 e21
    refine z_bipush (q := 174) (v := (-2)) dX10_about_172 (by decide) rfl ?_
    exact z_ireturn dX10_about_174 rfl ⟨_, rfl, hF⟩
  · have hF := hF.2 hc
    refine z_iconst (q := 9) (v := (-1)) dX10_about_8 (by decide) rfl ?_
    exact z_ireturn dX10_about_9 rfl ⟨_, rfl, hF⟩
set_option maxRecDepth 100000 in
set_option maxHeartbeats 4000000 in
theorem wX10_man {ψ : Int32 → ZH → Prop} {l0 : Nat} {l1 : Int32} {l2 : Int32} {l3 : Int32} {l4 : Int32} {l5 : Int32} {l6 : Int32} {h : ZH} (hF : ZcI mX10_isTown [.int l4] h (fun x2 h1 => ((x2 = 0 → ψ (-1) h1) ∧ (¬ x2 = 0 → (zK h1 l0 = 11) ∧ ZcI mX10_isPit [.ref l0, .int l5] h1 (fun x5 h3 => ((¬ x5 = 0 → ZcI mX10_isWithin [.int l1, .int 14, .int 70] h3 (fun x7 h6 => ((x7 = 0 → ψ (-2) h6) ∧ (¬ x7 = 0 → ZcI mX10_isTrade [.int l2] h6 (fun x9 h8 => ((x9 = 0 → ψ (-2) h8) ∧ (¬ x9 = 0 → ZcI mX10_isWithin [.int l3, .int 0, .int 50] h8 (fun x11 h10 => ((¬ x11 = 0 → (zK h10 l0 = 11) ∧ ((zR h10 l0 1) ≠ 0) ∧ (zK h10 (zR h10 l0 1) = 25) ∧ (vp_in l5 (zN h10 (zR h10 l0 1))) ∧ ((zR h10 (zR h10 l0 1) (Int32.toNatClampNeg l5)) ≠ 0) ∧ (zK h10 (zR h10 (zR h10 l0 1) (Int32.toNatClampNeg l5)) = 5) ∧ ((¬ (zI h10 (zR h10 (zR h10 l0 1) (Int32.toNatClampNeg l5)) 5) = 0 → (((zI h10 l0 13) < 24 → ((zR h10 l0 2) ≠ 0) ∧ ∃ a19 : Nat, a19 ≠ 0 ∧ zK h10 a19 = 0 ∧ ∀ h22 : ZH, h22 = (zmk h10 a19 2 0) → ZcV mX1_init [.ref a19, .int l1, .int l2, .int l3, .int l4, .int l5, .int l6] h22 (fun h24 => (zK h24 (zR h10 l0 2) = 24) ∧ (vp_in (zI h10 l0 13) (zN h24 (zR h10 l0 2))) ∧ (zK h24 a19 = 2) ∧ (zK h24 l0 = 11) ∧ ψ (zI h24 l0 13) (zsI (zsR h24 (zR h10 l0 2) (Int32.toNatClampNeg (zI h10 l0 13)) a19) l0 13 ((zI h24 l0 13) + 1)))) ∧ (¬ (zI h10 l0 13) < 24 → ψ (-4) h10))) ∧ ((zI h10 (zR h10 (zR h10 l0 1) (Int32.toNatClampNeg l5)) 5) = 0 → ψ (-3) h10))) ∧ (x11 = 0 → ψ (-2) h10)))))))))) ∧ (x5 = 0 → ψ (-1) h3))))))) : ZcI mX10_man [.ref l0, .int l1, .int l2, .int l3, .int l4, .int l5, .int l6] h ψ := by
  refine Zc.intro (L := [some (.ref l0), some (.int l1), some (.int l2), some (.int l3), some (.int l4), some (.int l5), some (.int l6)]) (show plainName RX10 = true by decide) rfl (Nat.le_of_ble_eq_true rfl) ?_
  show Zt _ _ 1 7 _ _ _ _
  refine z_iload (q := 2) dX10_man_0 rfl rfl ?_
  refine z_callSI (rc := 1) (rs := 7) (av := [.int l4]) (q := 5) hF dX10_man_2 ml_X10_91 ok_X10_isTown st_X10_isTown rfl (Nat.le_of_ble_eq_true rfl) (by decide) (Nat.le_of_ble_eq_true rfl) rfl rfl rfl rfl (fun x2 h1 hF => ?_)
  refine z_if_eq (t := 17) (q := 8) dX10_man_5 (by decide) rfl (fun hc => ?_) (fun hc => ?_)
  · have hF := hF.1 hc
    refine z_iconst (q := 18) (v := (-1)) dX10_man_17 (by decide) rfl ?_
    exact z_ireturn dX10_man_18 rfl ⟨_, rfl, hF⟩
  · have hF := hF.2 hc
    refine z_aload_n (q := 9) dX10_man_8 rfl rfl rfl ?_
    refine z_iload (q := 11) dX10_man_9 rfl rfl ?_
    obtain ⟨g4, hF⟩ := hF
    refine z_callVI (rc := 1) (rs := 7) (b := l0) (av := [.int l5]) (ci := 10) (r := (RX10, TX10, 15)) (q := 14) hF dX10_man_11 ml_X10_120 ok_X10_isPit in_X10_isPit se_X10_isPit rfl rfl g4 rfl (Nat.le_of_ble_eq_true rfl) (by decide) (Nat.le_of_ble_eq_true rfl) rfl rfl rfl rfl (fun x5 h3 hF => ?_)
    refine z_if_ne (t := 19) (q := 17) dX10_man_14 (by decide) rfl (fun hc => ?_) (fun hc => ?_)
    · have hF := hF.1 hc
      refine z_iload_n (q := 20) dX10_man_19 rfl rfl rfl ?_
      refine z_bipush (q := 22) (v := 14) dX10_man_20 (by decide) rfl ?_
      refine z_bipush (q := 24) (v := 70) dX10_man_22 (by decide) rfl ?_
      refine z_callSI (rc := 1) (rs := 7) (av := [.int l1, .int 14, .int 70]) (q := 27) hF dX10_man_24 ml_X10_106 ok_X10_isWithin st_X10_isWithin rfl (Nat.le_of_ble_eq_true rfl) (by decide) (Nat.le_of_ble_eq_true rfl) rfl rfl rfl rfl (fun x7 h6 hF => ?_)
      refine z_if_eq (t := 47) (q := 30) dX10_man_27 (by decide) rfl (fun hc => ?_) (fun hc => ?_)
      · have hF := hF.1 hc
        refine z_bipush (q := 49) (v := (-2)) dX10_man_47 (by decide) rfl ?_
        exact z_ireturn dX10_man_49 rfl ⟨_, rfl, hF⟩
      · have hF := hF.2 hc
        refine z_iload_n (q := 31) dX10_man_30 rfl rfl rfl ?_
        refine z_callSI (rc := 1) (rs := 7) (av := [.int l2]) (q := 34) hF dX10_man_31 ml_X10_161 ok_X10_isTrade st_X10_isTrade rfl (Nat.le_of_ble_eq_true rfl) (by decide) (Nat.le_of_ble_eq_true rfl) rfl rfl rfl rfl (fun x9 h8 hF => ?_)
        refine z_if_eq (t := 47) (q := 37) dX10_man_34 (by decide) rfl (fun hc => ?_) (fun hc => ?_)
        · have hF := hF.1 hc
          refine z_bipush (q := 49) (v := (-2)) dX10_man_47 (by decide) rfl ?_
          exact z_ireturn dX10_man_49 rfl ⟨_, rfl, hF⟩
        · have hF := hF.2 hc
          refine z_iload_n (q := 38) dX10_man_37 rfl rfl rfl ?_
          refine z_iconst (q := 39) (v := 0) dX10_man_38 (by decide) rfl ?_
          refine z_bipush (q := 41) (v := 50) dX10_man_39 (by decide) rfl ?_
          refine z_callSI (rc := 1) (rs := 7) (av := [.int l3, .int 0, .int 50]) (q := 44) hF dX10_man_41 ml_X10_106 ok_X10_isWithin st_X10_isWithin rfl (Nat.le_of_ble_eq_true rfl) (by decide) (Nat.le_of_ble_eq_true rfl) rfl rfl rfl rfl (fun x11 h10 hF => ?_)
          refine z_if_ne (t := 50) (q := 47) dX10_man_44 (by decide) rfl (fun hc => ?_) (fun hc => ?_)
          · have hF := hF.1 hc
            refine z_aload_n (q := 51) dX10_man_50 rfl rfl rfl ?_
            obtain ⟨g12, hF⟩ := hF
            obtain ⟨g13, hF⟩ := hF
            refine z_getR (c := 10) (k := 1) (r := (RX10, TX10, 15)) (q := 54) dX10_man_51 rfl (by decide) fl_X10_17 rfl g12 g13 rfl ?_
            refine z_iload (q := 56) dX10_man_54 rfl rfl ?_
            obtain ⟨g14, hF⟩ := hF
            obtain ⟨g15, hF⟩ := hF
            obtain ⟨g16, hF⟩ := hF
            refine y_aald (kd := 25) (j := (Int32.toNatClampNeg l5)) (q := 57) dX10_man_56 g14 (by decide) (by decide) rfl g15 rfl g16 rfl ?_
            obtain ⟨g17, hF⟩ := hF
            refine z_getI (c := 4) (k := 5) (r := (RX4, TX4, 8)) (q := 60) dX10_man_57 rfl (by decide) fl_X10_136 rfl g17 rfl ?_
            refine z_if_ne (t := 66) (q := 63) dX10_man_60 (by decide) rfl (fun hc => ?_) (fun hc => ?_)
            · have hF := hF.1 hc
              refine z_aload_n (q := 67) dX10_man_66 rfl rfl rfl ?_
              refine z_getI (c := 10) (k := 13) (r := (RX10, TX10, 15)) (q := 70) dX10_man_67 rfl (by decide) fl_X10_164 rfl g12 rfl ?_
              refine z_bipush (q := 72) (v := 24) dX10_man_70 (by decide) rfl ?_
              refine z_icmp_lt (t := 78) (q := 75) dX10_man_72 (by decide) rfl (fun hc => ?_) (fun hc => ?_)
              · have hF := hF.1 hc
                refine z_aload_n (q := 79) dX10_man_78 rfl rfl rfl ?_
                obtain ⟨g18, hF⟩ := hF
                refine z_getR (c := 10) (k := 2) (r := (RX10, TX10, 15)) (q := 82) dX10_man_79 rfl (by decide) fl_X10_23 rfl g12 g18 rfl ?_
                refine z_aload_n (q := 83) dX10_man_82 rfl rfl rfl ?_
                refine z_getI (c := 10) (k := 13) (r := (RX10, TX10, 15)) (q := 86) dX10_man_83 rfl (by decide) fl_X10_164 rfl g12 rfl ?_
                obtain ⟨a19, g20, g21, hF⟩ := hF
                refine z_new (rc := 0) (rs := 0) (a := a19) (c := 1) (r := (RX1, TX1, 7)) (q := 89) dX10_man_86 rfl cl_X10_21 ni_X1 ii_X1 g20 g21 rfl ?_
                refine z_nameH (fun h22 eh23 => ?_)
                have hF := hF h22 eh23
                refine z_dup (q := 90) dX10_man_89 rfl rfl ?_
                refine z_iload_n (q := 91) dX10_man_90 rfl rfl rfl ?_
                refine z_iload_n (q := 92) dX10_man_91 rfl rfl rfl ?_
                refine z_iload_n (q := 93) dX10_man_92 rfl rfl rfl ?_
                refine z_iload (q := 95) dX10_man_93 rfl rfl ?_
                refine z_iload (q := 97) dX10_man_95 rfl rfl ?_
                refine z_iload (q := 99) dX10_man_97 rfl rfl ?_
                refine z_callCV (rc := 0) (rs := 0) (b := a19) (av := [.int l1, .int l2, .int l3, .int l4, .int l5, .int l6]) (q := 102) hF dX10_man_99 ml_X10_167 ok_X1_init rfl in_X1_init rfl rfl (Nat.le_of_ble_eq_true rfl) (by decide) (Nat.le_of_ble_eq_true rfl) rfl rfl rfl rfl (fun h24 hF => ?_)
                obtain ⟨g25, hF⟩ := hF
                obtain ⟨g26, hF⟩ := hF
                obtain ⟨g27, hF⟩ := hF
                refine y_aast (kd := 24) (c := 1) (r := (RX1, TX1, 7)) (j := (Int32.toNatClampNeg (zI h10 l0 13))) (q := 103) dX10_man_102 g25 (by decide) (by decide) rfl rfl g27 g26 rfl rfl ?_
                refine z_aload_n (q := 104) dX10_man_103 rfl rfl rfl ?_
                refine z_dup (q := 105) dX10_man_104 rfl rfl ?_
                obtain ⟨g28, hF⟩ := hF
                refine z_getI (c := 10) (k := 13) (r := (RX10, TX10, 15)) (q := 108) dX10_man_105 rfl (by decide) fl_X10_164 rfl g28 rfl ?_
                refine z_dup_x1 (q := 109) dX10_man_108 rfl rfl rfl ?_
                refine z_iconst (q := 110) (v := 1) dX10_man_109 (by decide) rfl ?_
                refine z_iadd (q := 111) dX10_man_110 rfl ?_
                refine z_putI (c := 10) (k := 13) (r := (RX10, TX10, 15)) (q := 114) dX10_man_111 rfl (by decide) fl_X10_164 rfl rfl g28 rfl ?_
                exact z_ireturn dX10_man_114 rfl ⟨_, rfl, hF⟩
              · have hF := hF.2 hc
                refine z_bipush (q := 77) (v := (-4)) dX10_man_75 (by decide) rfl ?_
                exact z_ireturn dX10_man_77 rfl ⟨_, rfl, hF⟩
            · have hF := hF.2 hc
              refine z_bipush (q := 65) (v := (-3)) dX10_man_63 (by decide) rfl ?_
              exact z_ireturn dX10_man_65 rfl ⟨_, rfl, hF⟩
          · have hF := hF.2 hc
            refine z_bipush (q := 49) (v := (-2)) dX10_man_47 (by decide) rfl ?_
            exact z_ireturn dX10_man_49 rfl ⟨_, rfl, hF⟩
    · have hF := hF.2 hc
      refine z_iconst (q := 18) (v := (-1)) dX10_man_17 (by decide) rfl ?_
      exact z_ireturn dX10_man_18 rfl ⟨_, rfl, hF⟩
set_option maxRecDepth 100000 in
set_option maxHeartbeats 4000000 in
theorem wX10_ofMan {ψ : Int32 → ZH → Prop} {l0 : Nat} {l1 : Int32} {l2 : Int32} {h : ZH} (hF : (zK h l0 = 11) ∧ ZcI mX10_isMan [.ref l0, .int l1] h (fun x3 h1 => ((¬ x3 = 0 → (zK h1 l0 = 11) ∧ ((zR h1 l0 2) ≠ 0) ∧ (zK h1 (zR h1 l0 2) = 24) ∧ (vp_in l1 (zN h1 (zR h1 l0 2))) ∧ ((zR h1 (zR h1 l0 2) (Int32.toNatClampNeg l1)) ≠ 0) ∧ ((l2 = 0 → (zK h1 (zR h1 (zR h1 l0 2) (Int32.toNatClampNeg l1)) = 2) ∧ ψ (zI h1 (zR h1 (zR h1 l0 2) (Int32.toNatClampNeg l1)) 0) h1) ∧ (l2 = 1 → (zK h1 (zR h1 (zR h1 l0 2) (Int32.toNatClampNeg l1)) = 2) ∧ ψ (zI h1 (zR h1 (zR h1 l0 2) (Int32.toNatClampNeg l1)) 1) h1) ∧ (l2 = 2 → (zK h1 (zR h1 (zR h1 l0 2) (Int32.toNatClampNeg l1)) = 2) ∧ ψ (zI h1 (zR h1 (zR h1 l0 2) (Int32.toNatClampNeg l1)) 2) h1) ∧ (l2 = 3 → (zK h1 (zR h1 (zR h1 l0 2) (Int32.toNatClampNeg l1)) = 2) ∧ ψ (zI h1 (zR h1 (zR h1 l0 2) (Int32.toNatClampNeg l1)) 3) h1) ∧ (l2 = 4 → (zK h1 (zR h1 (zR h1 l0 2) (Int32.toNatClampNeg l1)) = 2) ∧ ψ (zI h1 (zR h1 (zR h1 l0 2) (Int32.toNatClampNeg l1)) 4) h1) ∧ (l2 = 5 → (zK h1 (zR h1 (zR h1 l0 2) (Int32.toNatClampNeg l1)) = 2) ∧ ZcI mX10_asOne [.int (zI h1 (zR h1 (zR h1 l0 2) (Int32.toNatClampNeg l1)) 5)] h1 (fun x23 h22 => ψ x23 h22)) ∧ (l2 = 6 → (zK h1 (zR h1 (zR h1 l0 2) (Int32.toNatClampNeg l1)) = 2) ∧ ψ (zI h1 (zR h1 (zR h1 l0 2) (Int32.toNatClampNeg l1)) 6) h1) ∧ (¬ l2 = 0 → ¬ l2 = 1 → ¬ l2 = 2 → ¬ l2 = 3 → ¬ l2 = 4 → ¬ l2 = 5 → ¬ l2 = 6 → ψ (-2) h1))) ∧ (x3 = 0 → ψ (-1) h1)))) : ZcI mX10_ofMan [.ref l0, .int l1, .int l2] h ψ := by
  refine Zc.intro (L := [some (.ref l0), some (.int l1), some (.int l2), none]) (show plainName RX10 = true by decide) rfl (Nat.le_of_ble_eq_true rfl) ?_
  show Zt _ _ 0 0 _ _ _ _
  refine z_aload_n (q := 1) dX10_ofMan_0 rfl rfl rfl ?_
  refine z_iload_n (q := 2) dX10_ofMan_1 rfl rfl rfl ?_
  obtain ⟨g2, hF⟩ := hF
  refine z_callVI (rc := 0) (rs := 0) (b := l0) (av := [.int l1]) (ci := 10) (r := (RX10, TX10, 15)) (q := 5) hF dX10_ofMan_2 ml_X10_170 ok_X10_isMan in_X10_isMan se_X10_isMan rfl rfl g2 rfl (Nat.le_of_ble_eq_true rfl) (by decide) (Nat.le_of_ble_eq_true rfl) rfl rfl rfl rfl (fun x3 h1 hF => ?_)
  refine z_if_ne (t := 10) (q := 8) dX10_ofMan_5 (by decide) rfl (fun hc => ?_) (fun hc => ?_)
  · have hF := hF.1 hc
    refine z_aload_n (q := 11) dX10_ofMan_10 rfl rfl rfl ?_
    obtain ⟨g4, hF⟩ := hF
    obtain ⟨g5, hF⟩ := hF
    refine z_getR (c := 10) (k := 2) (r := (RX10, TX10, 15)) (q := 14) dX10_ofMan_11 rfl (by decide) fl_X10_23 rfl g4 g5 rfl ?_
    refine z_iload_n (q := 15) dX10_ofMan_14 rfl rfl rfl ?_
    obtain ⟨g6, hF⟩ := hF
    obtain ⟨g7, hF⟩ := hF
    obtain ⟨g8, hF⟩ := hF
    refine y_aald (kd := 24) (j := (Int32.toNatClampNeg l1)) (q := 16) dX10_ofMan_15 g6 (by decide) (by decide) rfl g7 rfl g8 rfl ?_
    refine z_astore_n (q := 17) (L' := [some (.ref l0), some (.int l1), some (.int l2), some (.ref (zR h1 (zR h1 l0 2) (Int32.toNatClampNeg l1)))]) dX10_ofMan_16 rfl (Nat.le_of_ble_eq_true rfl) rfl rfl rfl ?_
    refine z_iload_n (q := 18) dX10_ofMan_17 rfl rfl rfl ?_
    by_cases e9 : l2 = 0
    · refine z_tableIn (q := 60) (off := 42) dX10_ofMan_18 (by rw [e9]; decide) (by rw [e9]; decide) (by rw [e9]; decide) (by decide) ?_
      have hF := hF.1 e9
      refine z_aload_n (q := 61) dX10_ofMan_60 rfl rfl rfl ?_
      obtain ⟨g16, hF⟩ := hF
      refine z_getI (c := 1) (k := 0) (r := (RX1, TX1, 7)) (q := 64) dX10_ofMan_61 rfl (by decide) fl_X10_173 rfl g16 rfl ?_
      exact z_ireturn dX10_ofMan_64 rfl ⟨_, rfl, hF⟩
    by_cases e10 : l2 = 1
    · refine z_tableIn (q := 65) (off := 47) dX10_ofMan_18 (by rw [e10]; decide) (by rw [e10]; decide) (by rw [e10]; decide) (by decide) ?_
      have hF := hF.2.1 e10
      refine z_aload_n (q := 66) dX10_ofMan_65 rfl rfl rfl ?_
      obtain ⟨g17, hF⟩ := hF
      refine z_getI (c := 1) (k := 1) (r := (RX1, TX1, 7)) (q := 69) dX10_ofMan_66 rfl (by decide) fl_X10_176 rfl g17 rfl ?_
      exact z_ireturn dX10_ofMan_69 rfl ⟨_, rfl, hF⟩
    by_cases e11 : l2 = 2
    · refine z_tableIn (q := 70) (off := 52) dX10_ofMan_18 (by rw [e11]; decide) (by rw [e11]; decide) (by rw [e11]; decide) (by decide) ?_
      have hF := hF.2.2.1 e11
      refine z_aload_n (q := 71) dX10_ofMan_70 rfl rfl rfl ?_
      obtain ⟨g18, hF⟩ := hF
      refine z_getI (c := 1) (k := 2) (r := (RX1, TX1, 7)) (q := 74) dX10_ofMan_71 rfl (by decide) fl_X10_179 rfl g18 rfl ?_
      exact z_ireturn dX10_ofMan_74 rfl ⟨_, rfl, hF⟩
    by_cases e12 : l2 = 3
    · refine z_tableIn (q := 75) (off := 57) dX10_ofMan_18 (by rw [e12]; decide) (by rw [e12]; decide) (by rw [e12]; decide) (by decide) ?_
      have hF := hF.2.2.2.1 e12
      refine z_aload_n (q := 76) dX10_ofMan_75 rfl rfl rfl ?_
      obtain ⟨g19, hF⟩ := hF
      refine z_getI (c := 1) (k := 3) (r := (RX1, TX1, 7)) (q := 79) dX10_ofMan_76 rfl (by decide) fl_X10_182 rfl g19 rfl ?_
      exact z_ireturn dX10_ofMan_79 rfl ⟨_, rfl, hF⟩
    by_cases e13 : l2 = 4
    · refine z_tableIn (q := 80) (off := 62) dX10_ofMan_18 (by rw [e13]; decide) (by rw [e13]; decide) (by rw [e13]; decide) (by decide) ?_
      have hF := hF.2.2.2.2.1 e13
      refine z_aload_n (q := 81) dX10_ofMan_80 rfl rfl rfl ?_
      obtain ⟨g20, hF⟩ := hF
      refine z_getI (c := 1) (k := 4) (r := (RX1, TX1, 7)) (q := 84) dX10_ofMan_81 rfl (by decide) fl_X10_185 rfl g20 rfl ?_
      exact z_ireturn dX10_ofMan_84 rfl ⟨_, rfl, hF⟩
    by_cases e14 : l2 = 5
    · refine z_tableIn (q := 85) (off := 67) dX10_ofMan_18 (by rw [e14]; decide) (by rw [e14]; decide) (by rw [e14]; decide) (by decide) ?_
      have hF := hF.2.2.2.2.2.1 e14
      refine z_aload_n (q := 86) dX10_ofMan_85 rfl rfl rfl ?_
      obtain ⟨g21, hF⟩ := hF
      refine z_getI (c := 1) (k := 5) (r := (RX1, TX1, 7)) (q := 89) dX10_ofMan_86 rfl (by decide) fl_X10_188 rfl g21 rfl ?_
      refine z_callSI (rc := 0) (rs := 0) (av := [.int (zI h1 (zR h1 (zR h1 l0 2) (Int32.toNatClampNeg l1)) 5)]) (q := 92) hF dX10_ofMan_89 ml_X10_140 ok_X10_asOne st_X10_asOne rfl (Nat.le_of_ble_eq_true rfl) (by decide) (Nat.le_of_ble_eq_true rfl) rfl rfl rfl rfl (fun x23 h22 hF => ?_)
      exact z_ireturn dX10_ofMan_92 rfl ⟨_, rfl, hF⟩
    by_cases e15 : l2 = 6
    · refine z_tableIn (q := 93) (off := 75) dX10_ofMan_18 (by rw [e15]; decide) (by rw [e15]; decide) (by rw [e15]; decide) (by decide) ?_
      have hF := hF.2.2.2.2.2.2.1 e15
      refine z_aload_n (q := 94) dX10_ofMan_93 rfl rfl rfl ?_
      obtain ⟨g24, hF⟩ := hF
      refine z_getI (c := 1) (k := 6) (r := (RX1, TX1, 7)) (q := 97) dX10_ofMan_94 rfl (by decide) fl_X10_191 rfl g24 rfl ?_
      exact z_ireturn dX10_ofMan_97 rfl ⟨_, rfl, hF⟩
    refine z_tableOut (q := 98) dX10_ofMan_18 (by
      have k0 := zsw_ne (k := 0) e9 (by decide)
      have k1 := zsw_ne (k := 1) e10 (by decide)
      have k2 := zsw_ne (k := 2) e11 (by decide)
      have k3 := zsw_ne (k := 3) e12 (by decide)
      have k4 := zsw_ne (k := 4) e13 (by decide)
      have k5 := zsw_ne (k := 5) e14 (by decide)
      have k6 := zsw_ne (k := 6) e15 (by decide)
      omega) (by decide) ?_
    have hF := hF.2.2.2.2.2.2.2 e9 e10 e11 e12 e13 e14 e15
    refine z_bipush (q := 100) (v := (-2)) dX10_ofMan_98 (by decide) rfl ?_
    exact z_ireturn dX10_ofMan_100 rfl ⟨_, rfl, hF⟩
  · have hF := hF.2 hc
    refine z_iconst (q := 9) (v := (-1)) dX10_ofMan_8 (by decide) rfl ?_
    exact z_ireturn dX10_ofMan_9 rfl ⟨_, rfl, hF⟩
set_option maxRecDepth 100000 in
set_option maxHeartbeats 4000000 in
theorem wX10_leave {ψ : Int32 → ZH → Prop} {l0 : Nat} {l1 : Int32} {h : ZH} (hF : (zK h l0 = 11) ∧ ZcI mX10_isMan [.ref l0, .int l1] h (fun x3 h1 => ((¬ x3 = 0 → (zK h1 l0 = 11) ∧ ((zR h1 l0 2) ≠ 0) ∧ (zK h1 (zR h1 l0 2) = 24) ∧ (vp_in l1 (zN h1 (zR h1 l0 2))) ∧ ((zR h1 (zR h1 l0 2) (Int32.toNatClampNeg l1)) ≠ 0) ∧ (zK h1 (zR h1 (zR h1 l0 2) (Int32.toNatClampNeg l1)) = 2) ∧ ∀ v10 : Int32, v10 = (zI h1 (zR h1 (zR h1 l0 2) (Int32.toNatClampNeg l1)) 6) → ((¬ v10 = 4 → ZcV mX1_quit [.ref (zR h1 (zR h1 l0 2) (Int32.toNatClampNeg l1)), .int 4] h1 (fun h12 => ψ v10 h12)) ∧ (v10 = 4 → ψ (-5) h1))) ∧ (x3 = 0 → ψ (-1) h1)))) : ZcI mX10_leave [.ref l0, .int l1] h ψ := by
  refine Zc.intro (L := [some (.ref l0), some (.int l1), none]) (show plainName RX10 = true by decide) rfl (Nat.le_of_ble_eq_true rfl) ?_
  show Zt _ _ 0 0 _ _ _ _
  refine z_aload_n (q := 1) dX10_leave_0 rfl rfl rfl ?_
  refine z_iload_n (q := 2) dX10_leave_1 rfl rfl rfl ?_
  obtain ⟨g2, hF⟩ := hF
  refine z_callVI (rc := 0) (rs := 0) (b := l0) (av := [.int l1]) (ci := 10) (r := (RX10, TX10, 15)) (q := 5) hF dX10_leave_2 ml_X10_170 ok_X10_isMan in_X10_isMan se_X10_isMan rfl rfl g2 rfl (Nat.le_of_ble_eq_true rfl) (by decide) (Nat.le_of_ble_eq_true rfl) rfl rfl rfl rfl (fun x3 h1 hF => ?_)
  refine z_if_ne (t := 10) (q := 8) dX10_leave_5 (by decide) rfl (fun hc => ?_) (fun hc => ?_)
  · have hF := hF.1 hc
    refine z_aload_n (q := 11) dX10_leave_10 rfl rfl rfl ?_
    obtain ⟨g4, hF⟩ := hF
    obtain ⟨g5, hF⟩ := hF
    refine z_getR (c := 10) (k := 2) (r := (RX10, TX10, 15)) (q := 14) dX10_leave_11 rfl (by decide) fl_X10_23 rfl g4 g5 rfl ?_
    refine z_iload_n (q := 15) dX10_leave_14 rfl rfl rfl ?_
    obtain ⟨g6, hF⟩ := hF
    obtain ⟨g7, hF⟩ := hF
    obtain ⟨g8, hF⟩ := hF
    refine y_aald (kd := 24) (j := (Int32.toNatClampNeg l1)) (q := 16) dX10_leave_15 g6 (by decide) (by decide) rfl g7 rfl g8 rfl ?_
    obtain ⟨g9, hF⟩ := hF
    refine z_getI (c := 1) (k := 6) (r := (RX1, TX1, 7)) (q := 19) dX10_leave_16 rfl (by decide) fl_X10_191 rfl g9 rfl ?_
    refine z_nameI (fun v10 ev11 => ?_)
    have hF := hF v10 ev11
    refine z_istore_n (q := 20) (L' := [some (.ref l0), some (.int l1), some (.int v10)]) dX10_leave_19 rfl (Nat.le_of_ble_eq_true rfl) rfl rfl rfl ?_
    refine z_iload_n (q := 21) dX10_leave_20 rfl rfl rfl ?_
    refine z_iconst (q := 22) (v := 4) dX10_leave_21 (by decide) rfl ?_
    refine z_icmp_ne (t := 28) (q := 25) dX10_leave_22 (by decide) rfl (fun hc => ?_) (fun hc => ?_)
    · have hF := hF.1 hc
      refine z_aload_n (q := 29) dX10_leave_28 rfl rfl rfl ?_
      refine z_getR (c := 10) (k := 2) (r := (RX10, TX10, 15)) (q := 32) dX10_leave_29 rfl (by decide) fl_X10_23 rfl g4 g5 rfl ?_
      refine z_iload_n (q := 33) dX10_leave_32 rfl rfl rfl ?_
      refine y_aald (kd := 24) (j := (Int32.toNatClampNeg l1)) (q := 34) dX10_leave_33 g6 (by decide) (by decide) rfl g7 rfl g8 rfl ?_
      refine z_iconst (q := 35) (v := 4) dX10_leave_34 (by decide) rfl ?_
      refine z_callVV (rc := 0) (rs := 0) (b := (zR h1 (zR h1 l0 2) (Int32.toNatClampNeg l1))) (av := [.int 4]) (ci := 1) (r := (RX1, TX1, 7)) (q := 38) hF dX10_leave_35 ml_X10_194 ok_X1_quit in_X1_quit se_X1_quit rfl rfl g9 rfl (Nat.le_of_ble_eq_true rfl) (by decide) (Nat.le_of_ble_eq_true rfl) rfl rfl rfl rfl (fun h12 hF => ?_)
      refine z_iload_n (q := 39) dX10_leave_38 rfl rfl rfl ?_
      exact z_ireturn dX10_leave_39 rfl ⟨_, rfl, hF⟩
    · have hF := hF.2 hc
      refine z_bipush (q := 27) (v := (-5)) dX10_leave_25 (by decide) rfl ?_
      exact z_ireturn dX10_leave_27 rfl ⟨_, rfl, hF⟩
  · have hF := hF.2 hc
    refine z_iconst (q := 9) (v := (-1)) dX10_leave_8 (by decide) rfl ?_
    exact z_ireturn dX10_leave_9 rfl ⟨_, rfl, hF⟩
set_option maxRecDepth 100000 in
set_option maxHeartbeats 4000000 in
theorem wX10_posts {ψ : Int32 → ZH → Prop} {l0 : Nat} {l1 : Int32} {l2 : Int32} {l3 : Int32} {h : ZH} (hF : (zK h l0 = 11) ∧ ZcI mX10_isPit [.ref l0, .int l1] h (fun x3 h1 => ((¬ x3 = 0 → ZcI mX10_isTrade [.int l2] h1 (fun x5 h4 => ((x5 = 0 → ψ (-2) h4) ∧ (¬ x5 = 0 → ZcI mX10_isWithin [.int l3, .int 0, .int 9] h4 (fun x7 h6 => ((¬ x7 = 0 → (zK h6 l0 = 11) ∧ ((zR h6 l0 1) ≠ 0) ∧ (zK h6 (zR h6 l0 1) = 25) ∧ (vp_in l1 (zN h6 (zR h6 l0 1))) ∧ ((zR h6 (zR h6 l0 1) (Int32.toNatClampNeg l1)) ≠ 0) ∧ (zK h6 (zR h6 (zR h6 l0 1) (Int32.toNatClampNeg l1)) = 5) ∧ ((¬ (zI h6 (zR h6 (zR h6 l0 1) (Int32.toNatClampNeg l1)) 5) = 0 → ((zR h6 (zR h6 (zR h6 l0 1) (Int32.toNatClampNeg l1)) 4) ≠ 0) ∧ (zK h6 (zR h6 (zR h6 (zR h6 l0 1) (Int32.toNatClampNeg l1)) 4) = 20) ∧ (vp_in l2 (zN h6 (zR h6 (zR h6 (zR h6 l0 1) (Int32.toNatClampNeg l1)) 4))) ∧ ∀ v17 : Int32, v17 = (zI h6 (zR h6 (zR h6 (zR h6 l0 1) (Int32.toNatClampNeg l1)) 4) (Int32.toNatClampNeg l2)) → ψ v17 (zsI h6 (zR h6 (zR h6 (zR h6 l0 1) (Int32.toNatClampNeg l1)) 4) (Int32.toNatClampNeg l2) l3)) ∧ ((zI h6 (zR h6 (zR h6 l0 1) (Int32.toNatClampNeg l1)) 5) = 0 → ψ (-3) h6))) ∧ (x7 = 0 → ψ (-2) h6))))))) ∧ (x3 = 0 → ψ (-1) h1)))) : ZcI mX10_posts [.ref l0, .int l1, .int l2, .int l3] h ψ := by
  refine Zc.intro (L := [some (.ref l0), some (.int l1), some (.int l2), some (.int l3), none]) (show plainName RX10 = true by decide) rfl (Nat.le_of_ble_eq_true rfl) ?_
  show Zt _ _ 0 0 _ _ _ _
  refine z_aload_n (q := 1) dX10_posts_0 rfl rfl rfl ?_
  refine z_iload_n (q := 2) dX10_posts_1 rfl rfl rfl ?_
  obtain ⟨g2, hF⟩ := hF
  refine z_callVI (rc := 0) (rs := 0) (b := l0) (av := [.int l1]) (ci := 10) (r := (RX10, TX10, 15)) (q := 5) hF dX10_posts_2 ml_X10_120 ok_X10_isPit in_X10_isPit se_X10_isPit rfl rfl g2 rfl (Nat.le_of_ble_eq_true rfl) (by decide) (Nat.le_of_ble_eq_true rfl) rfl rfl rfl rfl (fun x3 h1 hF => ?_)
  refine z_if_ne (t := 10) (q := 8) dX10_posts_5 (by decide) rfl (fun hc => ?_) (fun hc => ?_)
  · have hF := hF.1 hc
    refine z_iload_n (q := 11) dX10_posts_10 rfl rfl rfl ?_
    refine z_callSI (rc := 0) (rs := 0) (av := [.int l2]) (q := 14) hF dX10_posts_11 ml_X10_161 ok_X10_isTrade st_X10_isTrade rfl (Nat.le_of_ble_eq_true rfl) (by decide) (Nat.le_of_ble_eq_true rfl) rfl rfl rfl rfl (fun x5 h4 hF => ?_)
    refine z_if_eq (t := 27) (q := 17) dX10_posts_14 (by decide) rfl (fun hc => ?_) (fun hc => ?_)
    · have hF := hF.1 hc
      refine z_bipush (q := 29) (v := (-2)) dX10_posts_27 (by decide) rfl ?_
      exact z_ireturn dX10_posts_29 rfl ⟨_, rfl, hF⟩
    · have hF := hF.2 hc
      refine z_iload_n (q := 18) dX10_posts_17 rfl rfl rfl ?_
      refine z_iconst (q := 19) (v := 0) dX10_posts_18 (by decide) rfl ?_
      refine z_bipush (q := 21) (v := 9) dX10_posts_19 (by decide) rfl ?_
      refine z_callSI (rc := 0) (rs := 0) (av := [.int l3, .int 0, .int 9]) (q := 24) hF dX10_posts_21 ml_X10_106 ok_X10_isWithin st_X10_isWithin rfl (Nat.le_of_ble_eq_true rfl) (by decide) (Nat.le_of_ble_eq_true rfl) rfl rfl rfl rfl (fun x7 h6 hF => ?_)
      refine z_if_ne (t := 30) (q := 27) dX10_posts_24 (by decide) rfl (fun hc => ?_) (fun hc => ?_)
      · have hF := hF.1 hc
        refine z_aload_n (q := 31) dX10_posts_30 rfl rfl rfl ?_
        obtain ⟨g8, hF⟩ := hF
        obtain ⟨g9, hF⟩ := hF
        refine z_getR (c := 10) (k := 1) (r := (RX10, TX10, 15)) (q := 34) dX10_posts_31 rfl (by decide) fl_X10_17 rfl g8 g9 rfl ?_
        refine z_iload_n (q := 35) dX10_posts_34 rfl rfl rfl ?_
        obtain ⟨g10, hF⟩ := hF
        obtain ⟨g11, hF⟩ := hF
        obtain ⟨g12, hF⟩ := hF
        refine y_aald (kd := 25) (j := (Int32.toNatClampNeg l1)) (q := 36) dX10_posts_35 g10 (by decide) (by decide) rfl g11 rfl g12 rfl ?_
        obtain ⟨g13, hF⟩ := hF
        refine z_getI (c := 4) (k := 5) (r := (RX4, TX4, 8)) (q := 39) dX10_posts_36 rfl (by decide) fl_X10_136 rfl g13 rfl ?_
        refine z_if_ne (t := 45) (q := 42) dX10_posts_39 (by decide) rfl (fun hc => ?_) (fun hc => ?_)
        · have hF := hF.1 hc
          refine z_aload_n (q := 46) dX10_posts_45 rfl rfl rfl ?_
          refine z_getR (c := 10) (k := 1) (r := (RX10, TX10, 15)) (q := 49) dX10_posts_46 rfl (by decide) fl_X10_17 rfl g8 g9 rfl ?_
          refine z_iload_n (q := 50) dX10_posts_49 rfl rfl rfl ?_
          refine y_aald (kd := 25) (j := (Int32.toNatClampNeg l1)) (q := 51) dX10_posts_50 g10 (by decide) (by decide) rfl g11 rfl g12 rfl ?_
          obtain ⟨g14, hF⟩ := hF
          refine z_getR (c := 4) (k := 4) (r := (RX4, TX4, 8)) (q := 54) dX10_posts_51 rfl (by decide) fl_X10_158 rfl g13 g14 rfl ?_
          refine z_iload_n (q := 55) dX10_posts_54 rfl rfl rfl ?_
          obtain ⟨g15, hF⟩ := hF
          obtain ⟨g16, hF⟩ := hF
          refine y_iald (j := (Int32.toNatClampNeg l2)) (q := 56) dX10_posts_55 (Or.inl g15) g16 rfl rfl ?_
          refine z_nameI (fun v17 ev18 => ?_)
          have hF := hF v17 ev18
          refine z_istore (q := 58) (L' := [some (.ref l0), some (.int l1), some (.int l2), some (.int l3), some (.int v17)]) dX10_posts_56 (Nat.le_of_ble_eq_true rfl) rfl rfl rfl ?_
          refine z_aload_n (q := 59) dX10_posts_58 rfl rfl rfl ?_
          refine z_getR (c := 10) (k := 1) (r := (RX10, TX10, 15)) (q := 62) dX10_posts_59 rfl (by decide) fl_X10_17 rfl g8 g9 rfl ?_
          refine z_iload_n (q := 63) dX10_posts_62 rfl rfl rfl ?_
          refine y_aald (kd := 25) (j := (Int32.toNatClampNeg l1)) (q := 64) dX10_posts_63 g10 (by decide) (by decide) rfl g11 rfl g12 rfl ?_
          refine z_getR (c := 4) (k := 4) (r := (RX4, TX4, 8)) (q := 67) dX10_posts_64 rfl (by decide) fl_X10_158 rfl g13 g14 rfl ?_
          refine z_iload_n (q := 68) dX10_posts_67 rfl rfl rfl ?_
          refine z_iload_n (q := 69) dX10_posts_68 rfl rfl rfl ?_
          refine y_iast (j := (Int32.toNatClampNeg l2)) (q := 70) dX10_posts_69 g15 g16 rfl rfl ?_
          refine z_iload (q := 72) dX10_posts_70 rfl rfl ?_
          exact z_ireturn dX10_posts_72 rfl ⟨_, rfl, hF⟩
        · have hF := hF.2 hc
          refine z_bipush (q := 44) (v := (-3)) dX10_posts_42 (by decide) rfl ?_
          exact z_ireturn dX10_posts_44 rfl ⟨_, rfl, hF⟩
      · have hF := hF.2 hc
        refine z_bipush (q := 29) (v := (-2)) dX10_posts_27 (by decide) rfl ?_
        exact z_ireturn dX10_posts_29 rfl ⟨_, rfl, hF⟩
  · have hF := hF.2 hc
    refine z_iconst (q := 9) (v := (-1)) dX10_posts_8 (by decide) rfl ?_
    exact z_ireturn dX10_posts_9 rfl ⟨_, rfl, hF⟩
set_option maxRecDepth 100000 in
set_option maxHeartbeats 4000000 in
theorem wX10_set {ψ : Int32 → ZH → Prop} {l0 : Nat} {l1 : Int32} {l2 : Int32} {h : ZH} (hF : (zK h l0 = 11) ∧ ((zR h l0 4) ≠ 0) ∧ (zK h (zR h l0 4) = 20) ∧ ZcI mX10_isWithin [.int l1, .int 0, .int ((Int32.ofNat (zN h (zR h l0 4))) - 1)] h (fun x5 h4 => ((x5 = 0 → ψ (-2) h4) ∧ (¬ x5 = 0 → (zK h4 2 = 20 ∨ zK h4 2 = 30) ∧ (vp_in l1 (zN h4 2)) ∧ (zK h4 3 = 20 ∨ zK h4 3 = 30) ∧ (vp_in l1 (zN h4 3)) ∧ ZcI mX10_isWithin [.int l2, .int (zI h4 2 (Int32.toNatClampNeg l1)), .int (zI h4 3 (Int32.toNatClampNeg l1))] h4 (fun x11 h10 => ((¬ x11 = 0 → (zK h10 l0 = 11) ∧ ((zR h10 l0 4) ≠ 0) ∧ (zK h10 (zR h10 l0 4) = 20) ∧ (vp_in l1 (zN h10 (zR h10 l0 4))) ∧ ∀ v16 : Int32, v16 = (zI h10 (zR h10 l0 4) (Int32.toNatClampNeg l1)) → ψ v16 (zsI h10 (zR h10 l0 4) (Int32.toNatClampNeg l1) l2)) ∧ (x11 = 0 → ψ (-2) h10))))))) : ZcI mX10_set [.ref l0, .int l1, .int l2] h ψ := by
  refine Zc.intro (L := [some (.ref l0), some (.int l1), some (.int l2), none]) (show plainName RX10 = true by decide) rfl (Nat.le_of_ble_eq_true rfl) ?_
  show Zt _ _ 0 0 _ _ _ _
  refine z_iload_n (q := 1) dX10_set_0 rfl rfl rfl ?_
  refine z_iconst (q := 2) (v := 0) dX10_set_1 (by decide) rfl ?_
  refine z_aload_n (q := 3) dX10_set_2 rfl rfl rfl ?_
  obtain ⟨g1, hF⟩ := hF
  obtain ⟨g2, hF⟩ := hF
  refine z_getR (c := 10) (k := 4) (r := (RX10, TX10, 15)) (q := 6) dX10_set_3 rfl (by decide) fl_X10_37 rfl g1 g2 rfl ?_
  obtain ⟨g3, hF⟩ := hF
  refine y_alen (kd := 20) (q := 7) dX10_set_6 g3 (by decide) (by decide) rfl ?_
  refine z_iconst (q := 8) (v := 1) dX10_set_7 (by decide) rfl ?_
  refine z_isub (q := 9) dX10_set_8 rfl ?_
  refine z_callSI (rc := 0) (rs := 0) (av := [.int l1, .int 0, .int ((Int32.ofNat (zN h (zR h l0 4))) - 1)]) (q := 12) hF dX10_set_9 ml_X10_106 ok_X10_isWithin st_X10_isWithin rfl (Nat.le_of_ble_eq_true rfl) (by decide) (Nat.le_of_ble_eq_true rfl) rfl rfl rfl rfl (fun x5 h4 hF => ?_)
  refine z_if_eq (t := 32) (q := 15) dX10_set_12 (by decide) rfl (fun hc => ?_) (fun hc => ?_)
  · have hF := hF.1 hc
    refine z_bipush (q := 34) (v := (-2)) dX10_set_32 (by decide) rfl ?_
    exact z_ireturn dX10_set_34 rfl ⟨_, rfl, hF⟩
  · have hF := hF.2 hc
    refine z_iload_n (q := 16) dX10_set_15 rfl rfl rfl ?_
    refine z_getst (q := 19) (a := 2) (f := "LEAST") dX10_set_16 (by simp [zst]) sw_X10_197 rfl ?_
    refine z_iload_n (q := 20) dX10_set_19 rfl rfl rfl ?_
    obtain ⟨g6, hF⟩ := hF
    obtain ⟨g7, hF⟩ := hF
    refine y_iald (j := (Int32.toNatClampNeg l1)) (q := 21) dX10_set_20 g6 g7 rfl rfl ?_
    refine z_getst (q := 24) (a := 3) (f := "MOST") dX10_set_21 (by simp [zst]) sw_X10_200 rfl ?_
    refine z_iload_n (q := 25) dX10_set_24 rfl rfl rfl ?_
    obtain ⟨g8, hF⟩ := hF
    obtain ⟨g9, hF⟩ := hF
    refine y_iald (j := (Int32.toNatClampNeg l1)) (q := 26) dX10_set_25 g8 g9 rfl rfl ?_
    refine z_callSI (rc := 0) (rs := 0) (av := [.int l2, .int (zI h4 2 (Int32.toNatClampNeg l1)), .int (zI h4 3 (Int32.toNatClampNeg l1))]) (q := 29) hF dX10_set_26 ml_X10_106 ok_X10_isWithin st_X10_isWithin rfl (Nat.le_of_ble_eq_true rfl) (by decide) (Nat.le_of_ble_eq_true rfl) rfl rfl rfl rfl (fun x11 h10 hF => ?_)
    refine z_if_ne (t := 35) (q := 32) dX10_set_29 (by decide) rfl (fun hc => ?_) (fun hc => ?_)
    · have hF := hF.1 hc
      refine z_aload_n (q := 36) dX10_set_35 rfl rfl rfl ?_
      obtain ⟨g12, hF⟩ := hF
      obtain ⟨g13, hF⟩ := hF
      refine z_getR (c := 10) (k := 4) (r := (RX10, TX10, 15)) (q := 39) dX10_set_36 rfl (by decide) fl_X10_37 rfl g12 g13 rfl ?_
      refine z_iload_n (q := 40) dX10_set_39 rfl rfl rfl ?_
      obtain ⟨g14, hF⟩ := hF
      obtain ⟨g15, hF⟩ := hF
      refine y_iald (j := (Int32.toNatClampNeg l1)) (q := 41) dX10_set_40 (Or.inl g14) g15 rfl rfl ?_
      refine z_nameI (fun v16 ev17 => ?_)
      have hF := hF v16 ev17
      refine z_istore_n (q := 42) (L' := [some (.ref l0), some (.int l1), some (.int l2), some (.int v16)]) dX10_set_41 rfl (Nat.le_of_ble_eq_true rfl) rfl rfl rfl ?_
      refine z_aload_n (q := 43) dX10_set_42 rfl rfl rfl ?_
      refine z_getR (c := 10) (k := 4) (r := (RX10, TX10, 15)) (q := 46) dX10_set_43 rfl (by decide) fl_X10_37 rfl g12 g13 rfl ?_
      refine z_iload_n (q := 47) dX10_set_46 rfl rfl rfl ?_
      refine z_iload_n (q := 48) dX10_set_47 rfl rfl rfl ?_
      refine y_iast (j := (Int32.toNatClampNeg l1)) (q := 49) dX10_set_48 g14 g15 rfl rfl ?_
      refine z_iload_n (q := 50) dX10_set_49 rfl rfl rfl ?_
      exact z_ireturn dX10_set_50 rfl ⟨_, rfl, hF⟩
    · have hF := hF.2 hc
      refine z_bipush (q := 34) (v := (-2)) dX10_set_32 (by decide) rfl ?_
      exact z_ireturn dX10_set_34 rfl ⟨_, rfl, hF⟩
set_option maxRecDepth 100000 in
set_option maxHeartbeats 4000000 in
theorem wX10_year_4 {ψ : Int32 → ZH → Prop} {l0 : Nat} {l1 : Int32} {l2 : Int32} {h : ZH} (hF : (zK h l0 = 11) ∧ (((zI h l0 13) ≤ l2 → ψ l1 h) ∧ (¬ (zI h l0 13) ≤ l2 → ((zR h l0 2) ≠ 0) ∧ (zK h (zR h l0 2) = 24) ∧ (vp_in l2 (zN h (zR h l0 2))) ∧ ((zR h (zR h l0 2) (Int32.toNatClampNeg l2)) ≠ 0) ∧ ((zR h l0 4) ≠ 0) ∧ (zK h (zR h l0 4) = 20) ∧ (0 < zN h (zR h l0 4)) ∧ (zK h (zR h (zR h l0 2) (Int32.toNatClampNeg l2)) = 2) ∧ ZcI mX1_growOlder [.ref (zR h (zR h l0 2) (Int32.toNatClampNeg l2)), .int (zI h (zR h l0 4) 0)] h (fun x11 h9 => ((x11 = 0 → Zt mX10_year (zPI ψ) 0 0 4 [some (.ref l0), some (.int l1), some (.int (l2 + 1))] [] h9) ∧ (¬ x11 = 0 → Zt mX10_year (zPI ψ) 0 0 4 [some (.ref l0), some (.int (l1 + 1)), some (.int (l2 + 1))] [] h9)))))) : Zt mX10_year (zPI ψ) 0 0 4 [some (.ref l0), some (.int l1), some (.int l2)] [] h := by
  refine z_iload_n (q := 5) dX10_year_4 rfl rfl rfl ?_
  refine z_aload_n (q := 6) dX10_year_5 rfl rfl rfl ?_
  obtain ⟨g1, hF⟩ := hF
  refine z_getI (c := 10) (k := 13) (r := (RX10, TX10, 15)) (q := 9) dX10_year_6 rfl (by decide) fl_X10_164 rfl g1 rfl ?_
  refine z_icmp_ge (t := 39) (q := 12) dX10_year_9 (by decide) rfl (fun hc => ?_) (fun hc => ?_)
  · have hF := hF.1 hc
    refine z_iload_n (q := 40) dX10_year_39 rfl rfl rfl ?_
    exact z_ireturn dX10_year_40 rfl ⟨_, rfl, hF⟩
  · have hF := hF.2 hc
    refine z_aload_n (q := 13) dX10_year_12 rfl rfl rfl ?_
    obtain ⟨g2, hF⟩ := hF
    refine z_getR (c := 10) (k := 2) (r := (RX10, TX10, 15)) (q := 16) dX10_year_13 rfl (by decide) fl_X10_23 rfl g1 g2 rfl ?_
    refine z_iload_n (q := 17) dX10_year_16 rfl rfl rfl ?_
    obtain ⟨g3, hF⟩ := hF
    obtain ⟨g4, hF⟩ := hF
    obtain ⟨g5, hF⟩ := hF
    refine y_aald (kd := 24) (j := (Int32.toNatClampNeg l2)) (q := 18) dX10_year_17 g3 (by decide) (by decide) rfl g4 rfl g5 rfl ?_
    refine z_aload_n (q := 19) dX10_year_18 rfl rfl rfl ?_
    obtain ⟨g6, hF⟩ := hF
    refine z_getR (c := 10) (k := 4) (r := (RX10, TX10, 15)) (q := 22) dX10_year_19 rfl (by decide) fl_X10_37 rfl g1 g6 rfl ?_
    refine z_iconst (q := 23) (v := 0) dX10_year_22 (by decide) rfl ?_
    obtain ⟨g7, hF⟩ := hF
    obtain ⟨g8, hF⟩ := hF
    refine y_iald (j := 0) (q := 24) dX10_year_23 (Or.inl g7) (zvin (by decide) (by decide) g8) (by decide) rfl ?_
    obtain ⟨g10, hF⟩ := hF
    refine z_callVI (rc := 0) (rs := 0) (b := (zR h (zR h l0 2) (Int32.toNatClampNeg l2))) (av := [.int (zI h (zR h l0 4) 0)]) (ci := 1) (r := (RX1, TX1, 7)) (q := 27) hF dX10_year_24 ml_X10_203 ok_X1_growOlder in_X1_growOlder se_X1_growOlder rfl rfl g10 rfl (Nat.le_of_ble_eq_true rfl) (by decide) (Nat.le_of_ble_eq_true rfl) rfl rfl rfl rfl (fun x11 h9 hF => ?_)
    refine z_if_eq (t := 33) (q := 30) dX10_year_27 (by decide) rfl (fun hc => ?_) (fun hc => ?_)
    · have hF := hF.1 hc
      refine z_iinc (q := 36) (v := (l2 + 1)) (L' := [some (.ref l0), some (.int l1), some (.int (l2 + 1))]) dX10_year_33 rfl rfl (Nat.le_of_ble_eq_true rfl) rfl rfl rfl ?_
      refine z_goto (q := 4) dX10_year_36 (by decide) ?_
      exact hF
    · have hF := hF.2 hc
      refine z_iinc (q := 33) (v := (l1 + 1)) (L' := [some (.ref l0), some (.int (l1 + 1)), some (.int l2)]) dX10_year_30 rfl rfl (Nat.le_of_ble_eq_true rfl) rfl rfl rfl ?_
      refine z_iinc (q := 36) (v := (l2 + 1)) (L' := [some (.ref l0), some (.int (l1 + 1)), some (.int (l2 + 1))]) dX10_year_33 rfl rfl (Nat.le_of_ble_eq_true rfl) rfl rfl rfl ?_
      refine z_goto (q := 4) dX10_year_36 (by decide) ?_
      exact hF
set_option maxRecDepth 100000 in
set_option maxHeartbeats 4000000 in
theorem wX10_year {ψ : Int32 → ZH → Prop} {l0 : Nat} {h : ZH} (hF : Zt mX10_year (zPI ψ) 0 0 4 [some (.ref l0), some (.int 0), some (.int 0)] [] h) : ZcI mX10_year [.ref l0] h ψ := by
  refine Zc.intro (L := [some (.ref l0), none, none]) (show plainName RX10 = true by decide) rfl (Nat.le_of_ble_eq_true rfl) ?_
  show Zt _ _ 0 0 _ _ _ _
  refine z_iconst (q := 1) (v := 0) dX10_year_0 (by decide) rfl ?_
  refine z_istore_n (q := 2) (L' := [some (.ref l0), some (.int 0), none]) dX10_year_1 rfl (Nat.le_of_ble_eq_true rfl) rfl rfl rfl ?_
  refine z_iconst (q := 3) (v := 0) dX10_year_2 (by decide) rfl ?_
  refine z_istore_n (q := 4) (L' := [some (.ref l0), some (.int 0), some (.int 0)]) dX10_year_3 rfl (Nat.le_of_ble_eq_true rfl) rfl rfl rfl ?_
  exact hF
set_option maxRecDepth 100000 in
set_option maxHeartbeats 4000000 in
theorem wX10_say {ψ : Int32 → ZH → Prop} {l0 : Nat} {l1 : Int32} {h : ZH} (hF : ZcI mX10_isWithin [.int l1, .int 33, .int 126] h (fun x2 h1 => ((¬ x2 = 0 → (zK h1 l0 = 11) ∧ ((zR h1 l0 5) ≠ 0) ∧ (zK h1 (zR h1 l0 5) = 9) ∧ ZcI mX8_add [.ref (zR h1 l0 5), .int l1] h1 (fun x7 h5 => ((¬ x7 = 0 → (zK h5 l0 = 11) ∧ ((zR h5 l0 5) ≠ 0) ∧ (zK h5 (zR h5 l0 5) = 9) ∧ ψ (zI h5 (zR h5 l0 5) 1) h5) ∧ (x7 = 0 → ψ (-4) h5)))) ∧ (x2 = 0 → ψ (-2) h1)))) : ZcI mX10_say [.ref l0, .int l1] h ψ := by
  refine Zc.intro (L := [some (.ref l0), some (.int l1)]) (show plainName RX10 = true by decide) rfl (Nat.le_of_ble_eq_true rfl) ?_
  show Zt _ _ 0 0 _ _ _ _
  refine z_iload_n (q := 1) dX10_say_0 rfl rfl rfl ?_
  refine z_bipush (q := 3) (v := 33) dX10_say_1 (by decide) rfl ?_
  refine z_bipush (q := 5) (v := 126) dX10_say_3 (by decide) rfl ?_
  refine z_callSI (rc := 0) (rs := 0) (av := [.int l1, .int 33, .int 126]) (q := 8) hF dX10_say_5 ml_X10_106 ok_X10_isWithin st_X10_isWithin rfl (Nat.le_of_ble_eq_true rfl) (by decide) (Nat.le_of_ble_eq_true rfl) rfl rfl rfl rfl (fun x2 h1 hF => ?_)
  refine z_if_ne (t := 14) (q := 11) dX10_say_8 (by decide) rfl (fun hc => ?_) (fun hc => ?_)
  · have hF := hF.1 hc
    refine z_aload_n (q := 15) dX10_say_14 rfl rfl rfl ?_
    obtain ⟨g3, hF⟩ := hF
    obtain ⟨g4, hF⟩ := hF
    refine z_getR (c := 10) (k := 5) (r := (RX10, TX10, 15)) (q := 18) dX10_say_15 rfl (by decide) fl_X10_43 rfl g3 g4 rfl ?_
    refine z_iload_n (q := 19) dX10_say_18 rfl rfl rfl ?_
    obtain ⟨g6, hF⟩ := hF
    refine z_callVI (rc := 0) (rs := 0) (b := (zR h1 l0 5)) (av := [.int l1]) (ci := 8) (r := (RX8, TX8, 2)) (q := 22) hF dX10_say_19 ml_X10_206 ok_X8_add in_X8_add se_X8_add rfl rfl g6 rfl (Nat.le_of_ble_eq_true rfl) (by decide) (Nat.le_of_ble_eq_true rfl) rfl rfl rfl rfl (fun x7 h5 hF => ?_)
    refine z_if_ne (t := 28) (q := 25) dX10_say_22 (by decide) rfl (fun hc => ?_) (fun hc => ?_)
    · have hF := hF.1 hc
      refine z_aload_n (q := 29) dX10_say_28 rfl rfl rfl ?_
      obtain ⟨g8, hF⟩ := hF
      obtain ⟨g9, hF⟩ := hF
      refine z_getR (c := 10) (k := 5) (r := (RX10, TX10, 15)) (q := 32) dX10_say_29 rfl (by decide) fl_X10_43 rfl g8 g9 rfl ?_
      obtain ⟨g10, hF⟩ := hF
      refine z_getI (c := 8) (k := 1) (r := (RX8, TX8, 2)) (q := 35) dX10_say_32 rfl (by decide) fl_X10_209 rfl g10 rfl ?_
      exact z_ireturn dX10_say_35 rfl ⟨_, rfl, hF⟩
    · have hF := hF.2 hc
      refine z_bipush (q := 27) (v := (-4)) dX10_say_25 (by decide) rfl ?_
      exact z_ireturn dX10_say_27 rfl ⟨_, rfl, hF⟩
  · have hF := hF.2 hc
    refine z_bipush (q := 13) (v := (-2)) dX10_say_11 (by decide) rfl ?_
    exact z_ireturn dX10_say_13 rfl ⟨_, rfl, hF⟩
set_option maxRecDepth 100000 in
set_option maxHeartbeats 4000000 in
theorem wX10_wipe {ψ : Int32 → ZH → Prop} {l0 : Nat} {h : ZH} (hF : (zK h l0 = 11) ∧ ((zR h l0 5) ≠ 0) ∧ (zK h (zR h l0 5) = 9) ∧ ψ (zI h (zR h l0 5) 1) (zsI h (zR h l0 5) 1 0)) : ZcI mX10_wipe [.ref l0] h ψ := by
  refine Zc.intro (L := [some (.ref l0), none]) (show plainName RX10 = true by decide) rfl (Nat.le_of_ble_eq_true rfl) ?_
  show Zt _ _ 0 0 _ _ _ _
  refine z_aload_n (q := 1) dX10_wipe_0 rfl rfl rfl ?_
  obtain ⟨g1, hF⟩ := hF
  obtain ⟨g2, hF⟩ := hF
  refine z_getR (c := 10) (k := 5) (r := (RX10, TX10, 15)) (q := 4) dX10_wipe_1 rfl (by decide) fl_X10_43 rfl g1 g2 rfl ?_
  obtain ⟨g3, hF⟩ := hF
  refine z_getI (c := 8) (k := 1) (r := (RX8, TX8, 2)) (q := 7) dX10_wipe_4 rfl (by decide) fl_X10_209 rfl g3 rfl ?_
  refine z_istore_n (q := 8) (L' := [some (.ref l0), some (.int (zI h (zR h l0 5) 1))]) dX10_wipe_7 rfl (Nat.le_of_ble_eq_true rfl) rfl rfl rfl ?_
  refine z_aload_n (q := 9) dX10_wipe_8 rfl rfl rfl ?_
  refine z_getR (c := 10) (k := 5) (r := (RX10, TX10, 15)) (q := 12) dX10_wipe_9 rfl (by decide) fl_X10_43 rfl g1 g2 rfl ?_
  refine z_iconst (q := 13) (v := 0) dX10_wipe_12 (by decide) rfl ?_
  refine z_putI (c := 8) (k := 1) (r := (RX8, TX8, 2)) (q := 16) dX10_wipe_13 rfl (by decide) fl_X10_209 rfl rfl g3 rfl ?_
  refine z_iload_n (q := 17) dX10_wipe_16 rfl rfl rfl ?_
  exact z_ireturn dX10_wipe_17 rfl ⟨_, rfl, hF⟩
set_option maxRecDepth 100000 in
set_option maxHeartbeats 4000000 in
theorem wX10_fault {ψ : Int32 → ZH → Prop} {l0 : Nat} {h : ZH} (hF : (zK h l0 = 11) ∧ ((zR h l0 5) ≠ 0) ∧ (zK h (zR h l0 5) = 9) ∧ ZcI mX8_firstFault [.ref (zR h l0 5)] h (fun x5 h3 => ψ x5 h3)) : ZcI mX10_fault [.ref l0] h ψ := by
  refine Zc.intro (L := [some (.ref l0)]) (show plainName RX10 = true by decide) rfl (Nat.le_of_ble_eq_true rfl) ?_
  show Zt _ _ 0 0 _ _ _ _
  refine z_aload_n (q := 1) dX10_fault_0 rfl rfl rfl ?_
  obtain ⟨g1, hF⟩ := hF
  obtain ⟨g2, hF⟩ := hF
  refine z_getR (c := 10) (k := 5) (r := (RX10, TX10, 15)) (q := 4) dX10_fault_1 rfl (by decide) fl_X10_43 rfl g1 g2 rfl ?_
  obtain ⟨g4, hF⟩ := hF
  refine z_callVI (rc := 0) (rs := 0) (b := (zR h l0 5)) (av := []) (ci := 8) (r := (RX8, TX8, 2)) (q := 7) hF dX10_fault_4 ml_X10_212 ok_X8_firstFault in_X8_firstFault se_X8_firstFault rfl rfl g4 rfl (Nat.le_of_ble_eq_true rfl) (by decide) (Nat.le_of_ble_eq_true rfl) rfl rfl rfl rfl (fun x5 h3 hF => ?_)
  exact z_ireturn dX10_fault_7 rfl ⟨_, rfl, hF⟩
set_option maxRecDepth 100000 in
set_option maxHeartbeats 4000000 in
theorem wX10_rule {ψ : Int32 → ZH → Prop} {l0 : Nat} {l1 : Int32} {h : ZH} (hF : ZcI mX10_isRule [.int l1] h (fun x2 h1 => ((¬ x2 = 0 → (zK h1 l0 = 11) ∧ ((zR h1 l0 5) ≠ 0) ∧ (zK h1 (zR h1 l0 5) = 9) ∧ ZcI mX8_firstFault [.ref (zR h1 l0 5)] h1 (fun x7 h5 => ((x7 = (-6) → (zK h5 l0 = 11) ∧ ((zR h5 l0 6) ≠ 0) ∧ (zK h5 (zR h5 l0 6) = 27) ∧ (vp_in l1 (zN h5 (zR h5 l0 6))) ∧ ((zR h5 (zR h5 l0 6) (Int32.toNatClampNeg l1)) ≠ 0) ∧ (zK h5 (zR h5 (zR h5 l0 6) (Int32.toNatClampNeg l1)) = 9) ∧ ((¬ (zI h5 (zR h5 (zR h5 l0 6) (Int32.toNatClampNeg l1)) 1) = 0 → ZcI mX10_asOne [.int 0] h5 (fun x15 h14 => (zK h14 l0 = 11) ∧ ((zR h14 l0 6) ≠ 0) ∧ (zK h14 (zR h14 l0 6) = 27) ∧ (vp_in l1 (zN h14 (zR h14 l0 6))) ∧ ((zR h14 (zR h14 l0 6) (Int32.toNatClampNeg l1)) ≠ 0) ∧ ((zR h14 l0 5) ≠ 0) ∧ (zK h14 (zR h14 (zR h14 l0 6) (Int32.toNatClampNeg l1)) = 9) ∧ ZcV mX8_copyFrom [.ref (zR h14 (zR h14 l0 6) (Int32.toNatClampNeg l1)), .ref (zR h14 l0 5)] h14 (fun h22 => (zK h22 l0 = 11) ∧ ((zR h22 l0 5) ≠ 0) ∧ (zK h22 (zR h22 l0 5) = 9) ∧ ψ x15 (zsI h22 (zR h22 l0 5) 1 0)))) ∧ ((zI h5 (zR h5 (zR h5 l0 6) (Int32.toNatClampNeg l1)) 1) = 0 → ZcI mX10_asOne [.int 1] h5 (fun x28 h27 => (zK h27 l0 = 11) ∧ ((zR h27 l0 6) ≠ 0) ∧ (zK h27 (zR h27 l0 6) = 27) ∧ (vp_in l1 (zN h27 (zR h27 l0 6))) ∧ ((zR h27 (zR h27 l0 6) (Int32.toNatClampNeg l1)) ≠ 0) ∧ ((zR h27 l0 5) ≠ 0) ∧ (zK h27 (zR h27 (zR h27 l0 6) (Int32.toNatClampNeg l1)) = 9) ∧ ZcV mX8_copyFrom [.ref (zR h27 (zR h27 l0 6) (Int32.toNatClampNeg l1)), .ref (zR h27 l0 5)] h27 (fun h35 => (zK h35 l0 = 11) ∧ ((zR h35 l0 5) ≠ 0) ∧ (zK h35 (zR h35 l0 5) = 9) ∧ ψ x28 (zsI h35 (zR h35 l0 5) 1 0)))))) ∧ (¬ x7 = (-6) → ψ (-5) h5)))) ∧ (x2 = 0 → ψ (-2) h1)))) : ZcI mX10_rule [.ref l0, .int l1] h ψ := by
  refine Zc.intro (L := [some (.ref l0), some (.int l1), none]) (show plainName RX10 = true by decide) rfl (Nat.le_of_ble_eq_true rfl) ?_
  show Zt _ _ 0 0 _ _ _ _
  refine z_iload_n (q := 1) dX10_rule_0 rfl rfl rfl ?_
  refine z_callSI (rc := 0) (rs := 0) (av := [.int l1]) (q := 4) hF dX10_rule_1 ml_X10_216 ok_X10_isRule st_X10_isRule rfl (Nat.le_of_ble_eq_true rfl) (by decide) (Nat.le_of_ble_eq_true rfl) rfl rfl rfl rfl (fun x2 h1 hF => ?_)
  refine z_if_ne (t := 10) (q := 7) dX10_rule_4 (by decide) rfl (fun hc => ?_) (fun hc => ?_)
  · have hF := hF.1 hc
    refine z_aload_n (q := 11) dX10_rule_10 rfl rfl rfl ?_
    obtain ⟨g3, hF⟩ := hF
    obtain ⟨g4, hF⟩ := hF
    refine z_getR (c := 10) (k := 5) (r := (RX10, TX10, 15)) (q := 14) dX10_rule_11 rfl (by decide) fl_X10_43 rfl g3 g4 rfl ?_
    obtain ⟨g6, hF⟩ := hF
    refine z_callVI (rc := 0) (rs := 0) (b := (zR h1 l0 5)) (av := []) (ci := 8) (r := (RX8, TX8, 2)) (q := 17) hF dX10_rule_14 ml_X10_212 ok_X8_firstFault in_X8_firstFault se_X8_firstFault rfl rfl g6 rfl (Nat.le_of_ble_eq_true rfl) (by decide) (Nat.le_of_ble_eq_true rfl) rfl rfl rfl rfl (fun x7 h5 hF => ?_)
    refine z_bipush (q := 19) (v := (-6)) dX10_rule_17 (by decide) rfl ?_
    refine z_icmp_eq (t := 25) (q := 22) dX10_rule_19 (by decide) rfl (fun hc => ?_) (fun hc => ?_)
    · have hF := hF.1 hc
      refine z_aload_n (q := 26) dX10_rule_25 rfl rfl rfl ?_
      obtain ⟨g8, hF⟩ := hF
      obtain ⟨g9, hF⟩ := hF
      refine z_getR (c := 10) (k := 6) (r := (RX10, TX10, 15)) (q := 29) dX10_rule_26 rfl (by decide) fl_X10_47 rfl g8 g9 rfl ?_
      refine z_iload_n (q := 30) dX10_rule_29 rfl rfl rfl ?_
      obtain ⟨g10, hF⟩ := hF
      obtain ⟨g11, hF⟩ := hF
      obtain ⟨g12, hF⟩ := hF
      refine y_aald (kd := 27) (j := (Int32.toNatClampNeg l1)) (q := 31) dX10_rule_30 g10 (by decide) (by decide) rfl g11 rfl g12 rfl ?_
      obtain ⟨g13, hF⟩ := hF
      refine z_getI (c := 8) (k := 1) (r := (RX8, TX8, 2)) (q := 34) dX10_rule_31 rfl (by decide) fl_X10_209 rfl g13 rfl ?_
      refine z_if_ne (t := 41) (q := 37) dX10_rule_34 (by decide) rfl (fun hc => ?_) (fun hc => ?_)
      · have hF := hF.1 hc
        refine z_iconst (q := 42) (v := 0) dX10_rule_41 (by decide) rfl ?_
        refine z_callSI (rc := 0) (rs := 0) (av := [.int 0]) (q := 45) hF dX10_rule_42 ml_X10_140 ok_X10_asOne st_X10_asOne rfl (Nat.le_of_ble_eq_true rfl) (by decide) (Nat.le_of_ble_eq_true rfl) rfl rfl rfl rfl (fun x15 h14 hF => ?_)
        refine z_istore_n (q := 46) (L' := [some (.ref l0), some (.int l1), some (.int x15)]) dX10_rule_45 rfl (Nat.le_of_ble_eq_true rfl) rfl rfl rfl ?_
        refine z_aload_n (q := 47) dX10_rule_46 rfl rfl rfl ?_
        obtain ⟨g16, hF⟩ := hF
        obtain ⟨g17, hF⟩ := hF
        refine z_getR (c := 10) (k := 6) (r := (RX10, TX10, 15)) (q := 50) dX10_rule_47 rfl (by decide) fl_X10_47 rfl g16 g17 rfl ?_
        refine z_iload_n (q := 51) dX10_rule_50 rfl rfl rfl ?_
        obtain ⟨g18, hF⟩ := hF
        obtain ⟨g19, hF⟩ := hF
        obtain ⟨g20, hF⟩ := hF
        refine y_aald (kd := 27) (j := (Int32.toNatClampNeg l1)) (q := 52) dX10_rule_51 g18 (by decide) (by decide) rfl g19 rfl g20 rfl ?_
        refine z_aload_n (q := 53) dX10_rule_52 rfl rfl rfl ?_
        obtain ⟨g21, hF⟩ := hF
        refine z_getR (c := 10) (k := 5) (r := (RX10, TX10, 15)) (q := 56) dX10_rule_53 rfl (by decide) fl_X10_43 rfl g16 g21 rfl ?_
        obtain ⟨g23, hF⟩ := hF
        refine z_callVV (rc := 0) (rs := 0) (b := (zR h14 (zR h14 l0 6) (Int32.toNatClampNeg l1))) (av := [.ref (zR h14 l0 5)]) (ci := 8) (r := (RX8, TX8, 2)) (q := 59) hF dX10_rule_56 ml_X10_219 ok_X8_copyFrom in_X8_copyFrom se_X8_copyFrom rfl rfl g23 rfl (Nat.le_of_ble_eq_true rfl) (by decide) (Nat.le_of_ble_eq_true rfl) rfl rfl rfl rfl (fun h22 hF => ?_)
        refine z_aload_n (q := 60) dX10_rule_59 rfl rfl rfl ?_
        obtain ⟨g24, hF⟩ := hF
        obtain ⟨g25, hF⟩ := hF
        refine z_getR (c := 10) (k := 5) (r := (RX10, TX10, 15)) (q := 63) dX10_rule_60 rfl (by decide) fl_X10_43 rfl g24 g25 rfl ?_
        refine z_iconst (q := 64) (v := 0) dX10_rule_63 (by decide) rfl ?_
        obtain ⟨g26, hF⟩ := hF
        refine z_putI (c := 8) (k := 1) (r := (RX8, TX8, 2)) (q := 67) dX10_rule_64 rfl (by decide) fl_X10_209 rfl rfl g26 rfl ?_
        refine z_iload_n (q := 68) dX10_rule_67 rfl rfl rfl ?_
        exact z_ireturn dX10_rule_68 rfl ⟨_, rfl, hF⟩
      · have hF := hF.2 hc
        refine z_iconst (q := 38) (v := 1) dX10_rule_37 (by decide) rfl ?_
        refine z_goto (q := 42) dX10_rule_38 (by decide) ?_
        refine z_callSI (rc := 0) (rs := 0) (av := [.int 1]) (q := 45) hF dX10_rule_42 ml_X10_140 ok_X10_asOne st_X10_asOne rfl (Nat.le_of_ble_eq_true rfl) (by decide) (Nat.le_of_ble_eq_true rfl) rfl rfl rfl rfl (fun x28 h27 hF => ?_)
        refine z_istore_n (q := 46) (L' := [some (.ref l0), some (.int l1), some (.int x28)]) dX10_rule_45 rfl (Nat.le_of_ble_eq_true rfl) rfl rfl rfl ?_
        refine z_aload_n (q := 47) dX10_rule_46 rfl rfl rfl ?_
        obtain ⟨g29, hF⟩ := hF
        obtain ⟨g30, hF⟩ := hF
        refine z_getR (c := 10) (k := 6) (r := (RX10, TX10, 15)) (q := 50) dX10_rule_47 rfl (by decide) fl_X10_47 rfl g29 g30 rfl ?_
        refine z_iload_n (q := 51) dX10_rule_50 rfl rfl rfl ?_
        obtain ⟨g31, hF⟩ := hF
        obtain ⟨g32, hF⟩ := hF
        obtain ⟨g33, hF⟩ := hF
        refine y_aald (kd := 27) (j := (Int32.toNatClampNeg l1)) (q := 52) dX10_rule_51 g31 (by decide) (by decide) rfl g32 rfl g33 rfl ?_
        refine z_aload_n (q := 53) dX10_rule_52 rfl rfl rfl ?_
        obtain ⟨g34, hF⟩ := hF
        refine z_getR (c := 10) (k := 5) (r := (RX10, TX10, 15)) (q := 56) dX10_rule_53 rfl (by decide) fl_X10_43 rfl g29 g34 rfl ?_
        obtain ⟨g36, hF⟩ := hF
        refine z_callVV (rc := 0) (rs := 0) (b := (zR h27 (zR h27 l0 6) (Int32.toNatClampNeg l1))) (av := [.ref (zR h27 l0 5)]) (ci := 8) (r := (RX8, TX8, 2)) (q := 59) hF dX10_rule_56 ml_X10_219 ok_X8_copyFrom in_X8_copyFrom se_X8_copyFrom rfl rfl g36 rfl (Nat.le_of_ble_eq_true rfl) (by decide) (Nat.le_of_ble_eq_true rfl) rfl rfl rfl rfl (fun h35 hF => ?_)
        refine z_aload_n (q := 60) dX10_rule_59 rfl rfl rfl ?_
        obtain ⟨g37, hF⟩ := hF
        obtain ⟨g38, hF⟩ := hF
        refine z_getR (c := 10) (k := 5) (r := (RX10, TX10, 15)) (q := 63) dX10_rule_60 rfl (by decide) fl_X10_43 rfl g37 g38 rfl ?_
        refine z_iconst (q := 64) (v := 0) dX10_rule_63 (by decide) rfl ?_
        obtain ⟨g39, hF⟩ := hF
        refine z_putI (c := 8) (k := 1) (r := (RX8, TX8, 2)) (q := 67) dX10_rule_64 rfl (by decide) fl_X10_209 rfl rfl g39 rfl ?_
        refine z_iload_n (q := 68) dX10_rule_67 rfl rfl rfl ?_
        exact z_ireturn dX10_rule_68 rfl ⟨_, rfl, hF⟩
    · have hF := hF.2 hc
      refine z_bipush (q := 24) (v := (-5)) dX10_rule_22 (by decide) rfl ?_
      exact z_ireturn dX10_rule_24 rfl ⟨_, rfl, hF⟩
  · have hF := hF.2 hc
    refine z_bipush (q := 9) (v := (-2)) dX10_rule_7 (by decide) rfl ?_
    exact z_ireturn dX10_rule_9 rfl ⟨_, rfl, hF⟩
set_option maxRecDepth 100000 in
set_option maxHeartbeats 4000000 in
theorem wX10_worth {ψ : Int32 → ZH → Prop} {l0 : Nat} {l1 : Int32} {l2 : Int32} {h : ZH} (hF : (zK h l0 = 11) ∧ ZcI mX10_isMan [.ref l0, .int l2] h (fun x3 h1 => ((¬ x3 = 0 → ZcI mX10_isRule [.int l1] h1 (fun x5 h4 => ((¬ x5 = 0 → (zK h4 l0 = 11) ∧ ((zR h4 l0 6) ≠ 0) ∧ (zK h4 (zR h4 l0 6) = 27) ∧ (vp_in l1 (zN h4 (zR h4 l0 6))) ∧ ((zR h4 (zR h4 l0 6) (Int32.toNatClampNeg l1)) ≠ 0) ∧ (zK h4 (zR h4 (zR h4 l0 6) (Int32.toNatClampNeg l1)) = 9) ∧ ((¬ (zI h4 (zR h4 (zR h4 l0 6) (Int32.toNatClampNeg l1)) 1) = 0 → ((zR h4 l0 7) ≠ 0) ∧ ((zR h4 l0 2) ≠ 0) ∧ (zK h4 (zR h4 l0 2) = 24) ∧ (vp_in l2 (zN h4 (zR h4 l0 2))) ∧ ((zR h4 (zR h4 l0 2) (Int32.toNatClampNeg l2)) ≠ 0) ∧ ZcI mX10_wayToWork [.ref l0, .ref (zR h4 (zR h4 l0 2) (Int32.toNatClampNeg l2))] h4 (fun x18 h17 => (zK h17 (zR h4 l0 7) = 4) ∧ ZcI mX3_result [.ref (zR h4 l0 7), .ref (zR h4 (zR h4 l0 6) (Int32.toNatClampNeg l1)), .ref (zR h4 (zR h4 l0 2) (Int32.toNatClampNeg l2)), .int x18] h17 (fun x21 h19 => ψ x21 h19))) ∧ ((zI h4 (zR h4 (zR h4 l0 6) (Int32.toNatClampNeg l1)) 1) = 0 → ψ (-2000006) h4))) ∧ (x5 = 0 → ψ (-2000002) h4)))) ∧ (x3 = 0 → ψ (-2000001) h1)))) : ZcI mX10_worth [.ref l0, .int l1, .int l2] h ψ := by
  refine Zc.intro (L := [some (.ref l0), some (.int l1), some (.int l2)]) (show plainName RX10 = true by decide) rfl (Nat.le_of_ble_eq_true rfl) ?_
  show Zt _ _ 0 0 _ _ _ _
  refine z_aload_n (q := 1) dX10_worth_0 rfl rfl rfl ?_
  refine z_iload_n (q := 2) dX10_worth_1 rfl rfl rfl ?_
  obtain ⟨g2, hF⟩ := hF
  refine z_callVI (rc := 0) (rs := 0) (b := l0) (av := [.int l2]) (ci := 10) (r := (RX10, TX10, 15)) (q := 5) hF dX10_worth_2 ml_X10_170 ok_X10_isMan in_X10_isMan se_X10_isMan rfl rfl g2 rfl (Nat.le_of_ble_eq_true rfl) (by decide) (Nat.le_of_ble_eq_true rfl) rfl rfl rfl rfl (fun x3 h1 hF => ?_)
  refine z_if_ne (t := 11) (q := 8) dX10_worth_5 (by decide) rfl (fun hc => ?_) (fun hc => ?_)
  · have hF := hF.1 hc
    refine z_iload_n (q := 12) dX10_worth_11 rfl rfl rfl ?_
    refine z_callSI (rc := 0) (rs := 0) (av := [.int l1]) (q := 15) hF dX10_worth_12 ml_X10_216 ok_X10_isRule st_X10_isRule rfl (Nat.le_of_ble_eq_true rfl) (by decide) (Nat.le_of_ble_eq_true rfl) rfl rfl rfl rfl (fun x5 h4 hF => ?_)
    refine z_if_ne (t := 21) (q := 18) dX10_worth_15 (by decide) rfl (fun hc => ?_) (fun hc => ?_)
    · have hF := hF.1 hc
      refine z_aload_n (q := 22) dX10_worth_21 rfl rfl rfl ?_
      obtain ⟨g6, hF⟩ := hF
      obtain ⟨g7, hF⟩ := hF
      refine z_getR (c := 10) (k := 6) (r := (RX10, TX10, 15)) (q := 25) dX10_worth_22 rfl (by decide) fl_X10_47 rfl g6 g7 rfl ?_
      refine z_iload_n (q := 26) dX10_worth_25 rfl rfl rfl ?_
      obtain ⟨g8, hF⟩ := hF
      obtain ⟨g9, hF⟩ := hF
      obtain ⟨g10, hF⟩ := hF
      refine y_aald (kd := 27) (j := (Int32.toNatClampNeg l1)) (q := 27) dX10_worth_26 g8 (by decide) (by decide) rfl g9 rfl g10 rfl ?_
      obtain ⟨g11, hF⟩ := hF
      refine z_getI (c := 8) (k := 1) (r := (RX8, TX8, 2)) (q := 30) dX10_worth_27 rfl (by decide) fl_X10_209 rfl g11 rfl ?_
      refine z_if_ne (t := 36) (q := 33) dX10_worth_30 (by decide) rfl (fun hc => ?_) (fun hc => ?_)
      · have hF := hF.1 hc
        refine z_aload_n (q := 37) dX10_worth_36 rfl rfl rfl ?_
        obtain ⟨g12, hF⟩ := hF
        refine z_getR (c := 10) (k := 7) (r := (RX10, TX10, 15)) (q := 40) dX10_worth_37 rfl (by decide) fl_X10_54 rfl g6 g12 rfl ?_
        refine z_aload_n (q := 41) dX10_worth_40 rfl rfl rfl ?_
        refine z_getR (c := 10) (k := 6) (r := (RX10, TX10, 15)) (q := 44) dX10_worth_41 rfl (by decide) fl_X10_47 rfl g6 g7 rfl ?_
        refine z_iload_n (q := 45) dX10_worth_44 rfl rfl rfl ?_
        refine y_aald (kd := 27) (j := (Int32.toNatClampNeg l1)) (q := 46) dX10_worth_45 g8 (by decide) (by decide) rfl g9 rfl g10 rfl ?_
        refine z_aload_n (q := 47) dX10_worth_46 rfl rfl rfl ?_
        obtain ⟨g13, hF⟩ := hF
        refine z_getR (c := 10) (k := 2) (r := (RX10, TX10, 15)) (q := 50) dX10_worth_47 rfl (by decide) fl_X10_23 rfl g6 g13 rfl ?_
        refine z_iload_n (q := 51) dX10_worth_50 rfl rfl rfl ?_
        obtain ⟨g14, hF⟩ := hF
        obtain ⟨g15, hF⟩ := hF
        obtain ⟨g16, hF⟩ := hF
        refine y_aald (kd := 24) (j := (Int32.toNatClampNeg l2)) (q := 52) dX10_worth_51 g14 (by decide) (by decide) rfl g15 rfl g16 rfl ?_
        refine z_aload_n (q := 53) dX10_worth_52 rfl rfl rfl ?_
        refine z_aload_n (q := 54) dX10_worth_53 rfl rfl rfl ?_
        refine z_getR (c := 10) (k := 2) (r := (RX10, TX10, 15)) (q := 57) dX10_worth_54 rfl (by decide) fl_X10_23 rfl g6 g13 rfl ?_
        refine z_iload_n (q := 58) dX10_worth_57 rfl rfl rfl ?_
        refine y_aald (kd := 24) (j := (Int32.toNatClampNeg l2)) (q := 59) dX10_worth_58 g14 (by decide) (by decide) rfl g15 rfl g16 rfl ?_
        refine z_callVI (rc := 0) (rs := 0) (b := l0) (av := [.ref (zR h4 (zR h4 l0 2) (Int32.toNatClampNeg l2))]) (ci := 10) (r := (RX10, TX10, 15)) (q := 62) hF dX10_worth_59 ml_X10_226 ok_X10_wayToWork in_X10_wayToWork se_X10_wayToWork rfl rfl g6 rfl (Nat.le_of_ble_eq_true rfl) (by decide) (Nat.le_of_ble_eq_true rfl) rfl rfl rfl rfl (fun x18 h17 hF => ?_)
        obtain ⟨g20, hF⟩ := hF
        refine z_callVI (rc := 0) (rs := 0) (b := (zR h4 l0 7)) (av := [.ref (zR h4 (zR h4 l0 6) (Int32.toNatClampNeg l1)), .ref (zR h4 (zR h4 l0 2) (Int32.toNatClampNeg l2)), .int x18]) (ci := 3) (r := (RX3, TX3, 2)) (q := 65) hF dX10_worth_62 ml_X10_230 ok_X3_result in_X3_result se_X3_result rfl rfl g20 rfl (Nat.le_of_ble_eq_true rfl) (by decide) (Nat.le_of_ble_eq_true rfl) rfl rfl rfl rfl (fun x21 h19 hF => ?_)
        exact z_ireturn dX10_worth_65 rfl ⟨_, rfl, hF⟩
      · have hF := hF.2 hc
        refine z_ldc (q := 35) (v := (-2000006)) dX10_worth_33 cw_X10_225 rfl ?_
        exact z_ireturn dX10_worth_35 rfl ⟨_, rfl, hF⟩
    · have hF := hF.2 hc
      refine z_ldc (q := 20) (v := (-2000002)) dX10_worth_18 cw_X10_224 rfl ?_
      exact z_ireturn dX10_worth_20 rfl ⟨_, rfl, hF⟩
  · have hF := hF.2 hc
    refine z_ldc (q := 10) (v := (-2000001)) dX10_worth_8 cw_X10_223 rfl ?_
    exact z_ireturn dX10_worth_10 rfl ⟨_, rfl, hF⟩
set_option maxRecDepth 100000 in
set_option maxHeartbeats 4000000 in
theorem wX10_move_42 {ψ : Int32 → ZH → Prop} {l0 : Nat} {l1 : Int32} {l2 : Int32} {h : ZH} (hF : (zK h l0 = 11) ∧ ((zR h l0 1) ≠ 0) ∧ (zK h (zR h l0 1) = 25) ∧ (vp_in l1 (zN h (zR h l0 1))) ∧ ((zR h (zR h l0 1) (Int32.toNatClampNeg l1)) ≠ 0) ∧ (zK h (zR h (zR h l0 1) (Int32.toNatClampNeg l1)) = 5) ∧ ((¬ (zI h (zR h (zR h l0 1) (Int32.toNatClampNeg l1)) 5) = 0 → ZcI mX10_workOutMove [.ref l0, .int l1] h (fun x8 h7 => ((¬ x8 = 0 → ((l2 = (-4) → (zK h7 l0 = 11) ∧ ((zR h7 l0 8) ≠ 0) ∧ (zK h7 (zR h7 l0 8) = 8) ∧ ψ (zI h7 (zR h7 l0 8) 7) h7) ∧ (l2 = (-3) → (zK h7 l0 = 11) ∧ ((zR h7 l0 8) ≠ 0) ∧ (zK h7 (zR h7 l0 8) = 8) ∧ ψ (zI h7 (zR h7 l0 8) 10) h7) ∧ (l2 = (-2) → (zK h7 l0 = 11) ∧ ((zR h7 l0 8) ≠ 0) ∧ (zK h7 (zR h7 l0 8) = 8) ∧ ψ (zI h7 (zR h7 l0 8) 9) h7) ∧ (l2 = (-1) → (zK h7 l0 = 11) ∧ ((zR h7 l0 8) ≠ 0) ∧ (zK h7 (zR h7 l0 8) = 8) ∧ ψ (zI h7 (zR h7 l0 8) 8) h7) ∧ (¬ l2 = (-4) → ¬ l2 = (-3) → ¬ l2 = (-2) → ¬ l2 = (-1) → (zK h7 l0 = 11) ∧ ((zR h7 l0 8) ≠ 0) ∧ (zK h7 (zR h7 l0 8) = 8) ∧ ZcI mX7_newPitOf [.ref (zR h7 l0 8), .int l2] h7 (fun x29 h27 => ψ x29 h27)))) ∧ (x8 = 0 → ψ (-5) h7)))) ∧ ((zI h (zR h (zR h l0 1) (Int32.toNatClampNeg l1)) 5) = 0 → ψ (-3) h))) : Zt mX10_move (zPI ψ) 0 0 42 [some (.ref l0), some (.int l1), some (.int l2)] [] h := by
  refine z_aload_n (q := 43) dX10_move_42 rfl rfl rfl ?_
  obtain ⟨g1, hF⟩ := hF
  obtain ⟨g2, hF⟩ := hF
  refine z_getR (c := 10) (k := 1) (r := (RX10, TX10, 15)) (q := 46) dX10_move_43 rfl (by decide) fl_X10_17 rfl g1 g2 rfl ?_
  refine z_iload_n (q := 47) dX10_move_46 rfl rfl rfl ?_
  obtain ⟨g3, hF⟩ := hF
  obtain ⟨g4, hF⟩ := hF
  obtain ⟨g5, hF⟩ := hF
  refine y_aald (kd := 25) (j := (Int32.toNatClampNeg l1)) (q := 48) dX10_move_47 g3 (by decide) (by decide) rfl g4 rfl g5 rfl ?_
  obtain ⟨g6, hF⟩ := hF
  refine z_getI (c := 4) (k := 5) (r := (RX4, TX4, 8)) (q := 51) dX10_move_48 rfl (by decide) fl_X10_136 rfl g6 rfl ?_
  refine z_if_ne (t := 57) (q := 54) dX10_move_51 (by decide) rfl (fun hc => ?_) (fun hc => ?_)
  · have hF := hF.1 hc
    refine z_aload_n (q := 58) dX10_move_57 rfl rfl rfl ?_
    refine z_iload_n (q := 59) dX10_move_58 rfl rfl rfl ?_
    refine z_callVI (rc := 0) (rs := 0) (b := l0) (av := [.int l1]) (ci := 10) (r := (RX10, TX10, 15)) (q := 62) hF dX10_move_59 ml_X10_234 ok_X10_workOutMove in_X10_workOutMove se_X10_workOutMove rfl rfl g1 rfl (Nat.le_of_ble_eq_true rfl) (by decide) (Nat.le_of_ble_eq_true rfl) rfl rfl rfl rfl (fun x8 h7 hF => ?_)
    refine z_if_ne (t := 68) (q := 65) dX10_move_62 (by decide) rfl (fun hc => ?_) (fun hc => ?_)
    · have hF := hF.1 hc
      refine z_iload_n (q := 69) dX10_move_68 rfl rfl rfl ?_
      by_cases e9 : l2 = (-4)
      · refine z_tableIn (q := 124) (off := 55) dX10_move_69 (by rw [e9]; decide) (by rw [e9]; decide) (by rw [e9]; decide) (by decide) ?_
        have hF := hF.1 e9
        refine z_aload_n (q := 125) dX10_move_124 rfl rfl rfl ?_
        obtain ⟨g13, hF⟩ := hF
        obtain ⟨g14, hF⟩ := hF
        refine z_getR (c := 10) (k := 8) (r := (RX10, TX10, 15)) (q := 128) dX10_move_125 rfl (by decide) fl_X10_61 rfl g13 g14 rfl ?_
        obtain ⟨g15, hF⟩ := hF
        refine z_getI (c := 7) (k := 7) (r := (RX7, TX7, 11)) (q := 131) dX10_move_128 rfl (by decide) fl_X10_246 rfl g15 rfl ?_
        exact z_ireturn dX10_move_131 rfl ⟨_, rfl, hF⟩
      by_cases e10 : l2 = (-3)
      · refine z_tableIn (q := 116) (off := 47) dX10_move_69 (by rw [e10]; decide) (by rw [e10]; decide) (by rw [e10]; decide) (by decide) ?_
        have hF := hF.2.1 e10
        refine z_aload_n (q := 117) dX10_move_116 rfl rfl rfl ?_
        obtain ⟨g16, hF⟩ := hF
        obtain ⟨g17, hF⟩ := hF
        refine z_getR (c := 10) (k := 8) (r := (RX10, TX10, 15)) (q := 120) dX10_move_117 rfl (by decide) fl_X10_61 rfl g16 g17 rfl ?_
        obtain ⟨g18, hF⟩ := hF
        refine z_getI (c := 7) (k := 10) (r := (RX7, TX7, 11)) (q := 123) dX10_move_120 rfl (by decide) fl_X10_243 rfl g18 rfl ?_
        exact z_ireturn dX10_move_123 rfl ⟨_, rfl, hF⟩
      by_cases e11 : l2 = (-2)
      · refine z_tableIn (q := 108) (off := 39) dX10_move_69 (by rw [e11]; decide) (by rw [e11]; decide) (by rw [e11]; decide) (by decide) ?_
        have hF := hF.2.2.1 e11
        refine z_aload_n (q := 109) dX10_move_108 rfl rfl rfl ?_
        obtain ⟨g19, hF⟩ := hF
        obtain ⟨g20, hF⟩ := hF
        refine z_getR (c := 10) (k := 8) (r := (RX10, TX10, 15)) (q := 112) dX10_move_109 rfl (by decide) fl_X10_61 rfl g19 g20 rfl ?_
        obtain ⟨g21, hF⟩ := hF
        refine z_getI (c := 7) (k := 9) (r := (RX7, TX7, 11)) (q := 115) dX10_move_112 rfl (by decide) fl_X10_240 rfl g21 rfl ?_
        exact z_ireturn dX10_move_115 rfl ⟨_, rfl, hF⟩
      by_cases e12 : l2 = (-1)
      · refine z_tableIn (q := 100) (off := 31) dX10_move_69 (by rw [e12]; decide) (by rw [e12]; decide) (by rw [e12]; decide) (by decide) ?_
        have hF := hF.2.2.2.1 e12
        refine z_aload_n (q := 101) dX10_move_100 rfl rfl rfl ?_
        obtain ⟨g22, hF⟩ := hF
        obtain ⟨g23, hF⟩ := hF
        refine z_getR (c := 10) (k := 8) (r := (RX10, TX10, 15)) (q := 104) dX10_move_101 rfl (by decide) fl_X10_61 rfl g22 g23 rfl ?_
        obtain ⟨g24, hF⟩ := hF
        refine z_getI (c := 7) (k := 8) (r := (RX7, TX7, 11)) (q := 107) dX10_move_104 rfl (by decide) fl_X10_237 rfl g24 rfl ?_
        exact z_ireturn dX10_move_107 rfl ⟨_, rfl, hF⟩
      refine z_tableOut (q := 132) dX10_move_69 (by
        have k0 := zsw_ne (k := (-4)) e9 (by decide)
        have k1 := zsw_ne (k := (-3)) e10 (by decide)
        have k2 := zsw_ne (k := (-2)) e11 (by decide)
        have k3 := zsw_ne (k := (-1)) e12 (by decide)
        omega) (by decide) ?_
      have hF := hF.2.2.2.2 e9 e10 e11 e12
      refine z_aload_n (q := 133) dX10_move_132 rfl rfl rfl ?_
      obtain ⟨g25, hF⟩ := hF
      obtain ⟨g26, hF⟩ := hF
      refine z_getR (c := 10) (k := 8) (r := (RX10, TX10, 15)) (q := 136) dX10_move_133 rfl (by decide) fl_X10_61 rfl g25 g26 rfl ?_
      refine z_iload_n (q := 137) dX10_move_136 rfl rfl rfl ?_
      obtain ⟨g28, hF⟩ := hF
      refine z_callVI (rc := 0) (rs := 0) (b := (zR h7 l0 8)) (av := [.int l2]) (ci := 7) (r := (RX7, TX7, 11)) (q := 140) hF dX10_move_137 ml_X10_249 ok_X7_newPitOf in_X7_newPitOf se_X7_newPitOf rfl rfl g28 rfl (Nat.le_of_ble_eq_true rfl) (by decide) (Nat.le_of_ble_eq_true rfl) rfl rfl rfl rfl (fun x29 h27 hF => ?_)
      exact z_ireturn dX10_move_140 rfl ⟨_, rfl, hF⟩
    · have hF := hF.2 hc
      refine z_bipush (q := 67) (v := (-5)) dX10_move_65 (by decide) rfl ?_
      exact z_ireturn dX10_move_67 rfl ⟨_, rfl, hF⟩
  · have hF := hF.2 hc
    refine z_bipush (q := 56) (v := (-3)) dX10_move_54 (by decide) rfl ?_
    exact z_ireturn dX10_move_56 rfl ⟨_, rfl, hF⟩
set_option maxRecDepth 100000 in
set_option maxHeartbeats 4000000 in
theorem wX10_move {ψ : Int32 → ZH → Prop} {l0 : Nat} {l1 : Int32} {l2 : Int32} {h : ZH} (hF : (zK h l0 = 11) ∧ ZcI mX10_isPit [.ref l0, .int l1] h (fun x32 h30 => ((x32 = 0 → ψ (-1) h30) ∧ (¬ x32 = 0 → (zK h30 l0 = 11) ∧ ZcI mX10_isWithin [.int l2, .int (-4), .int ((zI h30 l0 13) - 1)] h30 (fun x35 h34 => ((x35 = 0 → ψ (-1) h34) ∧ (¬ x35 = 0 → ((l2 < 0 → Zt mX10_move (zPI ψ) 0 0 42 [some (.ref l0), some (.int l1), some (.int l2)] [] h34) ∧ (¬ l2 < 0 → (zK h34 l0 = 11) ∧ ((zR h34 l0 2) ≠ 0) ∧ (zK h34 (zR h34 l0 2) = 24) ∧ (vp_in l2 (zN h34 (zR h34 l0 2))) ∧ ((zR h34 (zR h34 l0 2) (Int32.toNatClampNeg l2)) ≠ 0) ∧ (zK h34 (zR h34 (zR h34 l0 2) (Int32.toNatClampNeg l2)) = 2) ∧ (((zI h34 (zR h34 (zR h34 l0 2) (Int32.toNatClampNeg l2)) 4) = l1 → Zt mX10_move (zPI ψ) 0 0 42 [some (.ref l0), some (.int l1), some (.int l2)] [] h34) ∧ (¬ (zI h34 (zR h34 (zR h34 l0 2) (Int32.toNatClampNeg l2)) 4) = l1 → ψ (-1) h34))))))))))) : ZcI mX10_move [.ref l0, .int l1, .int l2] h ψ := by
  refine Zc.intro (L := [some (.ref l0), some (.int l1), some (.int l2)]) (show plainName RX10 = true by decide) rfl (Nat.le_of_ble_eq_true rfl) ?_
  show Zt _ _ 0 0 _ _ _ _
  refine z_aload_n (q := 1) dX10_move_0 rfl rfl rfl ?_
  refine z_iload_n (q := 2) dX10_move_1 rfl rfl rfl ?_
  obtain ⟨g31, hF⟩ := hF
  refine z_callVI (rc := 0) (rs := 0) (b := l0) (av := [.int l1]) (ci := 10) (r := (RX10, TX10, 15)) (q := 5) hF dX10_move_2 ml_X10_120 ok_X10_isPit in_X10_isPit se_X10_isPit rfl rfl g31 rfl (Nat.le_of_ble_eq_true rfl) (by decide) (Nat.le_of_ble_eq_true rfl) rfl rfl rfl rfl (fun x32 h30 hF => ?_)
  refine z_if_eq (t := 40) (q := 8) dX10_move_5 (by decide) rfl (fun hc => ?_) (fun hc => ?_)
  · have hF := hF.1 hc
    refine z_iconst (q := 41) (v := (-1)) dX10_move_40 (by decide) rfl ?_
    exact z_ireturn dX10_move_41 rfl ⟨_, rfl, hF⟩
  · have hF := hF.2 hc
    refine z_iload_n (q := 9) dX10_move_8 rfl rfl rfl ?_
    refine z_bipush (q := 11) (v := (-4)) dX10_move_9 (by decide) rfl ?_
    refine z_aload_n (q := 12) dX10_move_11 rfl rfl rfl ?_
    obtain ⟨g33, hF⟩ := hF
    refine z_getI (c := 10) (k := 13) (r := (RX10, TX10, 15)) (q := 15) dX10_move_12 rfl (by decide) fl_X10_164 rfl g33 rfl ?_
    refine z_iconst (q := 16) (v := 1) dX10_move_15 (by decide) rfl ?_
    refine z_isub (q := 17) dX10_move_16 rfl ?_
    refine z_callSI (rc := 0) (rs := 0) (av := [.int l2, .int (-4), .int ((zI h30 l0 13) - 1)]) (q := 20) hF dX10_move_17 ml_X10_106 ok_X10_isWithin st_X10_isWithin rfl (Nat.le_of_ble_eq_true rfl) (by decide) (Nat.le_of_ble_eq_true rfl) rfl rfl rfl rfl (fun x35 h34 hF => ?_)
    refine z_if_eq (t := 40) (q := 23) dX10_move_20 (by decide) rfl (fun hc => ?_) (fun hc => ?_)
    · have hF := hF.1 hc
      refine z_iconst (q := 41) (v := (-1)) dX10_move_40 (by decide) rfl ?_
      exact z_ireturn dX10_move_41 rfl ⟨_, rfl, hF⟩
    · have hF := hF.2 hc
      refine z_iload_n (q := 24) dX10_move_23 rfl rfl rfl ?_
      refine z_if_lt (t := 42) (q := 27) dX10_move_24 (by decide) rfl (fun hc => ?_) (fun hc => ?_)
      · have hF := hF.1 hc
        exact hF
      · have hF := hF.2 hc
        refine z_aload_n (q := 28) dX10_move_27 rfl rfl rfl ?_
        obtain ⟨g36, hF⟩ := hF
        obtain ⟨g37, hF⟩ := hF
        refine z_getR (c := 10) (k := 2) (r := (RX10, TX10, 15)) (q := 31) dX10_move_28 rfl (by decide) fl_X10_23 rfl g36 g37 rfl ?_
        refine z_iload_n (q := 32) dX10_move_31 rfl rfl rfl ?_
        obtain ⟨g38, hF⟩ := hF
        obtain ⟨g39, hF⟩ := hF
        obtain ⟨g40, hF⟩ := hF
        refine y_aald (kd := 24) (j := (Int32.toNatClampNeg l2)) (q := 33) dX10_move_32 g38 (by decide) (by decide) rfl g39 rfl g40 rfl ?_
        obtain ⟨g41, hF⟩ := hF
        refine z_getI (c := 1) (k := 4) (r := (RX1, TX1, 7)) (q := 36) dX10_move_33 rfl (by decide) fl_X10_185 rfl g41 rfl ?_
        refine z_iload_n (q := 37) dX10_move_36 rfl rfl rfl ?_
        refine z_icmp_eq (t := 42) (q := 40) dX10_move_37 (by decide) rfl (fun hc => ?_) (fun hc => ?_)
        · have hF := hF.1 hc
          exact hF
        · have hF := hF.2 hc
          refine z_iconst (q := 41) (v := (-1)) dX10_move_40 (by decide) rfl ?_
          exact z_ireturn dX10_move_41 rfl ⟨_, rfl, hF⟩
set_option maxRecDepth 100000 in
set_option maxHeartbeats 4000000 in
theorem wX10_close {ψ : Int32 → ZH → Prop} {l0 : Nat} {l1 : Int32} {h : ZH} (hF : (zK h l0 = 11) ∧ ZcI mX10_isPit [.ref l0, .int l1] h (fun x3 h1 => ((¬ x3 = 0 → (zK h1 l0 = 11) ∧ ((zR h1 l0 1) ≠ 0) ∧ (zK h1 (zR h1 l0 1) = 25) ∧ (vp_in l1 (zN h1 (zR h1 l0 1))) ∧ ((zR h1 (zR h1 l0 1) (Int32.toNatClampNeg l1)) ≠ 0) ∧ (zK h1 (zR h1 (zR h1 l0 1) (Int32.toNatClampNeg l1)) = 5) ∧ ((¬ (zI h1 (zR h1 (zR h1 l0 1) (Int32.toNatClampNeg l1)) 5) = 0 → ZcI mX10_workOutMove [.ref l0, .int l1] h1 (fun x11 h10 => ((¬ x11 = 0 → (zK h10 l0 = 11) ∧ ZcV mX10_carryOutMove [.ref l0, .int l1] h10 (fun h12 => (zK h12 l0 = 11) ∧ ((zR h12 l0 1) ≠ 0) ∧ (zK h12 (zR h12 l0 1) = 25) ∧ (vp_in l1 (zN h12 (zR h12 l0 1))) ∧ ((zR h12 (zR h12 l0 1) (Int32.toNatClampNeg l1)) ≠ 0) ∧ (zK h12 (zR h12 (zR h12 l0 1) (Int32.toNatClampNeg l1)) = 5) ∧ ZcV mX4_shut [.ref (zR h12 (zR h12 l0 1) (Int32.toNatClampNeg l1))] h12 (fun h19 => (zK h19 l0 = 11) ∧ ((zR h19 l0 8) ≠ 0) ∧ (zK h19 (zR h19 l0 8) = 8) ∧ ψ (zI h19 (zR h19 l0 8) 8) h19))) ∧ (x11 = 0 → ψ (-5) h10)))) ∧ ((zI h1 (zR h1 (zR h1 l0 1) (Int32.toNatClampNeg l1)) 5) = 0 → ψ (-3) h1))) ∧ (x3 = 0 → ψ (-1) h1)))) : ZcI mX10_close [.ref l0, .int l1] h ψ := by
  refine Zc.intro (L := [some (.ref l0), some (.int l1)]) (show plainName RX10 = true by decide) rfl (Nat.le_of_ble_eq_true rfl) ?_
  show Zt _ _ 0 0 _ _ _ _
  refine z_aload_n (q := 1) dX10_close_0 rfl rfl rfl ?_
  refine z_iload_n (q := 2) dX10_close_1 rfl rfl rfl ?_
  obtain ⟨g2, hF⟩ := hF
  refine z_callVI (rc := 0) (rs := 0) (b := l0) (av := [.int l1]) (ci := 10) (r := (RX10, TX10, 15)) (q := 5) hF dX10_close_2 ml_X10_120 ok_X10_isPit in_X10_isPit se_X10_isPit rfl rfl g2 rfl (Nat.le_of_ble_eq_true rfl) (by decide) (Nat.le_of_ble_eq_true rfl) rfl rfl rfl rfl (fun x3 h1 hF => ?_)
  refine z_if_ne (t := 10) (q := 8) dX10_close_5 (by decide) rfl (fun hc => ?_) (fun hc => ?_)
  · have hF := hF.1 hc
    refine z_aload_n (q := 11) dX10_close_10 rfl rfl rfl ?_
    obtain ⟨g4, hF⟩ := hF
    obtain ⟨g5, hF⟩ := hF
    refine z_getR (c := 10) (k := 1) (r := (RX10, TX10, 15)) (q := 14) dX10_close_11 rfl (by decide) fl_X10_17 rfl g4 g5 rfl ?_
    refine z_iload_n (q := 15) dX10_close_14 rfl rfl rfl ?_
    obtain ⟨g6, hF⟩ := hF
    obtain ⟨g7, hF⟩ := hF
    obtain ⟨g8, hF⟩ := hF
    refine y_aald (kd := 25) (j := (Int32.toNatClampNeg l1)) (q := 16) dX10_close_15 g6 (by decide) (by decide) rfl g7 rfl g8 rfl ?_
    obtain ⟨g9, hF⟩ := hF
    refine z_getI (c := 4) (k := 5) (r := (RX4, TX4, 8)) (q := 19) dX10_close_16 rfl (by decide) fl_X10_136 rfl g9 rfl ?_
    refine z_if_ne (t := 25) (q := 22) dX10_close_19 (by decide) rfl (fun hc => ?_) (fun hc => ?_)
    · have hF := hF.1 hc
      refine z_aload_n (q := 26) dX10_close_25 rfl rfl rfl ?_
      refine z_iload_n (q := 27) dX10_close_26 rfl rfl rfl ?_
      refine z_callVI (rc := 0) (rs := 0) (b := l0) (av := [.int l1]) (ci := 10) (r := (RX10, TX10, 15)) (q := 30) hF dX10_close_27 ml_X10_234 ok_X10_workOutMove in_X10_workOutMove se_X10_workOutMove rfl rfl g4 rfl (Nat.le_of_ble_eq_true rfl) (by decide) (Nat.le_of_ble_eq_true rfl) rfl rfl rfl rfl (fun x11 h10 hF => ?_)
      refine z_if_ne (t := 36) (q := 33) dX10_close_30 (by decide) rfl (fun hc => ?_) (fun hc => ?_)
      · have hF := hF.1 hc
        refine z_aload_n (q := 37) dX10_close_36 rfl rfl rfl ?_
        refine z_iload_n (q := 38) dX10_close_37 rfl rfl rfl ?_
        obtain ⟨g13, hF⟩ := hF
        refine z_callVV (rc := 0) (rs := 0) (b := l0) (av := [.int l1]) (ci := 10) (r := (RX10, TX10, 15)) (q := 41) hF dX10_close_38 ml_X10_252 ok_X10_carryOutMove in_X10_carryOutMove se_X10_carryOutMove rfl rfl g13 rfl (Nat.le_of_ble_eq_true rfl) (by decide) (Nat.le_of_ble_eq_true rfl) rfl rfl rfl rfl (fun h12 hF => ?_)
        refine z_aload_n (q := 42) dX10_close_41 rfl rfl rfl ?_
        obtain ⟨g14, hF⟩ := hF
        obtain ⟨g15, hF⟩ := hF
        refine z_getR (c := 10) (k := 1) (r := (RX10, TX10, 15)) (q := 45) dX10_close_42 rfl (by decide) fl_X10_17 rfl g14 g15 rfl ?_
        refine z_iload_n (q := 46) dX10_close_45 rfl rfl rfl ?_
        obtain ⟨g16, hF⟩ := hF
        obtain ⟨g17, hF⟩ := hF
        obtain ⟨g18, hF⟩ := hF
        refine y_aald (kd := 25) (j := (Int32.toNatClampNeg l1)) (q := 47) dX10_close_46 g16 (by decide) (by decide) rfl g17 rfl g18 rfl ?_
        obtain ⟨g20, hF⟩ := hF
        refine z_callVV (rc := 0) (rs := 0) (b := (zR h12 (zR h12 l0 1) (Int32.toNatClampNeg l1))) (av := []) (ci := 4) (r := (RX4, TX4, 8)) (q := 50) hF dX10_close_47 ml_X10_255 ok_X4_shut in_X4_shut se_X4_shut rfl rfl g20 rfl (Nat.le_of_ble_eq_true rfl) (by decide) (Nat.le_of_ble_eq_true rfl) rfl rfl rfl rfl (fun h19 hF => ?_)
        refine z_aload_n (q := 51) dX10_close_50 rfl rfl rfl ?_
        obtain ⟨g21, hF⟩ := hF
        obtain ⟨g22, hF⟩ := hF
        refine z_getR (c := 10) (k := 8) (r := (RX10, TX10, 15)) (q := 54) dX10_close_51 rfl (by decide) fl_X10_61 rfl g21 g22 rfl ?_
        obtain ⟨g23, hF⟩ := hF
        refine z_getI (c := 7) (k := 8) (r := (RX7, TX7, 11)) (q := 57) dX10_close_54 rfl (by decide) fl_X10_237 rfl g23 rfl ?_
        exact z_ireturn dX10_close_57 rfl ⟨_, rfl, hF⟩
      · have hF := hF.2 hc
        refine z_bipush (q := 35) (v := (-5)) dX10_close_33 (by decide) rfl ?_
        exact z_ireturn dX10_close_35 rfl ⟨_, rfl, hF⟩
    · have hF := hF.2 hc
      refine z_bipush (q := 24) (v := (-3)) dX10_close_22 (by decide) rfl ?_
      exact z_ireturn dX10_close_24 rfl ⟨_, rfl, hF⟩
  · have hF := hF.2 hc
    refine z_iconst (q := 9) (v := (-1)) dX10_close_8 (by decide) rfl ?_
    exact z_ireturn dX10_close_9 rfl ⟨_, rfl, hF⟩
set_option maxRecDepth 100000 in
set_option maxHeartbeats 4000000 in
theorem wX10_inflow {ψ : Int32 → ZH → Prop} {l0 : Nat} {l1 : Int32} {l2 : Int32} {h : ZH} (hF : (zK h l0 = 11) ∧ ZcI mX10_isPit [.ref l0, .int l1] h (fun x3 h1 => ((¬ x3 = 0 → ZcI mX10_isWithin [.int l2, .int 0, .int 100] h1 (fun x5 h4 => ((¬ x5 = 0 → (zK h4 l0 = 11) ∧ ((zR h4 l0 9) ≠ 0) ∧ (zK h4 (zR h4 l0 9) = 10) ∧ ((zR h4 (zR h4 l0 9) 1) ≠ 0) ∧ (zK h4 (zR h4 (zR h4 l0 9) 1) = 20) ∧ (vp_in l1 (zN h4 (zR h4 (zR h4 l0 9) 1))) ∧ ∀ v12 : Int32, v12 = (zI h4 (zR h4 (zR h4 l0 9) 1) (Int32.toNatClampNeg l1)) → ψ v12 (zsI h4 (zR h4 (zR h4 l0 9) 1) (Int32.toNatClampNeg l1) l2)) ∧ (x5 = 0 → ψ (-2) h4)))) ∧ (x3 = 0 → ψ (-1) h1)))) : ZcI mX10_inflow [.ref l0, .int l1, .int l2] h ψ := by
  refine Zc.intro (L := [some (.ref l0), some (.int l1), some (.int l2), none]) (show plainName RX10 = true by decide) rfl (Nat.le_of_ble_eq_true rfl) ?_
  show Zt _ _ 0 0 _ _ _ _
  refine z_aload_n (q := 1) dX10_inflow_0 rfl rfl rfl ?_
  refine z_iload_n (q := 2) dX10_inflow_1 rfl rfl rfl ?_
  obtain ⟨g2, hF⟩ := hF
  refine z_callVI (rc := 0) (rs := 0) (b := l0) (av := [.int l1]) (ci := 10) (r := (RX10, TX10, 15)) (q := 5) hF dX10_inflow_2 ml_X10_120 ok_X10_isPit in_X10_isPit se_X10_isPit rfl rfl g2 rfl (Nat.le_of_ble_eq_true rfl) (by decide) (Nat.le_of_ble_eq_true rfl) rfl rfl rfl rfl (fun x3 h1 hF => ?_)
  refine z_if_ne (t := 10) (q := 8) dX10_inflow_5 (by decide) rfl (fun hc => ?_) (fun hc => ?_)
  · have hF := hF.1 hc
    refine z_iload_n (q := 11) dX10_inflow_10 rfl rfl rfl ?_
    refine z_iconst (q := 12) (v := 0) dX10_inflow_11 (by decide) rfl ?_
    refine z_bipush (q := 14) (v := 100) dX10_inflow_12 (by decide) rfl ?_
    refine z_callSI (rc := 0) (rs := 0) (av := [.int l2, .int 0, .int 100]) (q := 17) hF dX10_inflow_14 ml_X10_106 ok_X10_isWithin st_X10_isWithin rfl (Nat.le_of_ble_eq_true rfl) (by decide) (Nat.le_of_ble_eq_true rfl) rfl rfl rfl rfl (fun x5 h4 hF => ?_)
    refine z_if_ne (t := 23) (q := 20) dX10_inflow_17 (by decide) rfl (fun hc => ?_) (fun hc => ?_)
    · have hF := hF.1 hc
      refine z_aload_n (q := 24) dX10_inflow_23 rfl rfl rfl ?_
      obtain ⟨g6, hF⟩ := hF
      obtain ⟨g7, hF⟩ := hF
      refine z_getR (c := 10) (k := 9) (r := (RX10, TX10, 15)) (q := 27) dX10_inflow_24 rfl (by decide) fl_X10_68 rfl g6 g7 rfl ?_
      obtain ⟨g8, hF⟩ := hF
      obtain ⟨g9, hF⟩ := hF
      refine z_getR (c := 9) (k := 1) (r := (RX9, TX9, 13)) (q := 30) dX10_inflow_27 rfl (by decide) fl_X10_258 rfl g8 g9 rfl ?_
      refine z_iload_n (q := 31) dX10_inflow_30 rfl rfl rfl ?_
      obtain ⟨g10, hF⟩ := hF
      obtain ⟨g11, hF⟩ := hF
      refine y_iald (j := (Int32.toNatClampNeg l1)) (q := 32) dX10_inflow_31 (Or.inl g10) g11 rfl rfl ?_
      refine z_nameI (fun v12 ev13 => ?_)
      have hF := hF v12 ev13
      refine z_istore_n (q := 33) (L' := [some (.ref l0), some (.int l1), some (.int l2), some (.int v12)]) dX10_inflow_32 rfl (Nat.le_of_ble_eq_true rfl) rfl rfl rfl ?_
      refine z_aload_n (q := 34) dX10_inflow_33 rfl rfl rfl ?_
      refine z_getR (c := 10) (k := 9) (r := (RX10, TX10, 15)) (q := 37) dX10_inflow_34 rfl (by decide) fl_X10_68 rfl g6 g7 rfl ?_
      refine z_getR (c := 9) (k := 1) (r := (RX9, TX9, 13)) (q := 40) dX10_inflow_37 rfl (by decide) fl_X10_258 rfl g8 g9 rfl ?_
      refine z_iload_n (q := 41) dX10_inflow_40 rfl rfl rfl ?_
      refine z_iload_n (q := 42) dX10_inflow_41 rfl rfl rfl ?_
      refine y_iast (j := (Int32.toNatClampNeg l1)) (q := 43) dX10_inflow_42 g10 g11 rfl rfl ?_
      refine z_iload_n (q := 44) dX10_inflow_43 rfl rfl rfl ?_
      exact z_ireturn dX10_inflow_44 rfl ⟨_, rfl, hF⟩
    · have hF := hF.2 hc
      refine z_bipush (q := 22) (v := (-2)) dX10_inflow_20 (by decide) rfl ?_
      exact z_ireturn dX10_inflow_22 rfl ⟨_, rfl, hF⟩
  · have hF := hF.2 hc
    refine z_iconst (q := 9) (v := (-1)) dX10_inflow_8 (by decide) rfl ?_
    exact z_ireturn dX10_inflow_9 rfl ⟨_, rfl, hF⟩
set_option maxRecDepth 100000 in
set_option maxHeartbeats 4000000 in
theorem wX10_pump {ψ : Int32 → ZH → Prop} {l0 : Nat} {l1 : Int32} {l2 : Int32} {h : ZH} (hF : (zK h l0 = 11) ∧ ZcI mX10_isPit [.ref l0, .int l1] h (fun x3 h1 => ((¬ x3 = 0 → (zK h1 l0 = 11) ∧ ((zR h1 l0 9) ≠ 0) ∧ (zK h1 (zR h1 l0 9) = 10) ∧ ((zR h1 (zR h1 l0 9) 3) ≠ 0) ∧ (zK h1 (zR h1 (zR h1 l0 9) 3) = 21) ∧ (vp_in l1 (zN h1 (zR h1 (zR h1 l0 9) 3))) ∧ ZcI mX10_asOne [.int (zI h1 (zR h1 (zR h1 l0 9) 3) (Int32.toNatClampNeg l1))] h1 (fun x11 h10 => (zK h10 l0 = 11) ∧ ((zR h10 l0 9) ≠ 0) ∧ (zK h10 (zR h10 l0 9) = 10) ∧ ((zR h10 (zR h10 l0 9) 3) ≠ 0) ∧ (zK h10 (zR h10 (zR h10 l0 9) 3) = 21) ∧ (vp_in l1 (zN h10 (zR h10 (zR h10 l0 9) 3))) ∧ (l2 = 0 ∨ l2 = 1) ∧ ψ x11 (zsI h10 (zR h10 (zR h10 l0 9) 3) (Int32.toNatClampNeg l1) l2))) ∧ (x3 = 0 → ψ (-1) h1)))) : ZcI mX10_pump [.ref l0, .int l1, .int l2] h ψ := by
  refine Zc.intro (L := [some (.ref l0), some (.int l1), some (.int l2), none]) (show plainName RX10 = true by decide) rfl (Nat.le_of_ble_eq_true rfl) ?_
  show Zt _ _ 0 0 _ _ _ _
  refine z_aload_n (q := 1) dX10_pump_0 rfl rfl rfl ?_
  refine z_iload_n (q := 2) dX10_pump_1 rfl rfl rfl ?_
  obtain ⟨g2, hF⟩ := hF
  refine z_callVI (rc := 0) (rs := 0) (b := l0) (av := [.int l1]) (ci := 10) (r := (RX10, TX10, 15)) (q := 5) hF dX10_pump_2 ml_X10_120 ok_X10_isPit in_X10_isPit se_X10_isPit rfl rfl g2 rfl (Nat.le_of_ble_eq_true rfl) (by decide) (Nat.le_of_ble_eq_true rfl) rfl rfl rfl rfl (fun x3 h1 hF => ?_)
  refine z_if_ne (t := 10) (q := 8) dX10_pump_5 (by decide) rfl (fun hc => ?_) (fun hc => ?_)
  · have hF := hF.1 hc
    refine z_aload_n (q := 11) dX10_pump_10 rfl rfl rfl ?_
    obtain ⟨g4, hF⟩ := hF
    obtain ⟨g5, hF⟩ := hF
    refine z_getR (c := 10) (k := 9) (r := (RX10, TX10, 15)) (q := 14) dX10_pump_11 rfl (by decide) fl_X10_68 rfl g4 g5 rfl ?_
    obtain ⟨g6, hF⟩ := hF
    obtain ⟨g7, hF⟩ := hF
    refine z_getR (c := 9) (k := 3) (r := (RX9, TX9, 13)) (q := 17) dX10_pump_14 rfl (by decide) fl_X10_154 rfl g6 g7 rfl ?_
    refine z_iload_n (q := 18) dX10_pump_17 rfl rfl rfl ?_
    obtain ⟨g8, hF⟩ := hF
    obtain ⟨g9, hF⟩ := hF
    refine y_bald (j := (Int32.toNatClampNeg l1)) (q := 19) dX10_pump_18 g8 g9 rfl rfl ?_
    refine z_callSI (rc := 0) (rs := 0) (av := [.int (zI h1 (zR h1 (zR h1 l0 9) 3) (Int32.toNatClampNeg l1))]) (q := 22) hF dX10_pump_19 ml_X10_140 ok_X10_asOne st_X10_asOne rfl (Nat.le_of_ble_eq_true rfl) (by decide) (Nat.le_of_ble_eq_true rfl) rfl rfl rfl rfl (fun x11 h10 hF => ?_)
    refine z_istore_n (q := 23) (L' := [some (.ref l0), some (.int l1), some (.int l2), some (.int x11)]) dX10_pump_22 rfl (Nat.le_of_ble_eq_true rfl) rfl rfl rfl ?_
    refine z_aload_n (q := 24) dX10_pump_23 rfl rfl rfl ?_
    obtain ⟨g12, hF⟩ := hF
    obtain ⟨g13, hF⟩ := hF
    refine z_getR (c := 10) (k := 9) (r := (RX10, TX10, 15)) (q := 27) dX10_pump_24 rfl (by decide) fl_X10_68 rfl g12 g13 rfl ?_
    obtain ⟨g14, hF⟩ := hF
    obtain ⟨g15, hF⟩ := hF
    refine z_getR (c := 9) (k := 3) (r := (RX9, TX9, 13)) (q := 30) dX10_pump_27 rfl (by decide) fl_X10_154 rfl g14 g15 rfl ?_
    refine z_iload_n (q := 31) dX10_pump_30 rfl rfl rfl ?_
    refine z_iload_n (q := 32) dX10_pump_31 rfl rfl rfl ?_
    obtain ⟨g16, hF⟩ := hF
    obtain ⟨g17, hF⟩ := hF
    obtain ⟨g18, hF⟩ := hF
    refine y_bast (j := (Int32.toNatClampNeg l1)) (q := 33) dX10_pump_32 g16 g17 g18 rfl rfl ?_
    refine z_iload_n (q := 34) dX10_pump_33 rfl rfl rfl ?_
    exact z_ireturn dX10_pump_34 rfl ⟨_, rfl, hF⟩
  · have hF := hF.2 hc
    refine z_iconst (q := 9) (v := (-1)) dX10_pump_8 (by decide) rfl ?_
    exact z_ireturn dX10_pump_9 rfl ⟨_, rfl, hF⟩
set_option maxRecDepth 100000 in
set_option maxHeartbeats 4000000 in
theorem wX10_way {ψ : Int32 → ZH → Prop} {l0 : Nat} {l1 : Int32} {l2 : Int32} {l3 : Int32} {h : ZH} (hF : (zK h l0 = 11) ∧ ZcI mX10_isPit [.ref l0, .int l1] h (fun x3 h1 => ((x3 = 0 → ψ (-1) h1) ∧ (¬ x3 = 0 → (zK h1 l0 = 11) ∧ ZcI mX10_isPit [.ref l0, .int l2] h1 (fun x6 h4 => ((x6 = 0 → ψ (-1) h4) ∧ (¬ x6 = 0 → ((¬ l1 = l2 → ZcI mX10_isWithin [.int l3, .int 0, .int 1000] h4 (fun x8 h7 => ((¬ x8 = 0 → (zK h7 l0 = 11) ∧ ((zR h7 l0 9) ≠ 0) ∧ (zK h7 (zR h7 l0 9) = 10) ∧ (((zI h7 (zR h7 l0 9) 9) < 12 → ZcV mX9_addWay [.ref (zR h7 l0 9), .int l1, .int l2, .int l3] h7 (fun h12 => (zK h12 l0 = 11) ∧ ((zR h12 l0 9) ≠ 0) ∧ (zK h12 (zR h12 l0 9) = 10) ∧ ψ ((zI h12 (zR h12 l0 9) 9) - 1) h12)) ∧ (¬ (zI h7 (zR h7 l0 9) 9) < 12 → ψ (-4) h7))) ∧ (x8 = 0 → ψ (-2) h7)))) ∧ (l1 = l2 → ψ (-1) h4))))))))) : ZcI mX10_way [.ref l0, .int l1, .int l2, .int l3] h ψ := by
  refine Zc.intro (L := [some (.ref l0), some (.int l1), some (.int l2), some (.int l3)]) (show plainName RX10 = true by decide) rfl (Nat.le_of_ble_eq_true rfl) ?_
  show Zt _ _ 0 0 _ _ _ _
  refine z_aload_n (q := 1) dX10_way_0 rfl rfl rfl ?_
  refine z_iload_n (q := 2) dX10_way_1 rfl rfl rfl ?_
  obtain ⟨g2, hF⟩ := hF
  refine z_callVI (rc := 0) (rs := 0) (b := l0) (av := [.int l1]) (ci := 10) (r := (RX10, TX10, 15)) (q := 5) hF dX10_way_2 ml_X10_120 ok_X10_isPit in_X10_isPit se_X10_isPit rfl rfl g2 rfl (Nat.le_of_ble_eq_true rfl) (by decide) (Nat.le_of_ble_eq_true rfl) rfl rfl rfl rfl (fun x3 h1 hF => ?_)
  refine z_if_eq (t := 21) (q := 8) dX10_way_5 (by decide) rfl (fun hc => ?_) (fun hc => ?_)
  · have hF := hF.1 hc
    refine z_iconst (q := 22) (v := (-1)) dX10_way_21 (by decide) rfl ?_
    exact z_ireturn dX10_way_22 rfl ⟨_, rfl, hF⟩
  · have hF := hF.2 hc
    refine z_aload_n (q := 9) dX10_way_8 rfl rfl rfl ?_
    refine z_iload_n (q := 10) dX10_way_9 rfl rfl rfl ?_
    obtain ⟨g5, hF⟩ := hF
    refine z_callVI (rc := 0) (rs := 0) (b := l0) (av := [.int l2]) (ci := 10) (r := (RX10, TX10, 15)) (q := 13) hF dX10_way_10 ml_X10_120 ok_X10_isPit in_X10_isPit se_X10_isPit rfl rfl g5 rfl (Nat.le_of_ble_eq_true rfl) (by decide) (Nat.le_of_ble_eq_true rfl) rfl rfl rfl rfl (fun x6 h4 hF => ?_)
    refine z_if_eq (t := 21) (q := 16) dX10_way_13 (by decide) rfl (fun hc => ?_) (fun hc => ?_)
    · have hF := hF.1 hc
      refine z_iconst (q := 22) (v := (-1)) dX10_way_21 (by decide) rfl ?_
      exact z_ireturn dX10_way_22 rfl ⟨_, rfl, hF⟩
    · have hF := hF.2 hc
      refine z_iload_n (q := 17) dX10_way_16 rfl rfl rfl ?_
      refine z_iload_n (q := 18) dX10_way_17 rfl rfl rfl ?_
      refine z_icmp_ne (t := 23) (q := 21) dX10_way_18 (by decide) rfl (fun hc => ?_) (fun hc => ?_)
      · have hF := hF.1 hc
        refine z_iload_n (q := 24) dX10_way_23 rfl rfl rfl ?_
        refine z_iconst (q := 25) (v := 0) dX10_way_24 (by decide) rfl ?_
        refine z_sipush (q := 28) (v := 1000) dX10_way_25 (by decide) rfl ?_
        refine z_callSI (rc := 0) (rs := 0) (av := [.int l3, .int 0, .int 1000]) (q := 31) hF dX10_way_28 ml_X10_106 ok_X10_isWithin st_X10_isWithin rfl (Nat.le_of_ble_eq_true rfl) (by decide) (Nat.le_of_ble_eq_true rfl) rfl rfl rfl rfl (fun x8 h7 hF => ?_)
        refine z_if_ne (t := 37) (q := 34) dX10_way_31 (by decide) rfl (fun hc => ?_) (fun hc => ?_)
        · have hF := hF.1 hc
          refine z_aload_n (q := 38) dX10_way_37 rfl rfl rfl ?_
          obtain ⟨g9, hF⟩ := hF
          obtain ⟨g10, hF⟩ := hF
          refine z_getR (c := 10) (k := 9) (r := (RX10, TX10, 15)) (q := 41) dX10_way_38 rfl (by decide) fl_X10_68 rfl g9 g10 rfl ?_
          obtain ⟨g11, hF⟩ := hF
          refine z_getI (c := 9) (k := 9) (r := (RX9, TX9, 13)) (q := 44) dX10_way_41 rfl (by decide) fl_X10_261 rfl g11 rfl ?_
          refine z_bipush (q := 46) (v := 12) dX10_way_44 (by decide) rfl ?_
          refine z_icmp_lt (t := 52) (q := 49) dX10_way_46 (by decide) rfl (fun hc => ?_) (fun hc => ?_)
          · have hF := hF.1 hc
            refine z_aload_n (q := 53) dX10_way_52 rfl rfl rfl ?_
            refine z_getR (c := 10) (k := 9) (r := (RX10, TX10, 15)) (q := 56) dX10_way_53 rfl (by decide) fl_X10_68 rfl g9 g10 rfl ?_
            refine z_iload_n (q := 57) dX10_way_56 rfl rfl rfl ?_
            refine z_iload_n (q := 58) dX10_way_57 rfl rfl rfl ?_
            refine z_iload_n (q := 59) dX10_way_58 rfl rfl rfl ?_
            refine z_callVV (rc := 0) (rs := 0) (b := (zR h7 l0 9)) (av := [.int l1, .int l2, .int l3]) (ci := 9) (r := (RX9, TX9, 13)) (q := 62) hF dX10_way_59 ml_X10_264 ok_X9_addWay in_X9_addWay se_X9_addWay rfl rfl g11 rfl (Nat.le_of_ble_eq_true rfl) (by decide) (Nat.le_of_ble_eq_true rfl) rfl rfl rfl rfl (fun h12 hF => ?_)
            refine z_aload_n (q := 63) dX10_way_62 rfl rfl rfl ?_
            obtain ⟨g13, hF⟩ := hF
            obtain ⟨g14, hF⟩ := hF
            refine z_getR (c := 10) (k := 9) (r := (RX10, TX10, 15)) (q := 66) dX10_way_63 rfl (by decide) fl_X10_68 rfl g13 g14 rfl ?_
            obtain ⟨g15, hF⟩ := hF
            refine z_getI (c := 9) (k := 9) (r := (RX9, TX9, 13)) (q := 69) dX10_way_66 rfl (by decide) fl_X10_261 rfl g15 rfl ?_
            refine z_iconst (q := 70) (v := 1) dX10_way_69 (by decide) rfl ?_
            refine z_isub (q := 71) dX10_way_70 rfl ?_
            exact z_ireturn dX10_way_71 rfl ⟨_, rfl, hF⟩
          · have hF := hF.2 hc
            refine z_bipush (q := 51) (v := (-4)) dX10_way_49 (by decide) rfl ?_
            exact z_ireturn dX10_way_51 rfl ⟨_, rfl, hF⟩
        · have hF := hF.2 hc
          refine z_bipush (q := 36) (v := (-2)) dX10_way_34 (by decide) rfl ?_
          exact z_ireturn dX10_way_36 rfl ⟨_, rfl, hF⟩
      · have hF := hF.2 hc
        refine z_iconst (q := 22) (v := (-1)) dX10_way_21 (by decide) rfl ?_
        exact z_ireturn dX10_way_22 rfl ⟨_, rfl, hF⟩
set_option maxRecDepth 100000 in
set_option maxHeartbeats 4000000 in
theorem wX10_months_18 {ψ : Int32 → ZH → Prop} {l0 : Nat} {l1 : Int32} {l2 : Int32} {l3 : Int32} {h : ZH} (hF : ((l1 ≤ l3 → ψ l2 h) ∧ (¬ l1 ≤ l3 → (zK h l0 = 11) ∧ ((zR h l0 9) ≠ 0) ∧ (zK h (zR h l0 9) = 10) ∧ ZcI mX9_passMonth [.ref (zR h l0 9)] h (fun x5 h3 => Zt mX10_months (zPI ψ) 0 0 18 [some (.ref l0), some (.int l1), some (.int (l2 + x5)), some (.int (l3 + 1))] [] h3)))) : Zt mX10_months (zPI ψ) 0 0 18 [some (.ref l0), some (.int l1), some (.int l2), some (.int l3)] [] h := by
  refine z_iload_n (q := 19) dX10_months_18 rfl rfl rfl ?_
  refine z_iload_n (q := 20) dX10_months_19 rfl rfl rfl ?_
  refine z_icmp_ge (t := 39) (q := 23) dX10_months_20 (by decide) rfl (fun hc => ?_) (fun hc => ?_)
  · have hF := hF.1 hc
    refine z_iload_n (q := 40) dX10_months_39 rfl rfl rfl ?_
    exact z_ireturn dX10_months_40 rfl ⟨_, rfl, hF⟩
  · have hF := hF.2 hc
    refine z_iload_n (q := 24) dX10_months_23 rfl rfl rfl ?_
    refine z_aload_n (q := 25) dX10_months_24 rfl rfl rfl ?_
    obtain ⟨g1, hF⟩ := hF
    obtain ⟨g2, hF⟩ := hF
    refine z_getR (c := 10) (k := 9) (r := (RX10, TX10, 15)) (q := 28) dX10_months_25 rfl (by decide) fl_X10_68 rfl g1 g2 rfl ?_
    obtain ⟨g4, hF⟩ := hF
    refine z_callVI (rc := 0) (rs := 0) (b := (zR h l0 9)) (av := []) (ci := 9) (r := (RX9, TX9, 13)) (q := 31) hF dX10_months_28 ml_X10_268 ok_X9_passMonth in_X9_passMonth se_X9_passMonth rfl rfl g4 rfl (Nat.le_of_ble_eq_true rfl) (by decide) (Nat.le_of_ble_eq_true rfl) rfl rfl rfl rfl (fun x5 h3 hF => ?_)
    refine z_iadd (q := 32) dX10_months_31 rfl ?_
    refine z_istore_n (q := 33) (L' := [some (.ref l0), some (.int l1), some (.int (l2 + x5)), some (.int l3)]) dX10_months_32 rfl (Nat.le_of_ble_eq_true rfl) rfl rfl rfl ?_
    refine z_iinc (q := 36) (v := (l3 + 1)) (L' := [some (.ref l0), some (.int l1), some (.int (l2 + x5)), some (.int (l3 + 1))]) dX10_months_33 rfl rfl (Nat.le_of_ble_eq_true rfl) rfl rfl rfl ?_
    refine z_goto (q := 18) dX10_months_36 (by decide) ?_
    exact hF
set_option maxRecDepth 100000 in
set_option maxHeartbeats 4000000 in
theorem wX10_months {ψ : Int32 → ZH → Prop} {l0 : Nat} {l1 : Int32} {h : ZH} (hF : ZcI mX10_isWithin [.int l1, .int 1, .int 240] h (fun x7 h6 => ((¬ x7 = 0 → Zt mX10_months (zPI ψ) 0 0 18 [some (.ref l0), some (.int l1), some (.int 0), some (.int 0)] [] h6) ∧ (x7 = 0 → ψ (-2) h6)))) : ZcI mX10_months [.ref l0, .int l1] h ψ := by
  refine Zc.intro (L := [some (.ref l0), some (.int l1), none, none]) (show plainName RX10 = true by decide) rfl (Nat.le_of_ble_eq_true rfl) ?_
  show Zt _ _ 0 0 _ _ _ _
  refine z_iload_n (q := 1) dX10_months_0 rfl rfl rfl ?_
  refine z_iconst (q := 2) (v := 1) dX10_months_1 (by decide) rfl ?_
  refine z_sipush (q := 5) (v := 240) dX10_months_2 (by decide) rfl ?_
  refine z_callSI (rc := 0) (rs := 0) (av := [.int l1, .int 1, .int 240]) (q := 8) hF dX10_months_5 ml_X10_106 ok_X10_isWithin st_X10_isWithin rfl (Nat.le_of_ble_eq_true rfl) (by decide) (Nat.le_of_ble_eq_true rfl) rfl rfl rfl rfl (fun x7 h6 hF => ?_)
  refine z_if_ne (t := 14) (q := 11) dX10_months_8 (by decide) rfl (fun hc => ?_) (fun hc => ?_)
  · have hF := hF.1 hc
    refine z_iconst (q := 15) (v := 0) dX10_months_14 (by decide) rfl ?_
    refine z_istore_n (q := 16) (L' := [some (.ref l0), some (.int l1), some (.int 0), none]) dX10_months_15 rfl (Nat.le_of_ble_eq_true rfl) rfl rfl rfl ?_
    refine z_iconst (q := 17) (v := 0) dX10_months_16 (by decide) rfl ?_
    refine z_istore_n (q := 18) (L' := [some (.ref l0), some (.int l1), some (.int 0), some (.int 0)]) dX10_months_17 rfl (Nat.le_of_ble_eq_true rfl) rfl rfl rfl ?_
    exact hF
  · have hF := hF.2 hc
    refine z_bipush (q := 13) (v := (-2)) dX10_months_11 (by decide) rfl ?_
    exact z_ireturn dX10_months_13 rfl ⟨_, rfl, hF⟩
set_option maxRecDepth 100000 in
set_option maxHeartbeats 4000000 in
theorem wX10_threat_58 {ψ : Int32 → ZH → Prop} {l0 : Nat} {l1 : Int32} {l3 : Int32} {h : ZH} (hF : ((240 ≤ l3 → ψ (-6) h) ∧ (¬ 240 ≤ l3 → (zK h l0 = 11) ∧ ((zR h l0 10) ≠ 0) ∧ (zK h (zR h l0 10) = 10) ∧ ZcI mX9_passMonth [.ref (zR h l0 10)] h (fun x5 h3 => (zK h3 l0 = 11) ∧ ((zR h3 l0 10) ≠ 0) ∧ (zK h3 (zR h3 l0 10) = 10) ∧ ((zR h3 (zR h3 l0 10) 4) ≠ 0) ∧ (zK h3 (zR h3 (zR h3 l0 10) 4) = 20) ∧ (vp_in l1 (zN h3 (zR h3 (zR h3 l0 10) 4))) ∧ (((zI h3 (zR h3 (zR h3 l0 10) 4) (Int32.toNatClampNeg l1)) = (-6) → Zt mX10_threat (zPI ψ) 0 0 58 [some (.ref l0), some (.int l1), none, some (.int (l3 + 1))] [] h3) ∧ (¬ (zI h3 (zR h3 (zR h3 l0 10) 4) (Int32.toNatClampNeg l1)) = (-6) → ψ l3 h3)))))) : Zt mX10_threat (zPI ψ) 0 0 58 [some (.ref l0), some (.int l1), none, some (.int l3)] [] h := by
  refine z_iload_n (q := 59) dX10_threat_58 rfl rfl rfl ?_
  refine z_sipush (q := 62) (v := 240) dX10_threat_59 (by decide) rfl ?_
  refine z_icmp_ge (t := 95) (q := 65) dX10_threat_62 (by decide) rfl (fun hc => ?_) (fun hc => ?_)
  · have hF := hF.1 hc
    refine z_bipush (q := 97) (v := (-6)) dX10_threat_95 (by decide) rfl ?_
    exact z_ireturn dX10_threat_97 rfl ⟨_, rfl, hF⟩
  · have hF := hF.2 hc
    refine z_aload_n (q := 66) dX10_threat_65 rfl rfl rfl ?_
    obtain ⟨g1, hF⟩ := hF
    obtain ⟨g2, hF⟩ := hF
    refine z_getR (c := 10) (k := 10) (r := (RX10, TX10, 15)) (q := 69) dX10_threat_66 rfl (by decide) fl_X10_72 rfl g1 g2 rfl ?_
    obtain ⟨g4, hF⟩ := hF
    refine z_callVI (rc := 0) (rs := 0) (b := (zR h l0 10)) (av := []) (ci := 9) (r := (RX9, TX9, 13)) (q := 72) hF dX10_threat_69 ml_X10_268 ok_X9_passMonth in_X9_passMonth se_X9_passMonth rfl rfl g4 rfl (Nat.le_of_ble_eq_true rfl) (by decide) (Nat.le_of_ble_eq_true rfl) rfl rfl rfl rfl (fun x5 h3 hF => ?_)
    refine z_pop (q := 73) dX10_threat_72 rfl rfl ?_
    refine z_aload_n (q := 74) dX10_threat_73 rfl rfl rfl ?_
    obtain ⟨g6, hF⟩ := hF
    obtain ⟨g7, hF⟩ := hF
    refine z_getR (c := 10) (k := 10) (r := (RX10, TX10, 15)) (q := 77) dX10_threat_74 rfl (by decide) fl_X10_72 rfl g6 g7 rfl ?_
    obtain ⟨g8, hF⟩ := hF
    obtain ⟨g9, hF⟩ := hF
    refine z_getR (c := 9) (k := 4) (r := (RX9, TX9, 13)) (q := 80) dX10_threat_77 rfl (by decide) fl_X10_151 rfl g8 g9 rfl ?_
    refine z_iload_n (q := 81) dX10_threat_80 rfl rfl rfl ?_
    obtain ⟨g10, hF⟩ := hF
    obtain ⟨g11, hF⟩ := hF
    refine y_iald (j := (Int32.toNatClampNeg l1)) (q := 82) dX10_threat_81 (Or.inl g10) g11 rfl rfl ?_
    refine z_bipush (q := 84) (v := (-6)) dX10_threat_82 (by decide) rfl ?_
    refine z_icmp_eq (t := 89) (q := 87) dX10_threat_84 (by decide) rfl (fun hc => ?_) (fun hc => ?_)
    · have hF := hF.1 hc
      refine z_iinc (q := 92) (v := (l3 + 1)) (L' := [some (.ref l0), some (.int l1), none, some (.int (l3 + 1))]) dX10_threat_89 rfl rfl (Nat.le_of_ble_eq_true rfl) rfl rfl rfl ?_
      refine z_goto (q := 58) dX10_threat_92 (by decide) ?_
      exact hF
    · have hF := hF.2 hc
      refine z_iload_n (q := 88) dX10_threat_87 rfl rfl rfl ?_
      exact z_ireturn dX10_threat_88 rfl ⟨_, rfl, hF⟩
set_option maxRecDepth 100000 in
set_option maxHeartbeats 4000000 in
theorem wX10_threat {ψ : Int32 → ZH → Prop} {l0 : Nat} {l1 : Int32} {l2 : Int32} {h : ZH} (hF : (zK h l0 = 11) ∧ ZcI mX10_isPit [.ref l0, .int l1] h (fun x14 h12 => ((x14 = 0 → ψ (-1) h12) ∧ (¬ x14 = 0 → (zK h12 l0 = 11) ∧ ZcI mX10_isPit [.ref l0, .int l2] h12 (fun x17 h15 => ((¬ x17 = 0 → (zK h15 l0 = 11) ∧ ((zR h15 l0 9) ≠ 0) ∧ (zK h15 (zR h15 l0 9) = 10) ∧ ((zR h15 (zR h15 l0 9) 4) ≠ 0) ∧ (zK h15 (zR h15 (zR h15 l0 9) 4) = 20) ∧ (vp_in l1 (zN h15 (zR h15 (zR h15 l0 9) 4))) ∧ (((zI h15 (zR h15 (zR h15 l0 9) 4) (Int32.toNatClampNeg l1)) = (-6) → ((zR h15 l0 10) ≠ 0) ∧ (zK h15 (zR h15 l0 10) = 10) ∧ ZcV mX9_copyFrom [.ref (zR h15 l0 10), .ref (zR h15 l0 9)] h15 (fun h25 => (zK h25 l0 = 11) ∧ ((zR h25 l0 10) ≠ 0) ∧ (zK h25 (zR h25 l0 10) = 10) ∧ ((zR h25 (zR h25 l0 10) 3) ≠ 0) ∧ (zK h25 (zR h25 (zR h25 l0 10) 3) = 21) ∧ (vp_in l2 (zN h25 (zR h25 (zR h25 l0 10) 3))) ∧ Zt mX10_threat (zPI ψ) 0 0 58 [some (.ref l0), some (.int l1), none, some (.int 0)] [] (zsI h25 (zR h25 (zR h25 l0 10) 3) (Int32.toNatClampNeg l2) 0))) ∧ (¬ (zI h15 (zR h15 (zR h15 l0 9) 4) (Int32.toNatClampNeg l1)) = (-6) → ψ (-6) h15))) ∧ (x17 = 0 → ψ (-1) h15))))))) : ZcI mX10_threat [.ref l0, .int l1, .int l2] h ψ := by
  refine Zc.intro (L := [some (.ref l0), some (.int l1), some (.int l2), none]) (show plainName RX10 = true by decide) rfl (Nat.le_of_ble_eq_true rfl) ?_
  show Zt _ _ 0 0 _ _ _ _
  refine z_aload_n (q := 1) dX10_threat_0 rfl rfl rfl ?_
  refine z_iload_n (q := 2) dX10_threat_1 rfl rfl rfl ?_
  obtain ⟨g13, hF⟩ := hF
  refine z_callVI (rc := 0) (rs := 0) (b := l0) (av := [.int l1]) (ci := 10) (r := (RX10, TX10, 15)) (q := 5) hF dX10_threat_2 ml_X10_120 ok_X10_isPit in_X10_isPit se_X10_isPit rfl rfl g13 rfl (Nat.le_of_ble_eq_true rfl) (by decide) (Nat.le_of_ble_eq_true rfl) rfl rfl rfl rfl (fun x14 h12 hF => ?_)
  refine z_if_eq (t := 16) (q := 8) dX10_threat_5 (by decide) rfl (fun hc => ?_) (fun hc => ?_)
  · have hF := hF.1 hc
    refine z_iconst (q := 17) (v := (-1)) dX10_threat_16 (by decide) rfl ?_
    exact z_ireturn dX10_threat_17 rfl ⟨_, rfl, hF⟩
  · have hF := hF.2 hc
    refine z_aload_n (q := 9) dX10_threat_8 rfl rfl rfl ?_
    refine z_iload_n (q := 10) dX10_threat_9 rfl rfl rfl ?_
    obtain ⟨g16, hF⟩ := hF
    refine z_callVI (rc := 0) (rs := 0) (b := l0) (av := [.int l2]) (ci := 10) (r := (RX10, TX10, 15)) (q := 13) hF dX10_threat_10 ml_X10_120 ok_X10_isPit in_X10_isPit se_X10_isPit rfl rfl g16 rfl (Nat.le_of_ble_eq_true rfl) (by decide) (Nat.le_of_ble_eq_true rfl) rfl rfl rfl rfl (fun x17 h15 hF => ?_)
    refine z_if_ne (t := 18) (q := 16) dX10_threat_13 (by decide) rfl (fun hc => ?_) (fun hc => ?_)
    · have hF := hF.1 hc
      refine z_aload_n (q := 19) dX10_threat_18 rfl rfl rfl ?_
      obtain ⟨g18, hF⟩ := hF
      obtain ⟨g19, hF⟩ := hF
      refine z_getR (c := 10) (k := 9) (r := (RX10, TX10, 15)) (q := 22) dX10_threat_19 rfl (by decide) fl_X10_68 rfl g18 g19 rfl ?_
      obtain ⟨g20, hF⟩ := hF
      obtain ⟨g21, hF⟩ := hF
      refine z_getR (c := 9) (k := 4) (r := (RX9, TX9, 13)) (q := 25) dX10_threat_22 rfl (by decide) fl_X10_151 rfl g20 g21 rfl ?_
      refine z_iload_n (q := 26) dX10_threat_25 rfl rfl rfl ?_
      obtain ⟨g22, hF⟩ := hF
      obtain ⟨g23, hF⟩ := hF
      refine y_iald (j := (Int32.toNatClampNeg l1)) (q := 27) dX10_threat_26 (Or.inl g22) g23 rfl rfl ?_
      refine z_bipush (q := 29) (v := (-6)) dX10_threat_27 (by decide) rfl ?_
      refine z_icmp_eq (t := 35) (q := 32) dX10_threat_29 (by decide) rfl (fun hc => ?_) (fun hc => ?_)
      · have hF := hF.1 hc
        refine z_aload_n (q := 36) dX10_threat_35 rfl rfl rfl ?_
        obtain ⟨g24, hF⟩ := hF
        refine z_getR (c := 10) (k := 10) (r := (RX10, TX10, 15)) (q := 39) dX10_threat_36 rfl (by decide) fl_X10_72 rfl g18 g24 rfl ?_
        refine z_aload_n (q := 40) dX10_threat_39 rfl rfl rfl ?_
        refine z_getR (c := 10) (k := 9) (r := (RX10, TX10, 15)) (q := 43) dX10_threat_40 rfl (by decide) fl_X10_68 rfl g18 g19 rfl ?_
        obtain ⟨g26, hF⟩ := hF
        refine z_callVV (rc := 0) (rs := 0) (b := (zR h15 l0 10)) (av := [.ref (zR h15 l0 9)]) (ci := 9) (r := (RX9, TX9, 13)) (q := 46) hF dX10_threat_43 ml_X10_271 ok_X9_copyFrom in_X9_copyFrom se_X9_copyFrom rfl rfl g26 rfl (Nat.le_of_ble_eq_true rfl) (by decide) (Nat.le_of_ble_eq_true rfl) rfl rfl rfl rfl (fun h25 hF => ?_)
        refine z_aload_n (q := 47) dX10_threat_46 rfl rfl rfl ?_
        obtain ⟨g27, hF⟩ := hF
        obtain ⟨g28, hF⟩ := hF
        refine z_getR (c := 10) (k := 10) (r := (RX10, TX10, 15)) (q := 50) dX10_threat_47 rfl (by decide) fl_X10_72 rfl g27 g28 rfl ?_
        obtain ⟨g29, hF⟩ := hF
        obtain ⟨g30, hF⟩ := hF
        refine z_getR (c := 9) (k := 3) (r := (RX9, TX9, 13)) (q := 53) dX10_threat_50 rfl (by decide) fl_X10_154 rfl g29 g30 rfl ?_
        refine z_iload_n (q := 54) dX10_threat_53 rfl rfl rfl ?_
        refine z_iconst (q := 55) (v := 0) dX10_threat_54 (by decide) rfl ?_
        obtain ⟨g31, hF⟩ := hF
        obtain ⟨g32, hF⟩ := hF
        refine y_bast (j := (Int32.toNatClampNeg l2)) (q := 56) dX10_threat_55 g31 g32 (by decide) rfl rfl ?_
        refine z_iconst (q := 57) (v := 0) dX10_threat_56 (by decide) rfl ?_
        refine z_istore_n (q := 58) (L' := [some (.ref l0), some (.int l1), some (.int l2), some (.int 0)]) dX10_threat_57 rfl (Nat.le_of_ble_eq_true rfl) rfl rfl rfl ?_
        refine Zt.drop (i := 2) (L' := [some (.ref l0), some (.int l1), none, some (.int 0)]) rfl ?_
        exact hF
      · have hF := hF.2 hc
        refine z_bipush (q := 34) (v := (-6)) dX10_threat_32 (by decide) rfl ?_
        exact z_ireturn dX10_threat_34 rfl ⟨_, rfl, hF⟩
    · have hF := hF.2 hc
      refine z_iconst (q := 17) (v := (-1)) dX10_threat_16 (by decide) rfl ?_
      exact z_ireturn dX10_threat_17 rfl ⟨_, rfl, hF⟩
set_option maxRecDepth 100000 in
set_option maxHeartbeats 4000000 in
theorem wX10_price {ψ : Int32 → ZH → Prop} {l0 : Nat} {l1 : Int32} {l2 : Int32} {l3 : Int32} {h : ZH} (hF : ZcI mX10_isWithin [.int l1, .int 0, .int 2] h (fun x2 h1 => ((x2 = 0 → ψ (-1) h1) ∧ (¬ x2 = 0 → ZcI mX10_isWithin [.int l2, .int 0, .int 4] h1 (fun x4 h3 => ((¬ x4 = 0 → ZcI mX10_isWithin [.int l3, .int 0, .int 200] h3 (fun x6 h5 => ((¬ x6 = 0 → (zK h5 l0 = 11) ∧ ((zR h5 l0 11) ≠ 0) ∧ (zK h5 (zR h5 l0 11) = 7) ∧ ((zR h5 (zR h5 l0 11) 0) ≠ 0) ∧ (zK h5 (zR h5 (zR h5 l0 11) 0) = 28) ∧ (vp_in l1 (zN h5 (zR h5 (zR h5 l0 11) 0))) ∧ ((zR h5 (zR h5 (zR h5 l0 11) 0) (Int32.toNatClampNeg l1)) ≠ 0) ∧ (zK h5 (zR h5 (zR h5 (zR h5 l0 11) 0) (Int32.toNatClampNeg l1)) = 20) ∧ (vp_in l2 (zN h5 (zR h5 (zR h5 (zR h5 l0 11) 0) (Int32.toNatClampNeg l1)))) ∧ ∀ v16 : Int32, v16 = (zI h5 (zR h5 (zR h5 (zR h5 l0 11) 0) (Int32.toNatClampNeg l1)) (Int32.toNatClampNeg l2)) → ψ v16 (zsI h5 (zR h5 (zR h5 (zR h5 l0 11) 0) (Int32.toNatClampNeg l1)) (Int32.toNatClampNeg l2) l3)) ∧ (x6 = 0 → ψ (-2) h5)))) ∧ (x4 = 0 → ψ (-1) h3))))))) : ZcI mX10_price [.ref l0, .int l1, .int l2, .int l3] h ψ := by
  refine Zc.intro (L := [some (.ref l0), some (.int l1), some (.int l2), some (.int l3), none]) (show plainName RX10 = true by decide) rfl (Nat.le_of_ble_eq_true rfl) ?_
  show Zt _ _ 0 0 _ _ _ _
  refine z_iload_n (q := 1) dX10_price_0 rfl rfl rfl ?_
  refine z_iconst (q := 2) (v := 0) dX10_price_1 (by decide) rfl ?_
  refine z_iconst (q := 3) (v := 2) dX10_price_2 (by decide) rfl ?_
  refine z_callSI (rc := 0) (rs := 0) (av := [.int l1, .int 0, .int 2]) (q := 6) hF dX10_price_3 ml_X10_106 ok_X10_isWithin st_X10_isWithin rfl (Nat.le_of_ble_eq_true rfl) (by decide) (Nat.le_of_ble_eq_true rfl) rfl rfl rfl rfl (fun x2 h1 hF => ?_)
  refine z_if_eq (t := 18) (q := 9) dX10_price_6 (by decide) rfl (fun hc => ?_) (fun hc => ?_)
  · have hF := hF.1 hc
    refine z_iconst (q := 19) (v := (-1)) dX10_price_18 (by decide) rfl ?_
    exact z_ireturn dX10_price_19 rfl ⟨_, rfl, hF⟩
  · have hF := hF.2 hc
    refine z_iload_n (q := 10) dX10_price_9 rfl rfl rfl ?_
    refine z_iconst (q := 11) (v := 0) dX10_price_10 (by decide) rfl ?_
    refine z_iconst (q := 12) (v := 4) dX10_price_11 (by decide) rfl ?_
    refine z_callSI (rc := 0) (rs := 0) (av := [.int l2, .int 0, .int 4]) (q := 15) hF dX10_price_12 ml_X10_106 ok_X10_isWithin st_X10_isWithin rfl (Nat.le_of_ble_eq_true rfl) (by decide) (Nat.le_of_ble_eq_true rfl) rfl rfl rfl rfl (fun x4 h3 hF => ?_)
    refine z_if_ne (t := 20) (q := 18) dX10_price_15 (by decide) rfl (fun hc => ?_) (fun hc => ?_)
    · have hF := hF.1 hc
      refine z_iload_n (q := 21) dX10_price_20 rfl rfl rfl ?_
      refine z_iconst (q := 22) (v := 0) dX10_price_21 (by decide) rfl ?_
      refine z_sipush (q := 25) (v := 200) dX10_price_22 (by decide) rfl ?_
      refine z_callSI (rc := 0) (rs := 0) (av := [.int l3, .int 0, .int 200]) (q := 28) hF dX10_price_25 ml_X10_106 ok_X10_isWithin st_X10_isWithin rfl (Nat.le_of_ble_eq_true rfl) (by decide) (Nat.le_of_ble_eq_true rfl) rfl rfl rfl rfl (fun x6 h5 hF => ?_)
      refine z_if_ne (t := 34) (q := 31) dX10_price_28 (by decide) rfl (fun hc => ?_) (fun hc => ?_)
      · have hF := hF.1 hc
        refine z_aload_n (q := 35) dX10_price_34 rfl rfl rfl ?_
        obtain ⟨g7, hF⟩ := hF
        obtain ⟨g8, hF⟩ := hF
        refine z_getR (c := 10) (k := 11) (r := (RX10, TX10, 15)) (q := 38) dX10_price_35 rfl (by decide) fl_X10_78 rfl g7 g8 rfl ?_
        obtain ⟨g9, hF⟩ := hF
        obtain ⟨g10, hF⟩ := hF
        refine z_getR (c := 6) (k := 0) (r := (RX6, TX6, 15)) (q := 41) dX10_price_38 rfl (by decide) fl_X10_274 rfl g9 g10 rfl ?_
        refine z_iload_n (q := 42) dX10_price_41 rfl rfl rfl ?_
        obtain ⟨g11, hF⟩ := hF
        obtain ⟨g12, hF⟩ := hF
        obtain ⟨g13, hF⟩ := hF
        refine y_aald (kd := 28) (j := (Int32.toNatClampNeg l1)) (q := 43) dX10_price_42 g11 (by decide) (by decide) rfl g12 rfl g13 rfl ?_
        refine z_iload_n (q := 44) dX10_price_43 rfl rfl rfl ?_
        obtain ⟨g14, hF⟩ := hF
        obtain ⟨g15, hF⟩ := hF
        refine y_iald (j := (Int32.toNatClampNeg l2)) (q := 45) dX10_price_44 (Or.inl g14) g15 rfl rfl ?_
        refine z_nameI (fun v16 ev17 => ?_)
        have hF := hF v16 ev17
        refine z_istore (q := 47) (L' := [some (.ref l0), some (.int l1), some (.int l2), some (.int l3), some (.int v16)]) dX10_price_45 (Nat.le_of_ble_eq_true rfl) rfl rfl rfl ?_
        refine z_aload_n (q := 48) dX10_price_47 rfl rfl rfl ?_
        refine z_getR (c := 10) (k := 11) (r := (RX10, TX10, 15)) (q := 51) dX10_price_48 rfl (by decide) fl_X10_78 rfl g7 g8 rfl ?_
        refine z_getR (c := 6) (k := 0) (r := (RX6, TX6, 15)) (q := 54) dX10_price_51 rfl (by decide) fl_X10_274 rfl g9 g10 rfl ?_
        refine z_iload_n (q := 55) dX10_price_54 rfl rfl rfl ?_
        refine y_aald (kd := 28) (j := (Int32.toNatClampNeg l1)) (q := 56) dX10_price_55 g11 (by decide) (by decide) rfl g12 rfl g13 rfl ?_
        refine z_iload_n (q := 57) dX10_price_56 rfl rfl rfl ?_
        refine z_iload_n (q := 58) dX10_price_57 rfl rfl rfl ?_
        refine y_iast (j := (Int32.toNatClampNeg l2)) (q := 59) dX10_price_58 g14 g15 rfl rfl ?_
        refine z_iload (q := 61) dX10_price_59 rfl rfl ?_
        exact z_ireturn dX10_price_61 rfl ⟨_, rfl, hF⟩
      · have hF := hF.2 hc
        refine z_bipush (q := 33) (v := (-2)) dX10_price_31 (by decide) rfl ?_
        exact z_ireturn dX10_price_33 rfl ⟨_, rfl, hF⟩
    · have hF := hF.2 hc
      refine z_iconst (q := 19) (v := (-1)) dX10_price_18 (by decide) rfl ?_
      exact z_ireturn dX10_price_19 rfl ⟨_, rfl, hF⟩
set_option maxRecDepth 100000 in
set_option maxHeartbeats 4000000 in
theorem wX10_plan {ψ : Int32 → ZH → Prop} {l0 : Nat} {l1 : Int32} {l2 : Int32} {h : ZH} (hF : ZcI mX10_isWithin [.int l2, .int 0, .int 2] h (fun x2 h1 => ((¬ x2 = 0 → (zK h1 l0 = 11) ∧ ((zR h1 l0 11) ≠ 0) ∧ ((zR h1 l0 1) ≠ 0) ∧ ((zR h1 l0 4) ≠ 0) ∧ (zK h1 (zR h1 l0 11) = 7) ∧ ZcV mX6_prepare [.ref (zR h1 l0 11), .ref (zR h1 l0 1), .int (zI h1 l0 12), .ref (zR h1 l0 4)] h1 (fun h7 => (zK h7 l0 = 11) ∧ ((zR h7 l0 11) ≠ 0) ∧ (zK h7 (zR h7 l0 11) = 7) ∧ ZcI mX6_readDigits [.ref (zR h7 l0 11), .int l1] h7 (fun x13 h11 => ((¬ x13 = 0 → ((l2 = 0 → (zK h11 l0 = 11) ∧ ((zR h11 l0 11) ≠ 0) ∧ (zK h11 (zR h11 l0 11) = 7) ∧ ZcI mX6_isKept [.ref (zR h11 l0 11)] h11 (fun x20 h18 => ZcI mX10_asOne [.int x20] h18 (fun x22 h21 => ψ x22 h21))) ∧ (l2 = 1 → (zK h11 l0 = 11) ∧ ((zR h11 l0 11) ≠ 0) ∧ (zK h11 (zR h11 l0 11) = 7) ∧ ZcI mX6_worstRow [.ref (zR h11 l0 11)] h11 (fun x27 h25 => (zK h25 (zR h11 l0 11) = 7) ∧ ZcI mX6_costByRow [.ref (zR h11 l0 11), .int x27] h25 (fun x30 h28 => ψ x30 h28))) ∧ (¬ l2 = 0 → ¬ l2 = 1 → (zK h11 l0 = 11) ∧ ((zR h11 l0 11) ≠ 0) ∧ (zK h11 (zR h11 l0 11) = 7) ∧ ZcI mX6_worstRow [.ref (zR h11 l0 11)] h11 (fun x35 h33 => ψ x35 h33)))) ∧ (x13 = 0 → ψ (-2) h11))))) ∧ (x2 = 0 → ψ (-2) h1)))) : ZcI mX10_plan [.ref l0, .int l1, .int l2] h ψ := by
  refine Zc.intro (L := [some (.ref l0), some (.int l1), some (.int l2)]) (show plainName RX10 = true by decide) rfl (Nat.le_of_ble_eq_true rfl) ?_
  show Zt _ _ 0 0 _ _ _ _
  refine z_iload_n (q := 1) dX10_plan_0 rfl rfl rfl ?_
  refine z_iconst (q := 2) (v := 0) dX10_plan_1 (by decide) rfl ?_
  refine z_iconst (q := 3) (v := 2) dX10_plan_2 (by decide) rfl ?_
  refine z_callSI (rc := 0) (rs := 0) (av := [.int l2, .int 0, .int 2]) (q := 6) hF dX10_plan_3 ml_X10_106 ok_X10_isWithin st_X10_isWithin rfl (Nat.le_of_ble_eq_true rfl) (by decide) (Nat.le_of_ble_eq_true rfl) rfl rfl rfl rfl (fun x2 h1 hF => ?_)
  refine z_if_ne (t := 12) (q := 9) dX10_plan_6 (by decide) rfl (fun hc => ?_) (fun hc => ?_)
  · have hF := hF.1 hc
    refine z_aload_n (q := 13) dX10_plan_12 rfl rfl rfl ?_
    obtain ⟨g3, hF⟩ := hF
    obtain ⟨g4, hF⟩ := hF
    refine z_getR (c := 10) (k := 11) (r := (RX10, TX10, 15)) (q := 16) dX10_plan_13 rfl (by decide) fl_X10_78 rfl g3 g4 rfl ?_
    refine z_aload_n (q := 17) dX10_plan_16 rfl rfl rfl ?_
    obtain ⟨g5, hF⟩ := hF
    refine z_getR (c := 10) (k := 1) (r := (RX10, TX10, 15)) (q := 20) dX10_plan_17 rfl (by decide) fl_X10_17 rfl g3 g5 rfl ?_
    refine z_aload_n (q := 21) dX10_plan_20 rfl rfl rfl ?_
    refine z_getI (c := 10) (k := 12) (r := (RX10, TX10, 15)) (q := 24) dX10_plan_21 rfl (by decide) fl_X10_110 rfl g3 rfl ?_
    refine z_aload_n (q := 25) dX10_plan_24 rfl rfl rfl ?_
    obtain ⟨g6, hF⟩ := hF
    refine z_getR (c := 10) (k := 4) (r := (RX10, TX10, 15)) (q := 28) dX10_plan_25 rfl (by decide) fl_X10_37 rfl g3 g6 rfl ?_
    obtain ⟨g8, hF⟩ := hF
    refine z_callVV (rc := 0) (rs := 0) (b := (zR h1 l0 11)) (av := [.ref (zR h1 l0 1), .int (zI h1 l0 12), .ref (zR h1 l0 4)]) (ci := 6) (r := (RX6, TX6, 15)) (q := 31) hF dX10_plan_28 ml_X10_278 ok_X6_prepare in_X6_prepare se_X6_prepare rfl rfl g8 rfl (Nat.le_of_ble_eq_true rfl) (by decide) (Nat.le_of_ble_eq_true rfl) rfl rfl rfl rfl (fun h7 hF => ?_)
    refine z_aload_n (q := 32) dX10_plan_31 rfl rfl rfl ?_
    obtain ⟨g9, hF⟩ := hF
    obtain ⟨g10, hF⟩ := hF
    refine z_getR (c := 10) (k := 11) (r := (RX10, TX10, 15)) (q := 35) dX10_plan_32 rfl (by decide) fl_X10_78 rfl g9 g10 rfl ?_
    refine z_iload_n (q := 36) dX10_plan_35 rfl rfl rfl ?_
    obtain ⟨g12, hF⟩ := hF
    refine z_callVI (rc := 0) (rs := 0) (b := (zR h7 l0 11)) (av := [.int l1]) (ci := 6) (r := (RX6, TX6, 15)) (q := 39) hF dX10_plan_36 ml_X10_282 ok_X6_readDigits in_X6_readDigits se_X6_readDigits rfl rfl g12 rfl (Nat.le_of_ble_eq_true rfl) (by decide) (Nat.le_of_ble_eq_true rfl) rfl rfl rfl rfl (fun x13 h11 hF => ?_)
    refine z_if_ne (t := 45) (q := 42) dX10_plan_39 (by decide) rfl (fun hc => ?_) (fun hc => ?_)
    · have hF := hF.1 hc
      refine z_iload_n (q := 46) dX10_plan_45 rfl rfl rfl ?_
      by_cases e14 : l2 = 0
      · refine z_lookup (q := 72) (off := 26) dX10_plan_46 (by decide) (by rw [e14]; decide) (by decide) ?_
        have hF := hF.1 e14
        refine z_aload_n (q := 73) dX10_plan_72 rfl rfl rfl ?_
        obtain ⟨g16, hF⟩ := hF
        obtain ⟨g17, hF⟩ := hF
        refine z_getR (c := 10) (k := 11) (r := (RX10, TX10, 15)) (q := 76) dX10_plan_73 rfl (by decide) fl_X10_78 rfl g16 g17 rfl ?_
        obtain ⟨g19, hF⟩ := hF
        refine z_callVI (rc := 0) (rs := 0) (b := (zR h11 l0 11)) (av := []) (ci := 6) (r := (RX6, TX6, 15)) (q := 79) hF dX10_plan_76 ml_X10_285 ok_X6_isKept in_X6_isKept se_X6_isKept rfl rfl g19 rfl (Nat.le_of_ble_eq_true rfl) (by decide) (Nat.le_of_ble_eq_true rfl) rfl rfl rfl rfl (fun x20 h18 hF => ?_)
        refine z_callSI (rc := 0) (rs := 0) (av := [.int x20]) (q := 82) hF dX10_plan_79 ml_X10_140 ok_X10_asOne st_X10_asOne rfl (Nat.le_of_ble_eq_true rfl) (by decide) (Nat.le_of_ble_eq_true rfl) rfl rfl rfl rfl (fun x22 h21 hF => ?_)
        exact z_ireturn dX10_plan_82 rfl ⟨_, rfl, hF⟩
      by_cases e15 : l2 = 1
      · refine z_lookup (q := 83) (off := 37) dX10_plan_46 (by decide) (by rw [e15]; decide) (by decide) ?_
        have hF := hF.2.1 e15
        refine z_aload_n (q := 84) dX10_plan_83 rfl rfl rfl ?_
        obtain ⟨g23, hF⟩ := hF
        obtain ⟨g24, hF⟩ := hF
        refine z_getR (c := 10) (k := 11) (r := (RX10, TX10, 15)) (q := 87) dX10_plan_84 rfl (by decide) fl_X10_78 rfl g23 g24 rfl ?_
        refine z_aload_n (q := 88) dX10_plan_87 rfl rfl rfl ?_
        refine z_getR (c := 10) (k := 11) (r := (RX10, TX10, 15)) (q := 91) dX10_plan_88 rfl (by decide) fl_X10_78 rfl g23 g24 rfl ?_
        obtain ⟨g26, hF⟩ := hF
        refine z_callVI (rc := 0) (rs := 0) (b := (zR h11 l0 11)) (av := []) (ci := 6) (r := (RX6, TX6, 15)) (q := 94) hF dX10_plan_91 ml_X10_289 ok_X6_worstRow in_X6_worstRow se_X6_worstRow rfl rfl g26 rfl (Nat.le_of_ble_eq_true rfl) (by decide) (Nat.le_of_ble_eq_true rfl) rfl rfl rfl rfl (fun x27 h25 hF => ?_)
        obtain ⟨g29, hF⟩ := hF
        refine z_callVI (rc := 0) (rs := 0) (b := (zR h11 l0 11)) (av := [.int x27]) (ci := 6) (r := (RX6, TX6, 15)) (q := 97) hF dX10_plan_94 ml_X10_292 ok_X6_costByRow in_X6_costByRow se_X6_costByRow rfl rfl g29 rfl (Nat.le_of_ble_eq_true rfl) (by decide) (Nat.le_of_ble_eq_true rfl) rfl rfl rfl rfl (fun x30 h28 hF => ?_)
        exact z_ireturn dX10_plan_97 rfl ⟨_, rfl, hF⟩
      refine z_lookup (q := 98) (off := 52) dX10_plan_46 (by decide) (by
        simp only [lookupswitch.offset]
        rw [if_neg (fun q => zsw_ne (k := 0) e14 (by decide) q.symm), if_neg (fun q => zsw_ne (k := 1) e15 (by decide) q.symm)]) (by decide) ?_
      have hF := hF.2.2 e14 e15
      refine z_aload_n (q := 99) dX10_plan_98 rfl rfl rfl ?_
      obtain ⟨g31, hF⟩ := hF
      obtain ⟨g32, hF⟩ := hF
      refine z_getR (c := 10) (k := 11) (r := (RX10, TX10, 15)) (q := 102) dX10_plan_99 rfl (by decide) fl_X10_78 rfl g31 g32 rfl ?_
      obtain ⟨g34, hF⟩ := hF
      refine z_callVI (rc := 0) (rs := 0) (b := (zR h11 l0 11)) (av := []) (ci := 6) (r := (RX6, TX6, 15)) (q := 105) hF dX10_plan_102 ml_X10_289 ok_X6_worstRow in_X6_worstRow se_X6_worstRow rfl rfl g34 rfl (Nat.le_of_ble_eq_true rfl) (by decide) (Nat.le_of_ble_eq_true rfl) rfl rfl rfl rfl (fun x35 h33 hF => ?_)
      exact z_ireturn dX10_plan_105 rfl ⟨_, rfl, hF⟩
    · have hF := hF.2 hc
      refine z_bipush (q := 44) (v := (-2)) dX10_plan_42 (by decide) rfl ?_
      exact z_ireturn dX10_plan_44 rfl ⟨_, rfl, hF⟩
  · have hF := hF.2 hc
    refine z_bipush (q := 11) (v := (-2)) dX10_plan_9 (by decide) rfl ?_
    exact z_ireturn dX10_plan_11 rfl ⟨_, rfl, hF⟩
set_option maxRecDepth 100000 in
set_option maxHeartbeats 4000000 in
theorem wX10_best {ψ : Int32 → ZH → Prop} {l0 : Nat} {l1 : Int32} {h : ZH} (hF : ZcI mX10_isWithin [.int l1, .int 0, .int 1] h (fun x2 h1 => ((¬ x2 = 0 → (zK h1 l0 = 11) ∧ ((zR h1 l0 11) ≠ 0) ∧ ((zR h1 l0 1) ≠ 0) ∧ ((zR h1 l0 4) ≠ 0) ∧ (zK h1 (zR h1 l0 11) = 7) ∧ ZcV mX6_prepare [.ref (zR h1 l0 11), .ref (zR h1 l0 1), .int (zI h1 l0 12), .ref (zR h1 l0 4)] h1 (fun h7 => (zK h7 l0 = 11) ∧ ((zR h7 l0 11) ≠ 0) ∧ (zK h7 (zR h7 l0 11) = 7) ∧ ZcI mX6_findBest [.ref (zR h7 l0 11)] h7 (fun x13 h11 => ((¬ x13 = 0 → ((¬ l1 = 0 → (zK h11 l0 = 11) ∧ ((zR h11 l0 11) ≠ 0) ∧ (zK h11 (zR h11 l0 11) = 7) ∧ ψ (zI h11 (zR h11 l0 11) 13) h11) ∧ (l1 = 0 → (zK h11 l0 = 11) ∧ ((zR h11 l0 11) ≠ 0) ∧ (zK h11 (zR h11 l0 11) = 7) ∧ ψ (zI h11 (zR h11 l0 11) 14) h11))) ∧ (x13 = 0 → ψ (-5) h11))))) ∧ (x2 = 0 → ψ (-2) h1)))) : ZcI mX10_best [.ref l0, .int l1] h ψ := by
  refine Zc.intro (L := [some (.ref l0), some (.int l1)]) (show plainName RX10 = true by decide) rfl (Nat.le_of_ble_eq_true rfl) ?_
  show Zt _ _ 0 0 _ _ _ _
  refine z_iload_n (q := 1) dX10_best_0 rfl rfl rfl ?_
  refine z_iconst (q := 2) (v := 0) dX10_best_1 (by decide) rfl ?_
  refine z_iconst (q := 3) (v := 1) dX10_best_2 (by decide) rfl ?_
  refine z_callSI (rc := 0) (rs := 0) (av := [.int l1, .int 0, .int 1]) (q := 6) hF dX10_best_3 ml_X10_106 ok_X10_isWithin st_X10_isWithin rfl (Nat.le_of_ble_eq_true rfl) (by decide) (Nat.le_of_ble_eq_true rfl) rfl rfl rfl rfl (fun x2 h1 hF => ?_)
  refine z_if_ne (t := 12) (q := 9) dX10_best_6 (by decide) rfl (fun hc => ?_) (fun hc => ?_)
  · have hF := hF.1 hc
    refine z_aload_n (q := 13) dX10_best_12 rfl rfl rfl ?_
    obtain ⟨g3, hF⟩ := hF
    obtain ⟨g4, hF⟩ := hF
    refine z_getR (c := 10) (k := 11) (r := (RX10, TX10, 15)) (q := 16) dX10_best_13 rfl (by decide) fl_X10_78 rfl g3 g4 rfl ?_
    refine z_aload_n (q := 17) dX10_best_16 rfl rfl rfl ?_
    obtain ⟨g5, hF⟩ := hF
    refine z_getR (c := 10) (k := 1) (r := (RX10, TX10, 15)) (q := 20) dX10_best_17 rfl (by decide) fl_X10_17 rfl g3 g5 rfl ?_
    refine z_aload_n (q := 21) dX10_best_20 rfl rfl rfl ?_
    refine z_getI (c := 10) (k := 12) (r := (RX10, TX10, 15)) (q := 24) dX10_best_21 rfl (by decide) fl_X10_110 rfl g3 rfl ?_
    refine z_aload_n (q := 25) dX10_best_24 rfl rfl rfl ?_
    obtain ⟨g6, hF⟩ := hF
    refine z_getR (c := 10) (k := 4) (r := (RX10, TX10, 15)) (q := 28) dX10_best_25 rfl (by decide) fl_X10_37 rfl g3 g6 rfl ?_
    obtain ⟨g8, hF⟩ := hF
    refine z_callVV (rc := 0) (rs := 0) (b := (zR h1 l0 11)) (av := [.ref (zR h1 l0 1), .int (zI h1 l0 12), .ref (zR h1 l0 4)]) (ci := 6) (r := (RX6, TX6, 15)) (q := 31) hF dX10_best_28 ml_X10_278 ok_X6_prepare in_X6_prepare se_X6_prepare rfl rfl g8 rfl (Nat.le_of_ble_eq_true rfl) (by decide) (Nat.le_of_ble_eq_true rfl) rfl rfl rfl rfl (fun h7 hF => ?_)
    refine z_aload_n (q := 32) dX10_best_31 rfl rfl rfl ?_
    obtain ⟨g9, hF⟩ := hF
    obtain ⟨g10, hF⟩ := hF
    refine z_getR (c := 10) (k := 11) (r := (RX10, TX10, 15)) (q := 35) dX10_best_32 rfl (by decide) fl_X10_78 rfl g9 g10 rfl ?_
    obtain ⟨g12, hF⟩ := hF
    refine z_callVI (rc := 0) (rs := 0) (b := (zR h7 l0 11)) (av := []) (ci := 6) (r := (RX6, TX6, 15)) (q := 38) hF dX10_best_35 ml_X10_295 ok_X6_findBest in_X6_findBest se_X6_findBest rfl rfl g12 rfl (Nat.le_of_ble_eq_true rfl) (by decide) (Nat.le_of_ble_eq_true rfl) rfl rfl rfl rfl (fun x13 h11 hF => ?_)
    refine z_if_ne (t := 44) (q := 41) dX10_best_38 (by decide) rfl (fun hc => ?_) (fun hc => ?_)
    · have hF := hF.1 hc
      refine z_iload_n (q := 45) dX10_best_44 rfl rfl rfl ?_
      refine z_if_ne (t := 58) (q := 48) dX10_best_45 (by decide) rfl (fun hc => ?_) (fun hc => ?_)
      · have hF := hF.1 hc
        refine z_aload_n (q := 59) dX10_best_58 rfl rfl rfl ?_
        obtain ⟨g14, hF⟩ := hF
        obtain ⟨g15, hF⟩ := hF
        refine z_getR (c := 10) (k := 11) (r := (RX10, TX10, 15)) (q := 62) dX10_best_59 rfl (by decide) fl_X10_78 rfl g14 g15 rfl ?_
        obtain ⟨g16, hF⟩ := hF
        refine z_getI (c := 6) (k := 13) (r := (RX6, TX6, 15)) (q := 65) dX10_best_62 rfl (by decide) fl_X10_301 rfl g16 rfl ?_
        exact z_ireturn dX10_best_65 rfl ⟨_, rfl, hF⟩
      · have hF := hF.2 hc
        refine z_aload_n (q := 49) dX10_best_48 rfl rfl rfl ?_
        obtain ⟨g17, hF⟩ := hF
        obtain ⟨g18, hF⟩ := hF
        refine z_getR (c := 10) (k := 11) (r := (RX10, TX10, 15)) (q := 52) dX10_best_49 rfl (by decide) fl_X10_78 rfl g17 g18 rfl ?_
        obtain ⟨g19, hF⟩ := hF
        refine z_getI (c := 6) (k := 14) (r := (RX6, TX6, 15)) (q := 55) dX10_best_52 rfl (by decide) fl_X10_298 rfl g19 rfl ?_
        refine z_goto (q := 65) dX10_best_55 (by decide) ?_
        exact z_ireturn dX10_best_65 rfl ⟨_, rfl, hF⟩
    · have hF := hF.2 hc
      refine z_bipush (q := 43) (v := (-5)) dX10_best_41 (by decide) rfl ?_
      exact z_ireturn dX10_best_43 rfl ⟨_, rfl, hF⟩
  · have hF := hF.2 hc
    refine z_bipush (q := 11) (v := (-2)) dX10_best_9 (by decide) rfl ?_
    exact z_ireturn dX10_best_11 rfl ⟨_, rfl, hF⟩
set_option maxRecDepth 100000 in
set_option maxHeartbeats 4000000 in
theorem wX10_vote_42 {ψ : Int32 → ZH → Prop} {l0 : Nat} {l1 : Int32} {l2 : Int32} {l3 : Int32} {l4 : Int32} {h : ZH} (hF : (zK h l0 = 11) ∧ (((zI h l0 13) ≤ l4 → ((¬ l2 = 0 → ZcI mX10_menAt [.ref l0, .int l1] h (fun x3 h2 => (((2 * l3) ≤ x3 → ZcI mX10_asOne [.int 0] h2 (fun x5 h4 => ψ x5 h4)) ∧ (¬ (2 * l3) ≤ x3 → ZcI mX10_asOne [.int 1] h2 (fun x7 h6 => ψ x7 h6))))) ∧ (l2 = 0 → ψ l3 h))) ∧ (¬ (zI h l0 13) ≤ l4 → ((zR h l0 2) ≠ 0) ∧ (zK h (zR h l0 2) = 24) ∧ (vp_in l4 (zN h (zR h l0 2))) ∧ ((zR h (zR h l0 2) (Int32.toNatClampNeg l4)) ≠ 0) ∧ (zK h (zR h (zR h l0 2) (Int32.toNatClampNeg l4)) = 2) ∧ ((¬ (zI h (zR h (zR h l0 2) (Int32.toNatClampNeg l4)) 4) = l1 → Zt mX10_vote (zPI ψ) 0 0 42 [some (.ref l0), some (.int l1), some (.int l2), some (.int l3), some (.int (l4 + 1))] [] h) ∧ ((zI h (zR h (zR h l0 2) (Int32.toNatClampNeg l4)) 4) = l1 → ZcI mX10_isTrue [.ref l0, .int 2, .ref (zR h (zR h l0 2) (Int32.toNatClampNeg l4))] h (fun x14 h13 => ((x14 = 0 → Zt mX10_vote (zPI ψ) 0 0 42 [some (.ref l0), some (.int l1), some (.int l2), some (.int l3), some (.int (l4 + 1))] [] h13) ∧ (¬ x14 = 0 → Zt mX10_vote (zPI ψ) 0 0 42 [some (.ref l0), some (.int l1), some (.int l2), some (.int (l3 + 1)), some (.int (l4 + 1))] [] h13)))))))) : Zt mX10_vote (zPI ψ) 0 0 42 [some (.ref l0), some (.int l1), some (.int l2), some (.int l3), some (.int l4)] [] h := by
  refine z_iload (q := 44) dX10_vote_42 rfl rfl ?_
  refine z_aload_n (q := 45) dX10_vote_44 rfl rfl rfl ?_
  obtain ⟨g1, hF⟩ := hF
  refine z_getI (c := 10) (k := 13) (r := (RX10, TX10, 15)) (q := 48) dX10_vote_45 rfl (by decide) fl_X10_164 rfl g1 rfl ?_
  refine z_icmp_ge (t := 89) (q := 51) dX10_vote_48 (by decide) rfl (fun hc => ?_) (fun hc => ?_)
  · have hF := hF.1 hc
    refine z_iload_n (q := 90) dX10_vote_89 rfl rfl rfl ?_
    refine z_if_ne (t := 97) (q := 93) dX10_vote_90 (by decide) rfl (fun hc => ?_) (fun hc => ?_)
    · have hF := hF.1 hc
      refine z_iconst (q := 98) (v := 2) dX10_vote_97 (by decide) rfl ?_
      refine z_iload_n (q := 99) dX10_vote_98 rfl rfl rfl ?_
      refine z_imul (q := 100) dX10_vote_99 rfl ?_
      refine z_aload_n (q := 101) dX10_vote_100 rfl rfl rfl ?_
      refine z_iload_n (q := 102) dX10_vote_101 rfl rfl rfl ?_
      refine z_callVI (rc := 0) (rs := 0) (b := l0) (av := [.int l1]) (ci := 10) (r := (RX10, TX10, 15)) (q := 105) hF dX10_vote_102 ml_X10_144 ok_X10_menAt in_X10_menAt se_X10_menAt rfl rfl g1 rfl (Nat.le_of_ble_eq_true rfl) (by decide) (Nat.le_of_ble_eq_true rfl) rfl rfl rfl rfl (fun x3 h2 hF => ?_)
      refine z_icmp_le (t := 112) (q := 108) dX10_vote_105 (by decide) rfl (fun hc => ?_) (fun hc => ?_)
      · have hF := hF.1 hc
        refine z_iconst (q := 113) (v := 0) dX10_vote_112 (by decide) rfl ?_
        refine z_callSI (rc := 0) (rs := 0) (av := [.int 0]) (q := 116) hF dX10_vote_113 ml_X10_140 ok_X10_asOne st_X10_asOne rfl (Nat.le_of_ble_eq_true rfl) (by decide) (Nat.le_of_ble_eq_true rfl) rfl rfl rfl rfl (fun x5 h4 hF => ?_)
        exact z_ireturn dX10_vote_116 rfl ⟨_, rfl, hF⟩
      · have hF := hF.2 hc
        refine z_iconst (q := 109) (v := 1) dX10_vote_108 (by decide) rfl ?_
        refine z_goto (q := 113) dX10_vote_109 (by decide) ?_
        refine z_callSI (rc := 0) (rs := 0) (av := [.int 1]) (q := 116) hF dX10_vote_113 ml_X10_140 ok_X10_asOne st_X10_asOne rfl (Nat.le_of_ble_eq_true rfl) (by decide) (Nat.le_of_ble_eq_true rfl) rfl rfl rfl rfl (fun x7 h6 hF => ?_)
        exact z_ireturn dX10_vote_116 rfl ⟨_, rfl, hF⟩
    · have hF := hF.2 hc
      refine z_iload_n (q := 94) dX10_vote_93 rfl rfl rfl ?_
      refine z_goto (q := 116) dX10_vote_94 (by decide) ?_
      exact z_ireturn dX10_vote_116 rfl ⟨_, rfl, hF⟩
  · have hF := hF.2 hc
    refine z_aload_n (q := 52) dX10_vote_51 rfl rfl rfl ?_
    obtain ⟨g8, hF⟩ := hF
    refine z_getR (c := 10) (k := 2) (r := (RX10, TX10, 15)) (q := 55) dX10_vote_52 rfl (by decide) fl_X10_23 rfl g1 g8 rfl ?_
    refine z_iload (q := 57) dX10_vote_55 rfl rfl ?_
    obtain ⟨g9, hF⟩ := hF
    obtain ⟨g10, hF⟩ := hF
    obtain ⟨g11, hF⟩ := hF
    refine y_aald (kd := 24) (j := (Int32.toNatClampNeg l4)) (q := 58) dX10_vote_57 g9 (by decide) (by decide) rfl g10 rfl g11 rfl ?_
    obtain ⟨g12, hF⟩ := hF
    refine z_getI (c := 1) (k := 4) (r := (RX1, TX1, 7)) (q := 61) dX10_vote_58 rfl (by decide) fl_X10_185 rfl g12 rfl ?_
    refine z_iload_n (q := 62) dX10_vote_61 rfl rfl rfl ?_
    refine z_icmp_ne (t := 83) (q := 65) dX10_vote_62 (by decide) rfl (fun hc => ?_) (fun hc => ?_)
    · have hF := hF.1 hc
      refine z_iinc (q := 86) (v := (l4 + 1)) (L' := [some (.ref l0), some (.int l1), some (.int l2), some (.int l3), some (.int (l4 + 1))]) dX10_vote_83 rfl rfl (Nat.le_of_ble_eq_true rfl) rfl rfl rfl ?_
      refine z_goto (q := 42) dX10_vote_86 (by decide) ?_
      exact hF
    · have hF := hF.2 hc
      refine z_aload_n (q := 66) dX10_vote_65 rfl rfl rfl ?_
      refine z_iconst (q := 67) (v := 2) dX10_vote_66 (by decide) rfl ?_
      refine z_aload_n (q := 68) dX10_vote_67 rfl rfl rfl ?_
      refine z_getR (c := 10) (k := 2) (r := (RX10, TX10, 15)) (q := 71) dX10_vote_68 rfl (by decide) fl_X10_23 rfl g1 g8 rfl ?_
      refine z_iload (q := 73) dX10_vote_71 rfl rfl ?_
      refine y_aald (kd := 24) (j := (Int32.toNatClampNeg l4)) (q := 74) dX10_vote_73 g9 (by decide) (by decide) rfl g10 rfl g11 rfl ?_
      refine z_callVI (rc := 0) (rs := 0) (b := l0) (av := [.int 2, .ref (zR h (zR h l0 2) (Int32.toNatClampNeg l4))]) (ci := 10) (r := (RX10, TX10, 15)) (q := 77) hF dX10_vote_74 ml_X10_304 ok_X10_isTrue in_X10_isTrue se_X10_isTrue rfl rfl g1 rfl (Nat.le_of_ble_eq_true rfl) (by decide) (Nat.le_of_ble_eq_true rfl) rfl rfl rfl rfl (fun x14 h13 hF => ?_)
      refine z_if_eq (t := 83) (q := 80) dX10_vote_77 (by decide) rfl (fun hc => ?_) (fun hc => ?_)
      · have hF := hF.1 hc
        refine z_iinc (q := 86) (v := (l4 + 1)) (L' := [some (.ref l0), some (.int l1), some (.int l2), some (.int l3), some (.int (l4 + 1))]) dX10_vote_83 rfl rfl (Nat.le_of_ble_eq_true rfl) rfl rfl rfl ?_
        refine z_goto (q := 42) dX10_vote_86 (by decide) ?_
        exact hF
      · have hF := hF.2 hc
        refine z_iinc (q := 83) (v := (l3 + 1)) (L' := [some (.ref l0), some (.int l1), some (.int l2), some (.int (l3 + 1)), some (.int l4)]) dX10_vote_80 rfl rfl (Nat.le_of_ble_eq_true rfl) rfl rfl rfl ?_
        refine z_iinc (q := 86) (v := (l4 + 1)) (L' := [some (.ref l0), some (.int l1), some (.int l2), some (.int (l3 + 1)), some (.int (l4 + 1))]) dX10_vote_83 rfl rfl (Nat.le_of_ble_eq_true rfl) rfl rfl rfl ?_
        refine z_goto (q := 42) dX10_vote_86 (by decide) ?_
        exact hF
set_option maxRecDepth 100000 in
set_option maxHeartbeats 4000000 in
theorem wX10_vote {ψ : Int32 → ZH → Prop} {l0 : Nat} {l1 : Int32} {l2 : Int32} {h : ZH} (hF : (zK h l0 = 11) ∧ ZcI mX10_isPit [.ref l0, .int l1] h (fun x17 h15 => ((¬ x17 = 0 → ZcI mX10_isWithin [.int l2, .int 0, .int 1] h15 (fun x19 h18 => ((¬ x19 = 0 → (zK h18 l0 = 11) ∧ ((zR h18 l0 1) ≠ 0) ∧ (zK h18 (zR h18 l0 1) = 25) ∧ (vp_in l1 (zN h18 (zR h18 l0 1))) ∧ ((zR h18 (zR h18 l0 1) (Int32.toNatClampNeg l1)) ≠ 0) ∧ (zK h18 (zR h18 (zR h18 l0 1) (Int32.toNatClampNeg l1)) = 5) ∧ ((¬ (zI h18 (zR h18 (zR h18 l0 1) (Int32.toNatClampNeg l1)) 5) = 0 → Zt mX10_vote (zPI ψ) 0 0 42 [some (.ref l0), some (.int l1), some (.int l2), some (.int 0), some (.int 0)] [] h18) ∧ ((zI h18 (zR h18 (zR h18 l0 1) (Int32.toNatClampNeg l1)) 5) = 0 → ψ (-3) h18))) ∧ (x19 = 0 → ψ (-2) h18)))) ∧ (x17 = 0 → ψ (-1) h15)))) : ZcI mX10_vote [.ref l0, .int l1, .int l2] h ψ := by
  refine Zc.intro (L := [some (.ref l0), some (.int l1), some (.int l2), none, none]) (show plainName RX10 = true by decide) rfl (Nat.le_of_ble_eq_true rfl) ?_
  show Zt _ _ 0 0 _ _ _ _
  refine z_aload_n (q := 1) dX10_vote_0 rfl rfl rfl ?_
  refine z_iload_n (q := 2) dX10_vote_1 rfl rfl rfl ?_
  obtain ⟨g16, hF⟩ := hF
  refine z_callVI (rc := 0) (rs := 0) (b := l0) (av := [.int l1]) (ci := 10) (r := (RX10, TX10, 15)) (q := 5) hF dX10_vote_2 ml_X10_120 ok_X10_isPit in_X10_isPit se_X10_isPit rfl rfl g16 rfl (Nat.le_of_ble_eq_true rfl) (by decide) (Nat.le_of_ble_eq_true rfl) rfl rfl rfl rfl (fun x17 h15 hF => ?_)
  refine z_if_ne (t := 10) (q := 8) dX10_vote_5 (by decide) rfl (fun hc => ?_) (fun hc => ?_)
  · have hF := hF.1 hc
    refine z_iload_n (q := 11) dX10_vote_10 rfl rfl rfl ?_
    refine z_iconst (q := 12) (v := 0) dX10_vote_11 (by decide) rfl ?_
    refine z_iconst (q := 13) (v := 1) dX10_vote_12 (by decide) rfl ?_
    refine z_callSI (rc := 0) (rs := 0) (av := [.int l2, .int 0, .int 1]) (q := 16) hF dX10_vote_13 ml_X10_106 ok_X10_isWithin st_X10_isWithin rfl (Nat.le_of_ble_eq_true rfl) (by decide) (Nat.le_of_ble_eq_true rfl) rfl rfl rfl rfl (fun x19 h18 hF => ?_)
    refine z_if_ne (t := 22) (q := 19) dX10_vote_16 (by decide) rfl (fun hc => ?_) (fun hc => ?_)
    · have hF := hF.1 hc
      refine z_aload_n (q := 23) dX10_vote_22 rfl rfl rfl ?_
      obtain ⟨g20, hF⟩ := hF
      obtain ⟨g21, hF⟩ := hF
      refine z_getR (c := 10) (k := 1) (r := (RX10, TX10, 15)) (q := 26) dX10_vote_23 rfl (by decide) fl_X10_17 rfl g20 g21 rfl ?_
      refine z_iload_n (q := 27) dX10_vote_26 rfl rfl rfl ?_
      obtain ⟨g22, hF⟩ := hF
      obtain ⟨g23, hF⟩ := hF
      obtain ⟨g24, hF⟩ := hF
      refine y_aald (kd := 25) (j := (Int32.toNatClampNeg l1)) (q := 28) dX10_vote_27 g22 (by decide) (by decide) rfl g23 rfl g24 rfl ?_
      obtain ⟨g25, hF⟩ := hF
      refine z_getI (c := 4) (k := 5) (r := (RX4, TX4, 8)) (q := 31) dX10_vote_28 rfl (by decide) fl_X10_136 rfl g25 rfl ?_
      refine z_if_ne (t := 37) (q := 34) dX10_vote_31 (by decide) rfl (fun hc => ?_) (fun hc => ?_)
      · have hF := hF.1 hc
        refine z_iconst (q := 38) (v := 0) dX10_vote_37 (by decide) rfl ?_
        refine z_istore_n (q := 39) (L' := [some (.ref l0), some (.int l1), some (.int l2), some (.int 0), none]) dX10_vote_38 rfl (Nat.le_of_ble_eq_true rfl) rfl rfl rfl ?_
        refine z_iconst (q := 40) (v := 0) dX10_vote_39 (by decide) rfl ?_
        refine z_istore (q := 42) (L' := [some (.ref l0), some (.int l1), some (.int l2), some (.int 0), some (.int 0)]) dX10_vote_40 (Nat.le_of_ble_eq_true rfl) rfl rfl rfl ?_
        exact hF
      · have hF := hF.2 hc
        refine z_bipush (q := 36) (v := (-3)) dX10_vote_34 (by decide) rfl ?_
        exact z_ireturn dX10_vote_36 rfl ⟨_, rfl, hF⟩
    · have hF := hF.2 hc
      refine z_bipush (q := 21) (v := (-2)) dX10_vote_19 (by decide) rfl ?_
      exact z_ireturn dX10_vote_21 rfl ⟨_, rfl, hF⟩
  · have hF := hF.2 hc
    refine z_iconst (q := 9) (v := (-1)) dX10_vote_8 (by decide) rfl ?_
    exact z_ireturn dX10_vote_9 rfl ⟨_, rfl, hF⟩
set_option maxRecDepth 100000 in
set_option maxHeartbeats 4000000 in
theorem wX10_worked {ψ : Int32 → ZH → Prop} {l0 : Nat} {l1 : Int32} {l2 : Int32} {l3 : Int32} {h : ZH} (hF : (zK h l0 = 11) ∧ ZcI mX10_isPit [.ref l0, .int l1] h (fun x3 h1 => ((¬ x3 = 0 → ZcI mX10_isWithin [.int l2, .int 0, .int 99] h1 (fun x5 h4 => ((x5 = 0 → ψ (-2) h4) ∧ (¬ x5 = 0 → ZcI mX10_isWithin [.int l3, .int l2, .int 99] h4 (fun x7 h6 => ((¬ x7 = 0 → (zK h6 l0 = 11) ∧ ((zR h6 l0 1) ≠ 0) ∧ (zK h6 (zR h6 l0 1) = 25) ∧ (vp_in l1 (zN h6 (zR h6 l0 1))) ∧ ((zR h6 (zR h6 l0 1) (Int32.toNatClampNeg l1)) ≠ 0) ∧ (zK h6 (zR h6 (zR h6 l0 1) (Int32.toNatClampNeg l1)) = 5) ∧ ψ 1 (zsI (zsI h6 (zR h6 (zR h6 l0 1) (Int32.toNatClampNeg l1)) 6 l2) (zR h6 (zR h6 l0 1) (Int32.toNatClampNeg l1)) 7 l3)) ∧ (x7 = 0 → ψ (-2) h6))))))) ∧ (x3 = 0 → ψ (-1) h1)))) : ZcI mX10_worked [.ref l0, .int l1, .int l2, .int l3] h ψ := by
  refine Zc.intro (L := [some (.ref l0), some (.int l1), some (.int l2), some (.int l3)]) (show plainName RX10 = true by decide) rfl (Nat.le_of_ble_eq_true rfl) ?_
  show Zt _ _ 0 0 _ _ _ _
  refine z_aload_n (q := 1) dX10_worked_0 rfl rfl rfl ?_
  refine z_iload_n (q := 2) dX10_worked_1 rfl rfl rfl ?_
  obtain ⟨g2, hF⟩ := hF
  refine z_callVI (rc := 0) (rs := 0) (b := l0) (av := [.int l1]) (ci := 10) (r := (RX10, TX10, 15)) (q := 5) hF dX10_worked_2 ml_X10_120 ok_X10_isPit in_X10_isPit se_X10_isPit rfl rfl g2 rfl (Nat.le_of_ble_eq_true rfl) (by decide) (Nat.le_of_ble_eq_true rfl) rfl rfl rfl rfl (fun x3 h1 hF => ?_)
  refine z_if_ne (t := 10) (q := 8) dX10_worked_5 (by decide) rfl (fun hc => ?_) (fun hc => ?_)
  · have hF := hF.1 hc
    refine z_iload_n (q := 11) dX10_worked_10 rfl rfl rfl ?_
    refine z_iconst (q := 12) (v := 0) dX10_worked_11 (by decide) rfl ?_
    refine z_bipush (q := 14) (v := 99) dX10_worked_12 (by decide) rfl ?_
    refine z_callSI (rc := 0) (rs := 0) (av := [.int l2, .int 0, .int 99]) (q := 17) hF dX10_worked_14 ml_X10_106 ok_X10_isWithin st_X10_isWithin rfl (Nat.le_of_ble_eq_true rfl) (by decide) (Nat.le_of_ble_eq_true rfl) rfl rfl rfl rfl (fun x5 h4 hF => ?_)
    refine z_if_eq (t := 30) (q := 20) dX10_worked_17 (by decide) rfl (fun hc => ?_) (fun hc => ?_)
    · have hF := hF.1 hc
      refine z_bipush (q := 32) (v := (-2)) dX10_worked_30 (by decide) rfl ?_
      exact z_ireturn dX10_worked_32 rfl ⟨_, rfl, hF⟩
    · have hF := hF.2 hc
      refine z_iload_n (q := 21) dX10_worked_20 rfl rfl rfl ?_
      refine z_iload_n (q := 22) dX10_worked_21 rfl rfl rfl ?_
      refine z_bipush (q := 24) (v := 99) dX10_worked_22 (by decide) rfl ?_
      refine z_callSI (rc := 0) (rs := 0) (av := [.int l3, .int l2, .int 99]) (q := 27) hF dX10_worked_24 ml_X10_106 ok_X10_isWithin st_X10_isWithin rfl (Nat.le_of_ble_eq_true rfl) (by decide) (Nat.le_of_ble_eq_true rfl) rfl rfl rfl rfl (fun x7 h6 hF => ?_)
      refine z_if_ne (t := 33) (q := 30) dX10_worked_27 (by decide) rfl (fun hc => ?_) (fun hc => ?_)
      · have hF := hF.1 hc
        refine z_aload_n (q := 34) dX10_worked_33 rfl rfl rfl ?_
        obtain ⟨g8, hF⟩ := hF
        obtain ⟨g9, hF⟩ := hF
        refine z_getR (c := 10) (k := 1) (r := (RX10, TX10, 15)) (q := 37) dX10_worked_34 rfl (by decide) fl_X10_17 rfl g8 g9 rfl ?_
        refine z_iload_n (q := 38) dX10_worked_37 rfl rfl rfl ?_
        obtain ⟨g10, hF⟩ := hF
        obtain ⟨g11, hF⟩ := hF
        obtain ⟨g12, hF⟩ := hF
        refine y_aald (kd := 25) (j := (Int32.toNatClampNeg l1)) (q := 39) dX10_worked_38 g10 (by decide) (by decide) rfl g11 rfl g12 rfl ?_
        refine z_iload_n (q := 40) dX10_worked_39 rfl rfl rfl ?_
        obtain ⟨g13, hF⟩ := hF
        refine z_putI (c := 4) (k := 6) (r := (RX4, TX4, 8)) (q := 43) dX10_worked_40 rfl (by decide) fl_X10_308 rfl rfl g13 rfl ?_
        refine z_aload_n (q := 44) dX10_worked_43 rfl rfl rfl ?_
        refine z_getR (c := 10) (k := 1) (r := (RX10, TX10, 15)) (q := 47) dX10_worked_44 rfl (by decide) fl_X10_17 rfl g8 g9 rfl ?_
        refine z_iload_n (q := 48) dX10_worked_47 rfl rfl rfl ?_
        refine y_aald (kd := 25) (j := (Int32.toNatClampNeg l1)) (q := 49) dX10_worked_48 g10 (by decide) (by decide) rfl g11 rfl g12 rfl ?_
        refine z_iload_n (q := 50) dX10_worked_49 rfl rfl rfl ?_
        refine z_putI (c := 4) (k := 7) (r := (RX4, TX4, 8)) (q := 53) dX10_worked_50 rfl (by decide) fl_X10_311 rfl rfl g13 rfl ?_
        refine z_iconst (q := 54) (v := 1) dX10_worked_53 (by decide) rfl ?_
        exact z_ireturn dX10_worked_54 rfl ⟨_, rfl, hF⟩
      · have hF := hF.2 hc
        refine z_bipush (q := 32) (v := (-2)) dX10_worked_30 (by decide) rfl ?_
        exact z_ireturn dX10_worked_32 rfl ⟨_, rfl, hF⟩
  · have hF := hF.2 hc
    refine z_iconst (q := 9) (v := (-1)) dX10_worked_8 (by decide) rfl ?_
    exact z_ireturn dX10_worked_9 rfl ⟨_, rfl, hF⟩
set_option maxRecDepth 100000 in
set_option maxHeartbeats 4000000 in
theorem wX10_harm {ψ : Int32 → ZH → Prop} {l0 : Nat} {l1 : Int32} {l2 : Int32} {l3 : Int32} {l4 : Int32} {h : ZH} (hF : ZcI mX10_isPlace [.int l1, .int l2] h (fun x2 h1 => ((x2 = 0 → ψ (-2) h1) ∧ (¬ x2 = 0 → ZcI mX10_isWithin [.int l3, .int 0, .int 99] h1 (fun x4 h3 => ((x4 = 0 → ψ (-2) h3) ∧ (¬ x4 = 0 → ZcI mX10_isWithin [.int l4, .int 0, .int 100000] h3 (fun x6 h5 => ((¬ x6 = 0 → (zK h5 l0 = 11) ∧ (((zI h5 l0 14) < 10 → ((zR h5 l0 3) ≠ 0) ∧ ∃ a9 : Nat, a9 ≠ 0 ∧ zK h5 a9 = 0 ∧ ∀ h12 : ZH, h12 = (zmk h5 a9 1 0) → ∃ a14 : Nat, a14 ≠ 0 ∧ zK h12 a14 = 0 ∧ ∀ h17 : ZH, h17 = (zmk h12 a14 6 0) → ZcV mX5_init [.ref a14, .int l1, .int l2] h17 (fun h19 => ZcV mX0_init [.ref a9, .ref a14, .int l3, .int l4] h19 (fun h20 => (zK h20 (zR h5 l0 3) = 23) ∧ (vp_in (zI h5 l0 14) (zN h20 (zR h5 l0 3))) ∧ (zK h20 a9 = 1) ∧ (zK h20 l0 = 11) ∧ ψ (zI h20 l0 14) (zsI (zsR h20 (zR h5 l0 3) (Int32.toNatClampNeg (zI h5 l0 14)) a9) l0 14 ((zI h20 l0 14) + 1))))) ∧ (¬ (zI h5 l0 14) < 10 → ψ (-4) h5))) ∧ (x6 = 0 → ψ (-2) h5)))))))))) : ZcI mX10_harm [.ref l0, .int l1, .int l2, .int l3, .int l4] h ψ := by
  refine Zc.intro (L := [some (.ref l0), some (.int l1), some (.int l2), some (.int l3), some (.int l4)]) (show plainName RX10 = true by decide) rfl (Nat.le_of_ble_eq_true rfl) ?_
  show Zt _ _ 2 5 _ _ _ _
  refine z_iload_n (q := 1) dX10_harm_0 rfl rfl rfl ?_
  refine z_iload_n (q := 2) dX10_harm_1 rfl rfl rfl ?_
  refine z_callSI (rc := 2) (rs := 5) (av := [.int l1, .int l2]) (q := 5) hF dX10_harm_2 ml_X10_95 ok_X10_isPlace st_X10_isPlace rfl (Nat.le_of_ble_eq_true rfl) (by decide) (Nat.le_of_ble_eq_true rfl) rfl rfl rfl rfl (fun x2 h1 hF => ?_)
  refine z_if_eq (t := 30) (q := 8) dX10_harm_5 (by decide) rfl (fun hc => ?_) (fun hc => ?_)
  · have hF := hF.1 hc
    refine z_bipush (q := 32) (v := (-2)) dX10_harm_30 (by decide) rfl ?_
    exact z_ireturn dX10_harm_32 rfl ⟨_, rfl, hF⟩
  · have hF := hF.2 hc
    refine z_iload_n (q := 9) dX10_harm_8 rfl rfl rfl ?_
    refine z_iconst (q := 10) (v := 0) dX10_harm_9 (by decide) rfl ?_
    refine z_bipush (q := 12) (v := 99) dX10_harm_10 (by decide) rfl ?_
    refine z_callSI (rc := 2) (rs := 5) (av := [.int l3, .int 0, .int 99]) (q := 15) hF dX10_harm_12 ml_X10_106 ok_X10_isWithin st_X10_isWithin rfl (Nat.le_of_ble_eq_true rfl) (by decide) (Nat.le_of_ble_eq_true rfl) rfl rfl rfl rfl (fun x4 h3 hF => ?_)
    refine z_if_eq (t := 30) (q := 18) dX10_harm_15 (by decide) rfl (fun hc => ?_) (fun hc => ?_)
    · have hF := hF.1 hc
      refine z_bipush (q := 32) (v := (-2)) dX10_harm_30 (by decide) rfl ?_
      exact z_ireturn dX10_harm_32 rfl ⟨_, rfl, hF⟩
    · have hF := hF.2 hc
      refine z_iload (q := 20) dX10_harm_18 rfl rfl ?_
      refine z_iconst (q := 21) (v := 0) dX10_harm_20 (by decide) rfl ?_
      refine z_ldcw (q := 24) (v := 100000) dX10_harm_21 cw_X10_314 rfl ?_
      refine z_callSI (rc := 2) (rs := 5) (av := [.int l4, .int 0, .int 100000]) (q := 27) hF dX10_harm_24 ml_X10_106 ok_X10_isWithin st_X10_isWithin rfl (Nat.le_of_ble_eq_true rfl) (by decide) (Nat.le_of_ble_eq_true rfl) rfl rfl rfl rfl (fun x6 h5 hF => ?_)
      refine z_if_ne (t := 33) (q := 30) dX10_harm_27 (by decide) rfl (fun hc => ?_) (fun hc => ?_)
      · have hF := hF.1 hc
        refine z_aload_n (q := 34) dX10_harm_33 rfl rfl rfl ?_
        obtain ⟨g7, hF⟩ := hF
        refine z_getI (c := 10) (k := 14) (r := (RX10, TX10, 15)) (q := 37) dX10_harm_34 rfl (by decide) fl_X10_315 rfl g7 rfl ?_
        refine z_bipush (q := 39) (v := 10) dX10_harm_37 (by decide) rfl ?_
        refine z_icmp_lt (t := 45) (q := 42) dX10_harm_39 (by decide) rfl (fun hc => ?_) (fun hc => ?_)
        · have hF := hF.1 hc
          refine z_aload_n (q := 46) dX10_harm_45 rfl rfl rfl ?_
          obtain ⟨g8, hF⟩ := hF
          refine z_getR (c := 10) (k := 3) (r := (RX10, TX10, 15)) (q := 49) dX10_harm_46 rfl (by decide) fl_X10_29 rfl g7 g8 rfl ?_
          refine z_aload_n (q := 50) dX10_harm_49 rfl rfl rfl ?_
          refine z_getI (c := 10) (k := 14) (r := (RX10, TX10, 15)) (q := 53) dX10_harm_50 rfl (by decide) fl_X10_315 rfl g7 rfl ?_
          obtain ⟨a9, g10, g11, hF⟩ := hF
          refine z_new (rc := 1) (rs := 2) (a := a9) (c := 0) (r := (RX0, TX0, 3)) (q := 56) dX10_harm_53 rfl cl_X10_27 ni_X0 ii_X0 g10 g11 rfl ?_
          refine z_nameH (fun h12 eh13 => ?_)
          have hF := hF h12 eh13
          refine z_dup (q := 57) dX10_harm_56 rfl rfl ?_
          obtain ⟨a14, g15, g16, hF⟩ := hF
          refine z_new (rc := 0) (rs := 0) (a := a14) (c := 5) (r := (RX5, TX5, 2)) (q := 60) dX10_harm_57 rfl cl_X10_9 ni_X5 ii_X5 g15 g16 rfl ?_
          refine z_nameH (fun h17 eh18 => ?_)
          have hF := hF h17 eh18
          refine z_dup (q := 61) dX10_harm_60 rfl rfl ?_
          refine z_iload_n (q := 62) dX10_harm_61 rfl rfl rfl ?_
          refine z_iload_n (q := 63) dX10_harm_62 rfl rfl rfl ?_
          refine z_callCV (rc := 0) (rs := 0) (b := a14) (av := [.int l1, .int l2]) (q := 66) hF dX10_harm_63 ml_X10_82 ok_X5_init rfl in_X5_init rfl rfl (Nat.le_of_ble_eq_true rfl) (by decide) (Nat.le_of_ble_eq_true rfl) rfl rfl rfl rfl (fun h19 hF => ?_)
          refine z_iload_n (q := 67) dX10_harm_66 rfl rfl rfl ?_
          refine z_iload (q := 69) dX10_harm_67 rfl rfl ?_
          refine z_callCV (rc := 0) (rs := 0) (b := a9) (av := [.ref a14, .int l3, .int l4]) (q := 72) hF dX10_harm_69 ml_X10_318 ok_X0_init rfl in_X0_init rfl rfl (Nat.le_of_ble_eq_true rfl) (by decide) (Nat.le_of_ble_eq_true rfl) rfl rfl rfl rfl (fun h20 hF => ?_)
          obtain ⟨g21, hF⟩ := hF
          obtain ⟨g22, hF⟩ := hF
          obtain ⟨g23, hF⟩ := hF
          refine y_aast (kd := 23) (c := 0) (r := (RX0, TX0, 3)) (j := (Int32.toNatClampNeg (zI h5 l0 14))) (q := 73) dX10_harm_72 g21 (by decide) (by decide) rfl rfl g23 g22 rfl rfl ?_
          refine z_aload_n (q := 74) dX10_harm_73 rfl rfl rfl ?_
          refine z_dup (q := 75) dX10_harm_74 rfl rfl ?_
          obtain ⟨g24, hF⟩ := hF
          refine z_getI (c := 10) (k := 14) (r := (RX10, TX10, 15)) (q := 78) dX10_harm_75 rfl (by decide) fl_X10_315 rfl g24 rfl ?_
          refine z_dup_x1 (q := 79) dX10_harm_78 rfl rfl rfl ?_
          refine z_iconst (q := 80) (v := 1) dX10_harm_79 (by decide) rfl ?_
          refine z_iadd (q := 81) dX10_harm_80 rfl ?_
          refine z_putI (c := 10) (k := 14) (r := (RX10, TX10, 15)) (q := 84) dX10_harm_81 rfl (by decide) fl_X10_315 rfl rfl g24 rfl ?_
          exact z_ireturn dX10_harm_84 rfl ⟨_, rfl, hF⟩
        · have hF := hF.2 hc
          refine z_bipush (q := 44) (v := (-4)) dX10_harm_42 (by decide) rfl ?_
          exact z_ireturn dX10_harm_44 rfl ⟨_, rfl, hF⟩
      · have hF := hF.2 hc
        refine z_bipush (q := 32) (v := (-2)) dX10_harm_30 (by decide) rfl ?_
        exact z_ireturn dX10_harm_32 rfl ⟨_, rfl, hF⟩
set_option maxRecDepth 100000 in
set_option maxHeartbeats 4000000 in
theorem wX10_whose_14 {ψ : Int32 → ZH → Prop} {l0 : Nat} {l1 : Int32} {l2 : Int32} {l3 : Int32} {h : ZH} (hF : (zK h l0 = 11) ∧ (((zI h l0 12) ≤ l3 → ψ l2 h) ∧ (¬ (zI h l0 12) ≤ l3 → ((zR h l0 3) ≠ 0) ∧ (zK h (zR h l0 3) = 23) ∧ (vp_in l1 (zN h (zR h l0 3))) ∧ ((zR h (zR h l0 3) (Int32.toNatClampNeg l1)) ≠ 0) ∧ ZcI mX10_canBe [.ref l0, .int l3, .ref (zR h (zR h l0 3) (Int32.toNatClampNeg l1))] h (fun x7 h6 => ((x7 = 0 → Zt mX10_whose (zPI ψ) 0 0 14 [some (.ref l0), some (.int l1), some (.int l2), some (.int (l3 + 1))] [] h6) ∧ (¬ x7 = 0 → Zt mX10_whose (zPI ψ) 0 0 14 [some (.ref l0), some (.int l1), some (.int (l2 ||| ((1 : Int32) <<< (l3 &&& 31)))), some (.int (l3 + 1))] [] h6)))))) : Zt mX10_whose (zPI ψ) 0 0 14 [some (.ref l0), some (.int l1), some (.int l2), some (.int l3)] [] h := by
  refine z_iload_n (q := 15) dX10_whose_14 rfl rfl rfl ?_
  refine z_aload_n (q := 16) dX10_whose_15 rfl rfl rfl ?_
  obtain ⟨g1, hF⟩ := hF
  refine z_getI (c := 10) (k := 12) (r := (RX10, TX10, 15)) (q := 19) dX10_whose_16 rfl (by decide) fl_X10_110 rfl g1 rfl ?_
  refine z_icmp_ge (t := 48) (q := 22) dX10_whose_19 (by decide) rfl (fun hc => ?_) (fun hc => ?_)
  · have hF := hF.1 hc
    refine z_iload_n (q := 49) dX10_whose_48 rfl rfl rfl ?_
    exact z_ireturn dX10_whose_49 rfl ⟨_, rfl, hF⟩
  · have hF := hF.2 hc
    refine z_aload_n (q := 23) dX10_whose_22 rfl rfl rfl ?_
    refine z_iload_n (q := 24) dX10_whose_23 rfl rfl rfl ?_
    refine z_aload_n (q := 25) dX10_whose_24 rfl rfl rfl ?_
    obtain ⟨g2, hF⟩ := hF
    refine z_getR (c := 10) (k := 3) (r := (RX10, TX10, 15)) (q := 28) dX10_whose_25 rfl (by decide) fl_X10_29 rfl g1 g2 rfl ?_
    refine z_iload_n (q := 29) dX10_whose_28 rfl rfl rfl ?_
    obtain ⟨g3, hF⟩ := hF
    obtain ⟨g4, hF⟩ := hF
    obtain ⟨g5, hF⟩ := hF
    refine y_aald (kd := 23) (j := (Int32.toNatClampNeg l1)) (q := 30) dX10_whose_29 g3 (by decide) (by decide) rfl g4 rfl g5 rfl ?_
    refine z_callVI (rc := 0) (rs := 0) (b := l0) (av := [.int l3, .ref (zR h (zR h l0 3) (Int32.toNatClampNeg l1))]) (ci := 10) (r := (RX10, TX10, 15)) (q := 33) hF dX10_whose_30 ml_X10_324 ok_X10_canBe in_X10_canBe se_X10_canBe rfl rfl g1 rfl (Nat.le_of_ble_eq_true rfl) (by decide) (Nat.le_of_ble_eq_true rfl) rfl rfl rfl rfl (fun x7 h6 hF => ?_)
    refine z_if_eq (t := 42) (q := 36) dX10_whose_33 (by decide) rfl (fun hc => ?_) (fun hc => ?_)
    · have hF := hF.1 hc
      refine z_iinc (q := 45) (v := (l3 + 1)) (L' := [some (.ref l0), some (.int l1), some (.int l2), some (.int (l3 + 1))]) dX10_whose_42 rfl rfl (Nat.le_of_ble_eq_true rfl) rfl rfl rfl ?_
      refine z_goto (q := 14) dX10_whose_45 (by decide) ?_
      exact hF
    · have hF := hF.2 hc
      refine z_iload_n (q := 37) dX10_whose_36 rfl rfl rfl ?_
      refine z_iconst (q := 38) (v := 1) dX10_whose_37 (by decide) rfl ?_
      refine z_iload_n (q := 39) dX10_whose_38 rfl rfl rfl ?_
      refine z_ishl (q := 40) dX10_whose_39 rfl ?_
      refine z_ior (q := 41) dX10_whose_40 rfl ?_
      refine z_istore_n (q := 42) (L' := [some (.ref l0), some (.int l1), some (.int (l2 ||| ((1 : Int32) <<< (l3 &&& 31)))), some (.int l3)]) dX10_whose_41 rfl (Nat.le_of_ble_eq_true rfl) rfl rfl rfl ?_
      refine z_iinc (q := 45) (v := (l3 + 1)) (L' := [some (.ref l0), some (.int l1), some (.int (l2 ||| ((1 : Int32) <<< (l3 &&& 31)))), some (.int (l3 + 1))]) dX10_whose_42 rfl rfl (Nat.le_of_ble_eq_true rfl) rfl rfl rfl ?_
      refine z_goto (q := 14) dX10_whose_45 (by decide) ?_
      exact hF
set_option maxRecDepth 100000 in
set_option maxHeartbeats 4000000 in
theorem wX10_whose {ψ : Int32 → ZH → Prop} {l0 : Nat} {l1 : Int32} {h : ZH} (hF : (zK h l0 = 11) ∧ ZcI mX10_isHarm [.ref l0, .int l1] h (fun x10 h8 => ((¬ x10 = 0 → Zt mX10_whose (zPI ψ) 0 0 14 [some (.ref l0), some (.int l1), some (.int 0), some (.int 0)] [] h8) ∧ (x10 = 0 → ψ (-1) h8)))) : ZcI mX10_whose [.ref l0, .int l1] h ψ := by
  refine Zc.intro (L := [some (.ref l0), some (.int l1), none, none]) (show plainName RX10 = true by decide) rfl (Nat.le_of_ble_eq_true rfl) ?_
  show Zt _ _ 0 0 _ _ _ _
  refine z_aload_n (q := 1) dX10_whose_0 rfl rfl rfl ?_
  refine z_iload_n (q := 2) dX10_whose_1 rfl rfl rfl ?_
  obtain ⟨g9, hF⟩ := hF
  refine z_callVI (rc := 0) (rs := 0) (b := l0) (av := [.int l1]) (ci := 10) (r := (RX10, TX10, 15)) (q := 5) hF dX10_whose_2 ml_X10_321 ok_X10_isHarm in_X10_isHarm se_X10_isHarm rfl rfl g9 rfl (Nat.le_of_ble_eq_true rfl) (by decide) (Nat.le_of_ble_eq_true rfl) rfl rfl rfl rfl (fun x10 h8 hF => ?_)
  refine z_if_ne (t := 10) (q := 8) dX10_whose_5 (by decide) rfl (fun hc => ?_) (fun hc => ?_)
  · have hF := hF.1 hc
    refine z_iconst (q := 11) (v := 0) dX10_whose_10 (by decide) rfl ?_
    refine z_istore_n (q := 12) (L' := [some (.ref l0), some (.int l1), some (.int 0), none]) dX10_whose_11 rfl (Nat.le_of_ble_eq_true rfl) rfl rfl rfl ?_
    refine z_iconst (q := 13) (v := 0) dX10_whose_12 (by decide) rfl ?_
    refine z_istore_n (q := 14) (L' := [some (.ref l0), some (.int l1), some (.int 0), some (.int 0)]) dX10_whose_13 rfl (Nat.le_of_ble_eq_true rfl) rfl rfl rfl ?_
    exact hF
  · have hF := hF.2 hc
    refine z_iconst (q := 9) (v := (-1)) dX10_whose_8 (by decide) rfl ?_
    exact z_ireturn dX10_whose_9 rfl ⟨_, rfl, hF⟩
set_option maxRecDepth 100000 in
set_option maxHeartbeats 4000000 in
theorem wX10_part {ψ : Int32 → ZH → Prop} {l0 : Nat} {l1 : Int32} {l2 : Int32} {h : ZH} (hF : (zK h l0 = 11) ∧ ZcI mX10_isHarm [.ref l0, .int l1] h (fun x3 h1 => ((x3 = 0 → ψ (-1) h1) ∧ (¬ x3 = 0 → (zK h1 l0 = 11) ∧ ZcI mX10_isPit [.ref l0, .int l2] h1 (fun x6 h4 => ((¬ x6 = 0 → (zK h4 l0 = 11) ∧ ((zR h4 l0 3) ≠ 0) ∧ (zK h4 (zR h4 l0 3) = 23) ∧ (vp_in l1 (zN h4 (zR h4 l0 3))) ∧ ((zR h4 (zR h4 l0 3) (Int32.toNatClampNeg l1)) ≠ 0) ∧ ZcI mX10_canBe [.ref l0, .int l2, .ref (zR h4 (zR h4 l0 3) (Int32.toNatClampNeg l1))] h4 (fun x13 h12 => ((¬ x13 = 0 → (zK h12 l0 = 11) ∧ ((zR h12 l0 3) ≠ 0) ∧ (zK h12 (zR h12 l0 3) = 23) ∧ (vp_in l1 (zN h12 (zR h12 l0 3))) ∧ ((zR h12 (zR h12 l0 3) (Int32.toNatClampNeg l1)) ≠ 0) ∧ ZcI mX10_partOf [.ref l0, .ref (zR h12 (zR h12 l0 3) (Int32.toNatClampNeg l1)), .int l2] h12 (fun x20 h19 => ψ x20 h19)) ∧ (x13 = 0 → ψ 0 h12)))) ∧ (x6 = 0 → ψ (-1) h4))))))) : ZcI mX10_part [.ref l0, .int l1, .int l2] h ψ := by
  refine Zc.intro (L := [some (.ref l0), some (.int l1), some (.int l2)]) (show plainName RX10 = true by decide) rfl (Nat.le_of_ble_eq_true rfl) ?_
  show Zt _ _ 0 0 _ _ _ _
  refine z_aload_n (q := 1) dX10_part_0 rfl rfl rfl ?_
  refine z_iload_n (q := 2) dX10_part_1 rfl rfl rfl ?_
  obtain ⟨g2, hF⟩ := hF
  refine z_callVI (rc := 0) (rs := 0) (b := l0) (av := [.int l1]) (ci := 10) (r := (RX10, TX10, 15)) (q := 5) hF dX10_part_2 ml_X10_321 ok_X10_isHarm in_X10_isHarm se_X10_isHarm rfl rfl g2 rfl (Nat.le_of_ble_eq_true rfl) (by decide) (Nat.le_of_ble_eq_true rfl) rfl rfl rfl rfl (fun x3 h1 hF => ?_)
  refine z_if_eq (t := 16) (q := 8) dX10_part_5 (by decide) rfl (fun hc => ?_) (fun hc => ?_)
  · have hF := hF.1 hc
    refine z_iconst (q := 17) (v := (-1)) dX10_part_16 (by decide) rfl ?_
    exact z_ireturn dX10_part_17 rfl ⟨_, rfl, hF⟩
  · have hF := hF.2 hc
    refine z_aload_n (q := 9) dX10_part_8 rfl rfl rfl ?_
    refine z_iload_n (q := 10) dX10_part_9 rfl rfl rfl ?_
    obtain ⟨g5, hF⟩ := hF
    refine z_callVI (rc := 0) (rs := 0) (b := l0) (av := [.int l2]) (ci := 10) (r := (RX10, TX10, 15)) (q := 13) hF dX10_part_10 ml_X10_120 ok_X10_isPit in_X10_isPit se_X10_isPit rfl rfl g5 rfl (Nat.le_of_ble_eq_true rfl) (by decide) (Nat.le_of_ble_eq_true rfl) rfl rfl rfl rfl (fun x6 h4 hF => ?_)
    refine z_if_ne (t := 18) (q := 16) dX10_part_13 (by decide) rfl (fun hc => ?_) (fun hc => ?_)
    · have hF := hF.1 hc
      refine z_aload_n (q := 19) dX10_part_18 rfl rfl rfl ?_
      refine z_iload_n (q := 20) dX10_part_19 rfl rfl rfl ?_
      refine z_aload_n (q := 21) dX10_part_20 rfl rfl rfl ?_
      obtain ⟨g7, hF⟩ := hF
      obtain ⟨g8, hF⟩ := hF
      refine z_getR (c := 10) (k := 3) (r := (RX10, TX10, 15)) (q := 24) dX10_part_21 rfl (by decide) fl_X10_29 rfl g7 g8 rfl ?_
      refine z_iload_n (q := 25) dX10_part_24 rfl rfl rfl ?_
      obtain ⟨g9, hF⟩ := hF
      obtain ⟨g10, hF⟩ := hF
      obtain ⟨g11, hF⟩ := hF
      refine y_aald (kd := 23) (j := (Int32.toNatClampNeg l1)) (q := 26) dX10_part_25 g9 (by decide) (by decide) rfl g10 rfl g11 rfl ?_
      refine z_callVI (rc := 0) (rs := 0) (b := l0) (av := [.int l2, .ref (zR h4 (zR h4 l0 3) (Int32.toNatClampNeg l1))]) (ci := 10) (r := (RX10, TX10, 15)) (q := 29) hF dX10_part_26 ml_X10_324 ok_X10_canBe in_X10_canBe se_X10_canBe rfl rfl g7 rfl (Nat.le_of_ble_eq_true rfl) (by decide) (Nat.le_of_ble_eq_true rfl) rfl rfl rfl rfl (fun x13 h12 hF => ?_)
      refine z_if_ne (t := 34) (q := 32) dX10_part_29 (by decide) rfl (fun hc => ?_) (fun hc => ?_)
      · have hF := hF.1 hc
        refine z_aload_n (q := 35) dX10_part_34 rfl rfl rfl ?_
        refine z_aload_n (q := 36) dX10_part_35 rfl rfl rfl ?_
        obtain ⟨g14, hF⟩ := hF
        obtain ⟨g15, hF⟩ := hF
        refine z_getR (c := 10) (k := 3) (r := (RX10, TX10, 15)) (q := 39) dX10_part_36 rfl (by decide) fl_X10_29 rfl g14 g15 rfl ?_
        refine z_iload_n (q := 40) dX10_part_39 rfl rfl rfl ?_
        obtain ⟨g16, hF⟩ := hF
        obtain ⟨g17, hF⟩ := hF
        obtain ⟨g18, hF⟩ := hF
        refine y_aald (kd := 23) (j := (Int32.toNatClampNeg l1)) (q := 41) dX10_part_40 g16 (by decide) (by decide) rfl g17 rfl g18 rfl ?_
        refine z_iload_n (q := 42) dX10_part_41 rfl rfl rfl ?_
        refine z_callVI (rc := 0) (rs := 0) (b := l0) (av := [.ref (zR h12 (zR h12 l0 3) (Int32.toNatClampNeg l1)), .int l2]) (ci := 10) (r := (RX10, TX10, 15)) (q := 45) hF dX10_part_42 ml_X10_328 ok_X10_partOf in_X10_partOf se_X10_partOf rfl rfl g14 rfl (Nat.le_of_ble_eq_true rfl) (by decide) (Nat.le_of_ble_eq_true rfl) rfl rfl rfl rfl (fun x20 h19 hF => ?_)
        exact z_ireturn dX10_part_45 rfl ⟨_, rfl, hF⟩
      · have hF := hF.2 hc
        refine z_iconst (q := 33) (v := 0) dX10_part_32 (by decide) rfl ?_
        exact z_ireturn dX10_part_33 rfl ⟨_, rfl, hF⟩
    · have hF := hF.2 hc
      refine z_iconst (q := 17) (v := (-1)) dX10_part_16 (by decide) rfl ?_
      exact z_ireturn dX10_part_17 rfl ⟨_, rfl, hF⟩
set_option maxRecDepth 100000 in
set_option maxHeartbeats 4000000 in
theorem wX10_work {ψ : Int32 → ZH → Prop} {l0 : Nat} {l1 : Int32} {l2 : Int32} {h : ZH} (hF : ZcI mX10_isTown [.int l1] h (fun x2 h1 => ((¬ x2 = 0 → ((l2 = 0 → (zK h1 l0 = 11) ∧ ZcI mX10_workersOf [.ref l0, .int l1] h1 (fun x8 h6 => ψ x8 h6)) ∧ (l2 = 1 → (zK h1 l0 = 11) ∧ ZcI mX10_dwellersOf [.ref l0, .int l1] h1 (fun x11 h9 => ψ x11 h9)) ∧ (l2 = 2 → (zK h1 l0 = 11) ∧ ZcI mX10_pitsOf [.ref l0, .int l1] h1 (fun x14 h12 => ψ x14 h12)) ∧ (¬ l2 = 0 → ¬ l2 = 1 → ¬ l2 = 2 → ψ (-2) h1))) ∧ (x2 = 0 → ψ (-1) h1)))) : ZcI mX10_work [.ref l0, .int l1, .int l2] h ψ := by
  refine Zc.intro (L := [some (.ref l0), some (.int l1), some (.int l2)]) (show plainName RX10 = true by decide) rfl (Nat.le_of_ble_eq_true rfl) ?_
  show Zt _ _ 0 0 _ _ _ _
  refine z_iload_n (q := 1) dX10_work_0 rfl rfl rfl ?_
  refine z_callSI (rc := 0) (rs := 0) (av := [.int l1]) (q := 4) hF dX10_work_1 ml_X10_91 ok_X10_isTown st_X10_isTown rfl (Nat.le_of_ble_eq_true rfl) (by decide) (Nat.le_of_ble_eq_true rfl) rfl rfl rfl rfl (fun x2 h1 hF => ?_)
  refine z_if_ne (t := 9) (q := 7) dX10_work_4 (by decide) rfl (fun hc => ?_) (fun hc => ?_)
  · have hF := hF.1 hc
    refine z_iload_n (q := 10) dX10_work_9 rfl rfl rfl ?_
    by_cases e3 : l2 = 0
    · refine z_tableIn (q := 36) (off := 26) dX10_work_10 (by rw [e3]; decide) (by rw [e3]; decide) (by rw [e3]; decide) (by decide) ?_
      have hF := hF.1 e3
      refine z_aload_n (q := 37) dX10_work_36 rfl rfl rfl ?_
      refine z_iload_n (q := 38) dX10_work_37 rfl rfl rfl ?_
      obtain ⟨g7, hF⟩ := hF
      refine z_callVI (rc := 0) (rs := 0) (b := l0) (av := [.int l1]) (ci := 10) (r := (RX10, TX10, 15)) (q := 41) hF dX10_work_38 ml_X10_332 ok_X10_workersOf in_X10_workersOf se_X10_workersOf rfl rfl g7 rfl (Nat.le_of_ble_eq_true rfl) (by decide) (Nat.le_of_ble_eq_true rfl) rfl rfl rfl rfl (fun x8 h6 hF => ?_)
      exact z_ireturn dX10_work_41 rfl ⟨_, rfl, hF⟩
    by_cases e4 : l2 = 1
    · refine z_tableIn (q := 42) (off := 32) dX10_work_10 (by rw [e4]; decide) (by rw [e4]; decide) (by rw [e4]; decide) (by decide) ?_
      have hF := hF.2.1 e4
      refine z_aload_n (q := 43) dX10_work_42 rfl rfl rfl ?_
      refine z_iload_n (q := 44) dX10_work_43 rfl rfl rfl ?_
      obtain ⟨g10, hF⟩ := hF
      refine z_callVI (rc := 0) (rs := 0) (b := l0) (av := [.int l1]) (ci := 10) (r := (RX10, TX10, 15)) (q := 47) hF dX10_work_44 ml_X10_335 ok_X10_dwellersOf in_X10_dwellersOf se_X10_dwellersOf rfl rfl g10 rfl (Nat.le_of_ble_eq_true rfl) (by decide) (Nat.le_of_ble_eq_true rfl) rfl rfl rfl rfl (fun x11 h9 hF => ?_)
      exact z_ireturn dX10_work_47 rfl ⟨_, rfl, hF⟩
    by_cases e5 : l2 = 2
    · refine z_tableIn (q := 48) (off := 38) dX10_work_10 (by rw [e5]; decide) (by rw [e5]; decide) (by rw [e5]; decide) (by decide) ?_
      have hF := hF.2.2.1 e5
      refine z_aload_n (q := 49) dX10_work_48 rfl rfl rfl ?_
      refine z_iload_n (q := 50) dX10_work_49 rfl rfl rfl ?_
      obtain ⟨g13, hF⟩ := hF
      refine z_callVI (rc := 0) (rs := 0) (b := l0) (av := [.int l1]) (ci := 10) (r := (RX10, TX10, 15)) (q := 53) hF dX10_work_50 ml_X10_338 ok_X10_pitsOf in_X10_pitsOf se_X10_pitsOf rfl rfl g13 rfl (Nat.le_of_ble_eq_true rfl) (by decide) (Nat.le_of_ble_eq_true rfl) rfl rfl rfl rfl (fun x14 h12 hF => ?_)
      exact z_ireturn dX10_work_53 rfl ⟨_, rfl, hF⟩
    refine z_tableOut (q := 54) dX10_work_10 (by
      have k0 := zsw_ne (k := 0) e3 (by decide)
      have k1 := zsw_ne (k := 1) e4 (by decide)
      have k2 := zsw_ne (k := 2) e5 (by decide)
      omega) (by decide) ?_
    have hF := hF.2.2.2 e3 e4 e5
    refine z_bipush (q := 56) (v := (-2)) dX10_work_54 (by decide) rfl ?_
    exact z_ireturn dX10_work_56 rfl ⟨_, rfl, hF⟩
  · have hF := hF.2 hc
    refine z_iconst (q := 8) (v := (-1)) dX10_work_7 (by decide) rfl ?_
    exact z_ireturn dX10_work_8 rfl ⟨_, rfl, hF⟩
set_option maxRecDepth 100000 in
set_option maxHeartbeats 4000000 in
theorem wX10_lone_4 {ψ : Int32 → ZH → Prop} {l0 : Nat} {l1 : Int32} {l2 : Int32} {h : ZH} (hF : ((6 ≤ l2 → ψ l1 h) ∧ (¬ 6 ≤ l2 → (zK h l0 = 11) ∧ ZcI mX10_pitsOf [.ref l0, .int l2] h (fun x3 h1 => ZcI mJ6_bitCount_0f7a4 [.int x3] h1 (fun x5 h4 => ((¬ x5 = 1 → Zt mX10_lone (zPI ψ) 0 0 4 [some (.ref l0), some (.int l1), some (.int (l2 + 1))] [] h4) ∧ (x5 = 1 → Zt mX10_lone (zPI ψ) 0 0 4 [some (.ref l0), some (.int (l1 ||| ((1 : Int32) <<< (l2 &&& 31)))), some (.int (l2 + 1))] [] h4))))))) : Zt mX10_lone (zPI ψ) 0 0 4 [some (.ref l0), some (.int l1), some (.int l2)] [] h := by
  refine z_iload_n (q := 5) dX10_lone_4 rfl rfl rfl ?_
  refine z_bipush (q := 7) (v := 6) dX10_lone_5 (by decide) rfl ?_
  refine z_icmp_ge (t := 34) (q := 10) dX10_lone_7 (by decide) rfl (fun hc => ?_) (fun hc => ?_)
  · have hF := hF.1 hc
    refine z_iload_n (q := 35) dX10_lone_34 rfl rfl rfl ?_
    exact z_ireturn dX10_lone_35 rfl ⟨_, rfl, hF⟩
  · have hF := hF.2 hc
    refine z_aload_n (q := 11) dX10_lone_10 rfl rfl rfl ?_
    refine z_iload_n (q := 12) dX10_lone_11 rfl rfl rfl ?_
    obtain ⟨g2, hF⟩ := hF
    refine z_callVI (rc := 0) (rs := 0) (b := l0) (av := [.int l2]) (ci := 10) (r := (RX10, TX10, 15)) (q := 15) hF dX10_lone_12 ml_X10_338 ok_X10_pitsOf in_X10_pitsOf se_X10_pitsOf rfl rfl g2 rfl (Nat.le_of_ble_eq_true rfl) (by decide) (Nat.le_of_ble_eq_true rfl) rfl rfl rfl rfl (fun x3 h1 hF => ?_)
    refine z_callSI (rc := 0) (rs := 0) (av := [.int x3]) (q := 18) hF dX10_lone_15 ml_X10_341 ok_J6_bitCount_0f7a4 st_J6_bitCount_0f7a4 rfl (Nat.le_of_ble_eq_true rfl) (by decide) (Nat.le_of_ble_eq_true rfl) rfl rfl rfl rfl (fun x5 h4 hF => ?_)
    refine z_iconst (q := 19) (v := 1) dX10_lone_18 (by decide) rfl ?_
    refine z_icmp_ne (t := 28) (q := 22) dX10_lone_19 (by decide) rfl (fun hc => ?_) (fun hc => ?_)
    · have hF := hF.1 hc
      refine z_iinc (q := 31) (v := (l2 + 1)) (L' := [some (.ref l0), some (.int l1), some (.int (l2 + 1))]) dX10_lone_28 rfl rfl (Nat.le_of_ble_eq_true rfl) rfl rfl rfl ?_
      refine z_goto (q := 4) dX10_lone_31 (by decide) ?_
      exact hF
    · have hF := hF.2 hc
      refine z_iload_n (q := 23) dX10_lone_22 rfl rfl rfl ?_
      refine z_iconst (q := 24) (v := 1) dX10_lone_23 (by decide) rfl ?_
      refine z_iload_n (q := 25) dX10_lone_24 rfl rfl rfl ?_
      refine z_ishl (q := 26) dX10_lone_25 rfl ?_
      refine z_ior (q := 27) dX10_lone_26 rfl ?_
      refine z_istore_n (q := 28) (L' := [some (.ref l0), some (.int (l1 ||| ((1 : Int32) <<< (l2 &&& 31)))), some (.int l2)]) dX10_lone_27 rfl (Nat.le_of_ble_eq_true rfl) rfl rfl rfl ?_
      refine z_iinc (q := 31) (v := (l2 + 1)) (L' := [some (.ref l0), some (.int (l1 ||| ((1 : Int32) <<< (l2 &&& 31)))), some (.int (l2 + 1))]) dX10_lone_28 rfl rfl (Nat.le_of_ble_eq_true rfl) rfl rfl rfl ?_
      refine z_goto (q := 4) dX10_lone_31 (by decide) ?_
      exact hF
set_option maxRecDepth 100000 in
set_option maxHeartbeats 4000000 in
theorem wX10_lone {ψ : Int32 → ZH → Prop} {l0 : Nat} {h : ZH} (hF : Zt mX10_lone (zPI ψ) 0 0 4 [some (.ref l0), some (.int 0), some (.int 0)] [] h) : ZcI mX10_lone [.ref l0] h ψ := by
  refine Zc.intro (L := [some (.ref l0), none, none]) (show plainName RX10 = true by decide) rfl (Nat.le_of_ble_eq_true rfl) ?_
  show Zt _ _ 0 0 _ _ _ _
  refine z_iconst (q := 1) (v := 0) dX10_lone_0 (by decide) rfl ?_
  refine z_istore_n (q := 2) (L' := [some (.ref l0), some (.int 0), none]) dX10_lone_1 rfl (Nat.le_of_ble_eq_true rfl) rfl rfl rfl ?_
  refine z_iconst (q := 3) (v := 0) dX10_lone_2 (by decide) rfl ?_
  refine z_istore_n (q := 4) (L' := [some (.ref l0), some (.int 0), some (.int 0)]) dX10_lone_3 rfl (Nat.le_of_ble_eq_true rfl) rfl rfl rfl ?_
  exact hF
set_option maxRecDepth 100000 in
set_option maxHeartbeats 4000000 in
theorem wX10_told {ψ : Int32 → ZH → Prop} {l0 : Nat} {l1 : Int32} {h : ZH} (hF : ZcI mX10_isWithin [.int l1, .int 10, .int 14] h (fun x2 h1 => ((x2 = 0 → (zK h1 l0 = 11) ∧ ((zR h1 l0 4) ≠ 0) ∧ (zK h1 (zR h1 l0 4) = 20) ∧ ZcI mX10_isWithin [.int l1, .int 20, .int (19 + (Int32.ofNat (zN h1 (zR h1 l0 4))))] h1 (fun x7 h6 => ((x7 = 0 → ((l1 = 0 → (zK h6 l0 = 11) ∧ ψ (zI h6 l0 12) h6) ∧ (l1 = 1 → (zK h6 l0 = 11) ∧ ψ (zI h6 l0 13) h6) ∧ (l1 = 2 → (zK h6 l0 = 11) ∧ ((zR h6 l0 5) ≠ 0) ∧ (zK h6 (zR h6 l0 5) = 9) ∧ ψ (zI h6 (zR h6 l0 5) 1) h6) ∧ (l1 = 3 → (zK h6 l0 = 11) ∧ ((zR h6 l0 9) ≠ 0) ∧ (zK h6 (zR h6 l0 9) = 10) ∧ ψ (zI h6 (zR h6 l0 9) 9) h6) ∧ (l1 = 4 → (zK h6 l0 = 11) ∧ ψ (zI h6 l0 14) h6) ∧ (l1 = 5 → (zK h6 l0 = 11) ∧ ((zR h6 l0 9) ≠ 0) ∧ (zK h6 (zR h6 l0 9) = 10) ∧ ψ (zI h6 (zR h6 l0 9) 10) h6) ∧ (l1 = 6 → (zK h6 l0 = 11) ∧ ((zR h6 l0 9) ≠ 0) ∧ (zK h6 (zR h6 l0 9) = 10) ∧ ψ (zI h6 (zR h6 l0 9) 11) h6) ∧ (l1 = 7 → (zK h6 l0 = 11) ∧ ((zR h6 l0 9) ≠ 0) ∧ (zK h6 (zR h6 l0 9) = 10) ∧ ψ (zI h6 (zR h6 l0 9) 12) h6) ∧ (l1 = 8 → (zK h6 l0 = 11) ∧ ZcI mX10_openPits [.ref l0] h6 (fun x37 h35 => ψ x37 h35)) ∧ (¬ l1 = 0 → ¬ l1 = 1 → ¬ l1 = 2 → ¬ l1 = 3 → ¬ l1 = 4 → ¬ l1 = 5 → ¬ l1 = 6 → ¬ l1 = 7 → ¬ l1 = 8 → ψ (-2) h6))) ∧ (¬ x7 = 0 → (zK h6 l0 = 11) ∧ ((zR h6 l0 4) ≠ 0) ∧ (zK h6 (zR h6 l0 4) = 20) ∧ (vp_in (l1 - 20) (zN h6 (zR h6 l0 4))) ∧ ψ (zI h6 (zR h6 l0 4) (Int32.toNatClampNeg (l1 - 20))) h6)))) ∧ (¬ x2 = 0 → (zK h1 l0 = 11) ∧ ZcI mX10_menWhoAre [.ref l0, .int (l1 - 10)] h1 (fun x44 h42 => ψ x44 h42))))) : ZcI mX10_told [.ref l0, .int l1] h ψ := by
  refine Zc.intro (L := [some (.ref l0), some (.int l1)]) (show plainName RX10 = true by decide) rfl (Nat.le_of_ble_eq_true rfl) ?_
  show Zt _ _ 0 0 _ _ _ _
  refine z_iload_n (q := 1) dX10_told_0 rfl rfl rfl ?_
  refine z_bipush (q := 3) (v := 10) dX10_told_1 (by decide) rfl ?_
  refine z_bipush (q := 5) (v := 14) dX10_told_3 (by decide) rfl ?_
  refine z_callSI (rc := 0) (rs := 0) (av := [.int l1, .int 10, .int 14]) (q := 8) hF dX10_told_5 ml_X10_106 ok_X10_isWithin st_X10_isWithin rfl (Nat.le_of_ble_eq_true rfl) (by decide) (Nat.le_of_ble_eq_true rfl) rfl rfl rfl rfl (fun x2 h1 hF => ?_)
  refine z_if_eq (t := 20) (q := 11) dX10_told_8 (by decide) rfl (fun hc => ?_) (fun hc => ?_)
  · have hF := hF.1 hc
    refine z_iload_n (q := 21) dX10_told_20 rfl rfl rfl ?_
    refine z_bipush (q := 23) (v := 20) dX10_told_21 (by decide) rfl ?_
    refine z_bipush (q := 25) (v := 19) dX10_told_23 (by decide) rfl ?_
    refine z_aload_n (q := 26) dX10_told_25 rfl rfl rfl ?_
    obtain ⟨g3, hF⟩ := hF
    obtain ⟨g4, hF⟩ := hF
    refine z_getR (c := 10) (k := 4) (r := (RX10, TX10, 15)) (q := 29) dX10_told_26 rfl (by decide) fl_X10_37 rfl g3 g4 rfl ?_
    obtain ⟨g5, hF⟩ := hF
    refine y_alen (kd := 20) (q := 30) dX10_told_29 g5 (by decide) (by decide) rfl ?_
    refine z_iadd (q := 31) dX10_told_30 rfl ?_
    refine z_callSI (rc := 0) (rs := 0) (av := [.int l1, .int 20, .int (19 + (Int32.ofNat (zN h1 (zR h1 l0 4))))]) (q := 34) hF dX10_told_31 ml_X10_106 ok_X10_isWithin st_X10_isWithin rfl (Nat.le_of_ble_eq_true rfl) (by decide) (Nat.le_of_ble_eq_true rfl) rfl rfl rfl rfl (fun x7 h6 hF => ?_)
    refine z_if_eq (t := 47) (q := 37) dX10_told_34 (by decide) rfl (fun hc => ?_) (fun hc => ?_)
    · have hF := hF.1 hc
      refine z_iload_n (q := 48) dX10_told_47 rfl rfl rfl ?_
      by_cases e8 : l1 = 0
      · refine z_tableIn (q := 100) (off := 52) dX10_told_48 (by rw [e8]; decide) (by rw [e8]; decide) (by rw [e8]; decide) (by decide) ?_
        have hF := hF.1 e8
        refine z_aload_n (q := 101) dX10_told_100 rfl rfl rfl ?_
        obtain ⟨g17, hF⟩ := hF
        refine z_getI (c := 10) (k := 12) (r := (RX10, TX10, 15)) (q := 104) dX10_told_101 rfl (by decide) fl_X10_110 rfl g17 rfl ?_
        exact z_ireturn dX10_told_104 rfl ⟨_, rfl, hF⟩
      by_cases e9 : l1 = 1
      · refine z_tableIn (q := 105) (off := 57) dX10_told_48 (by rw [e9]; decide) (by rw [e9]; decide) (by rw [e9]; decide) (by decide) ?_
        have hF := hF.2.1 e9
        refine z_aload_n (q := 106) dX10_told_105 rfl rfl rfl ?_
        obtain ⟨g18, hF⟩ := hF
        refine z_getI (c := 10) (k := 13) (r := (RX10, TX10, 15)) (q := 109) dX10_told_106 rfl (by decide) fl_X10_164 rfl g18 rfl ?_
        exact z_ireturn dX10_told_109 rfl ⟨_, rfl, hF⟩
      by_cases e10 : l1 = 2
      · refine z_tableIn (q := 110) (off := 62) dX10_told_48 (by rw [e10]; decide) (by rw [e10]; decide) (by rw [e10]; decide) (by decide) ?_
        have hF := hF.2.2.1 e10
        refine z_aload_n (q := 111) dX10_told_110 rfl rfl rfl ?_
        obtain ⟨g19, hF⟩ := hF
        obtain ⟨g20, hF⟩ := hF
        refine z_getR (c := 10) (k := 5) (r := (RX10, TX10, 15)) (q := 114) dX10_told_111 rfl (by decide) fl_X10_43 rfl g19 g20 rfl ?_
        obtain ⟨g21, hF⟩ := hF
        refine z_getI (c := 8) (k := 1) (r := (RX8, TX8, 2)) (q := 117) dX10_told_114 rfl (by decide) fl_X10_209 rfl g21 rfl ?_
        exact z_ireturn dX10_told_117 rfl ⟨_, rfl, hF⟩
      by_cases e11 : l1 = 3
      · refine z_tableIn (q := 118) (off := 70) dX10_told_48 (by rw [e11]; decide) (by rw [e11]; decide) (by rw [e11]; decide) (by decide) ?_
        have hF := hF.2.2.2.1 e11
        refine z_aload_n (q := 119) dX10_told_118 rfl rfl rfl ?_
        obtain ⟨g22, hF⟩ := hF
        obtain ⟨g23, hF⟩ := hF
        refine z_getR (c := 10) (k := 9) (r := (RX10, TX10, 15)) (q := 122) dX10_told_119 rfl (by decide) fl_X10_68 rfl g22 g23 rfl ?_
        obtain ⟨g24, hF⟩ := hF
        refine z_getI (c := 9) (k := 9) (r := (RX9, TX9, 13)) (q := 125) dX10_told_122 rfl (by decide) fl_X10_261 rfl g24 rfl ?_
        exact z_ireturn dX10_told_125 rfl ⟨_, rfl, hF⟩
      by_cases e12 : l1 = 4
      · refine z_tableIn (q := 126) (off := 78) dX10_told_48 (by rw [e12]; decide) (by rw [e12]; decide) (by rw [e12]; decide) (by decide) ?_
        have hF := hF.2.2.2.2.1 e12
        refine z_aload_n (q := 127) dX10_told_126 rfl rfl rfl ?_
        obtain ⟨g25, hF⟩ := hF
        refine z_getI (c := 10) (k := 14) (r := (RX10, TX10, 15)) (q := 130) dX10_told_127 rfl (by decide) fl_X10_315 rfl g25 rfl ?_
        exact z_ireturn dX10_told_130 rfl ⟨_, rfl, hF⟩
      by_cases e13 : l1 = 5
      · refine z_tableIn (q := 131) (off := 83) dX10_told_48 (by rw [e13]; decide) (by rw [e13]; decide) (by rw [e13]; decide) (by decide) ?_
        have hF := hF.2.2.2.2.2.1 e13
        refine z_aload_n (q := 132) dX10_told_131 rfl rfl rfl ?_
        obtain ⟨g26, hF⟩ := hF
        obtain ⟨g27, hF⟩ := hF
        refine z_getR (c := 10) (k := 9) (r := (RX10, TX10, 15)) (q := 135) dX10_told_132 rfl (by decide) fl_X10_68 rfl g26 g27 rfl ?_
        obtain ⟨g28, hF⟩ := hF
        refine z_getI (c := 9) (k := 10) (r := (RX9, TX9, 13)) (q := 138) dX10_told_135 rfl (by decide) fl_X10_349 rfl g28 rfl ?_
        exact z_ireturn dX10_told_138 rfl ⟨_, rfl, hF⟩
      by_cases e14 : l1 = 6
      · refine z_tableIn (q := 139) (off := 91) dX10_told_48 (by rw [e14]; decide) (by rw [e14]; decide) (by rw [e14]; decide) (by decide) ?_
        have hF := hF.2.2.2.2.2.2.1 e14
        refine z_aload_n (q := 140) dX10_told_139 rfl rfl rfl ?_
        obtain ⟨g29, hF⟩ := hF
        obtain ⟨g30, hF⟩ := hF
        refine z_getR (c := 10) (k := 9) (r := (RX10, TX10, 15)) (q := 143) dX10_told_140 rfl (by decide) fl_X10_68 rfl g29 g30 rfl ?_
        obtain ⟨g31, hF⟩ := hF
        refine z_getI (c := 9) (k := 11) (r := (RX9, TX9, 13)) (q := 146) dX10_told_143 rfl (by decide) fl_X10_352 rfl g31 rfl ?_
        exact z_ireturn dX10_told_146 rfl ⟨_, rfl, hF⟩
      by_cases e15 : l1 = 7
      · refine z_tableIn (q := 147) (off := 99) dX10_told_48 (by rw [e15]; decide) (by rw [e15]; decide) (by rw [e15]; decide) (by decide) ?_
        have hF := hF.2.2.2.2.2.2.2.1 e15
        refine z_aload_n (q := 148) dX10_told_147 rfl rfl rfl ?_
        obtain ⟨g32, hF⟩ := hF
        obtain ⟨g33, hF⟩ := hF
        refine z_getR (c := 10) (k := 9) (r := (RX10, TX10, 15)) (q := 151) dX10_told_148 rfl (by decide) fl_X10_68 rfl g32 g33 rfl ?_
        obtain ⟨g34, hF⟩ := hF
        refine z_getI (c := 9) (k := 12) (r := (RX9, TX9, 13)) (q := 154) dX10_told_151 rfl (by decide) fl_X10_355 rfl g34 rfl ?_
        exact z_ireturn dX10_told_154 rfl ⟨_, rfl, hF⟩
      by_cases e16 : l1 = 8
      · refine z_tableIn (q := 155) (off := 107) dX10_told_48 (by rw [e16]; decide) (by rw [e16]; decide) (by rw [e16]; decide) (by decide) ?_
        have hF := hF.2.2.2.2.2.2.2.2.1 e16
        refine z_aload_n (q := 156) dX10_told_155 rfl rfl rfl ?_
        obtain ⟨g36, hF⟩ := hF
        refine z_callVI (rc := 0) (rs := 0) (b := l0) (av := []) (ci := 10) (r := (RX10, TX10, 15)) (q := 159) hF dX10_told_156 ml_X10_358 ok_X10_openPits in_X10_openPits se_X10_openPits rfl rfl g36 rfl (Nat.le_of_ble_eq_true rfl) (by decide) (Nat.le_of_ble_eq_true rfl) rfl rfl rfl rfl (fun x37 h35 hF => ?_)
        exact z_ireturn dX10_told_159 rfl ⟨_, rfl, hF⟩
      refine z_tableOut (q := 160) dX10_told_48 (by
        have k0 := zsw_ne (k := 0) e8 (by decide)
        have k1 := zsw_ne (k := 1) e9 (by decide)
        have k2 := zsw_ne (k := 2) e10 (by decide)
        have k3 := zsw_ne (k := 3) e11 (by decide)
        have k4 := zsw_ne (k := 4) e12 (by decide)
        have k5 := zsw_ne (k := 5) e13 (by decide)
        have k6 := zsw_ne (k := 6) e14 (by decide)
        have k7 := zsw_ne (k := 7) e15 (by decide)
        have k8 := zsw_ne (k := 8) e16 (by decide)
        omega) (by decide) ?_
      have hF := hF.2.2.2.2.2.2.2.2.2 e8 e9 e10 e11 e12 e13 e14 e15 e16
      refine z_bipush (q := 162) (v := (-2)) dX10_told_160 (by decide) rfl ?_
      exact z_ireturn dX10_told_162 rfl ⟨_, rfl, hF⟩
    · have hF := hF.2 hc
      refine z_aload_n (q := 38) dX10_told_37 rfl rfl rfl ?_
      obtain ⟨g38, hF⟩ := hF
      obtain ⟨g39, hF⟩ := hF
      refine z_getR (c := 10) (k := 4) (r := (RX10, TX10, 15)) (q := 41) dX10_told_38 rfl (by decide) fl_X10_37 rfl g38 g39 rfl ?_
      refine z_iload_n (q := 42) dX10_told_41 rfl rfl rfl ?_
      refine z_bipush (q := 44) (v := 20) dX10_told_42 (by decide) rfl ?_
      refine z_isub (q := 45) dX10_told_44 rfl ?_
      obtain ⟨g40, hF⟩ := hF
      obtain ⟨g41, hF⟩ := hF
      refine y_iald (j := (Int32.toNatClampNeg (l1 - 20))) (q := 46) dX10_told_45 (Or.inl g40) g41 rfl rfl ?_
      exact z_ireturn dX10_told_46 rfl ⟨_, rfl, hF⟩
  · have hF := hF.2 hc
    refine z_aload_n (q := 12) dX10_told_11 rfl rfl rfl ?_
    refine z_iload_n (q := 13) dX10_told_12 rfl rfl rfl ?_
    refine z_bipush (q := 15) (v := 10) dX10_told_13 (by decide) rfl ?_
    refine z_isub (q := 16) dX10_told_15 rfl ?_
    obtain ⟨g43, hF⟩ := hF
    refine z_callVI (rc := 0) (rs := 0) (b := l0) (av := [.int (l1 - 10)]) (ci := 10) (r := (RX10, TX10, 15)) (q := 19) hF dX10_told_16 ml_X10_346 ok_X10_menWhoAre in_X10_menWhoAre se_X10_menWhoAre rfl rfl g43 rfl (Nat.le_of_ble_eq_true rfl) (by decide) (Nat.le_of_ble_eq_true rfl) rfl rfl rfl rfl (fun x44 h42 hF => ?_)
    exact z_ireturn dX10_told_19 rfl ⟨_, rfl, hF⟩
set_option maxRecDepth 100000 in
set_option maxHeartbeats 4000000 in
theorem wX10_isWithin {ψ : Int32 → ZH → Prop} {l0 : Int32} {l1 : Int32} {l2 : Int32} {h : ZH} (hF : ((l0 < l1 → ψ 0 h) ∧ (¬ l0 < l1 → ((l2 < l0 → ψ 0 h) ∧ (¬ l2 < l0 → ψ 1 h))))) : ZcI mX10_isWithin [.int l0, .int l1, .int l2] h ψ := by
  refine Zc.intro (L := [some (.int l0), some (.int l1), some (.int l2)]) (show plainName RX10 = true by decide) rfl (Nat.le_of_ble_eq_true rfl) ?_
  show Zt _ _ 0 0 _ _ _ _
  refine z_iload_n (q := 1) dX10_isWithin_0 rfl rfl rfl ?_
  refine z_iload_n (q := 2) dX10_isWithin_1 rfl rfl rfl ?_
  refine z_icmp_lt (t := 14) (q := 5) dX10_isWithin_2 (by decide) rfl (fun hc => ?_) (fun hc => ?_)
  · have hF := hF.1 hc
    refine z_iconst (q := 15) (v := 0) dX10_isWithin_14 (by decide) rfl ?_
    exact z_zreturn dX10_isWithin_15 rfl (by decide) ⟨_, rfl, hF⟩
  · have hF := hF.2 hc
    refine z_iload_n (q := 6) dX10_isWithin_5 rfl rfl rfl ?_
    refine z_iload_n (q := 7) dX10_isWithin_6 rfl rfl rfl ?_
    refine z_icmp_gt (t := 14) (q := 10) dX10_isWithin_7 (by decide) rfl (fun hc => ?_) (fun hc => ?_)
    · have hF := hF.1 hc
      refine z_iconst (q := 15) (v := 0) dX10_isWithin_14 (by decide) rfl ?_
      exact z_zreturn dX10_isWithin_15 rfl (by decide) ⟨_, rfl, hF⟩
    · have hF := hF.2 hc
      refine z_iconst (q := 11) (v := 1) dX10_isWithin_10 (by decide) rfl ?_
      refine z_goto (q := 15) dX10_isWithin_11 (by decide) ?_
      exact z_zreturn dX10_isWithin_15 rfl (by decide) ⟨_, rfl, hF⟩
set_option maxRecDepth 100000 in
set_option maxHeartbeats 4000000 in
theorem wX10_isPlace {ψ : Int32 → ZH → Prop} {l0 : Int32} {l1 : Int32} {h : ZH} (hF : ZcI mX10_isWithin [.int l0, .int 0, .int 99] h (fun x2 h1 => ((x2 = 0 → ψ 0 h1) ∧ (¬ x2 = 0 → ZcI mX10_isWithin [.int l1, .int 0, .int 99] h1 (fun x4 h3 => ((x4 = 0 → ψ 0 h3) ∧ (¬ x4 = 0 → ψ 1 h3))))))) : ZcI mX10_isPlace [.int l0, .int l1] h ψ := by
  refine Zc.intro (L := [some (.int l0), some (.int l1)]) (show plainName RX10 = true by decide) rfl (Nat.le_of_ble_eq_true rfl) ?_
  show Zt _ _ 0 0 _ _ _ _
  refine z_iload_n (q := 1) dX10_isPlace_0 rfl rfl rfl ?_
  refine z_iconst (q := 2) (v := 0) dX10_isPlace_1 (by decide) rfl ?_
  refine z_bipush (q := 4) (v := 99) dX10_isPlace_2 (by decide) rfl ?_
  refine z_callSI (rc := 0) (rs := 0) (av := [.int l0, .int 0, .int 99]) (q := 7) hF dX10_isPlace_4 ml_X10_106 ok_X10_isWithin st_X10_isWithin rfl (Nat.le_of_ble_eq_true rfl) (by decide) (Nat.le_of_ble_eq_true rfl) rfl rfl rfl rfl (fun x2 h1 hF => ?_)
  refine z_if_eq (t := 24) (q := 10) dX10_isPlace_7 (by decide) rfl (fun hc => ?_) (fun hc => ?_)
  · have hF := hF.1 hc
    refine z_iconst (q := 25) (v := 0) dX10_isPlace_24 (by decide) rfl ?_
    exact z_zreturn dX10_isPlace_25 rfl (by decide) ⟨_, rfl, hF⟩
  · have hF := hF.2 hc
    refine z_iload_n (q := 11) dX10_isPlace_10 rfl rfl rfl ?_
    refine z_iconst (q := 12) (v := 0) dX10_isPlace_11 (by decide) rfl ?_
    refine z_bipush (q := 14) (v := 99) dX10_isPlace_12 (by decide) rfl ?_
    refine z_callSI (rc := 0) (rs := 0) (av := [.int l1, .int 0, .int 99]) (q := 17) hF dX10_isPlace_14 ml_X10_106 ok_X10_isWithin st_X10_isWithin rfl (Nat.le_of_ble_eq_true rfl) (by decide) (Nat.le_of_ble_eq_true rfl) rfl rfl rfl rfl (fun x4 h3 hF => ?_)
    refine z_if_eq (t := 24) (q := 20) dX10_isPlace_17 (by decide) rfl (fun hc => ?_) (fun hc => ?_)
    · have hF := hF.1 hc
      refine z_iconst (q := 25) (v := 0) dX10_isPlace_24 (by decide) rfl ?_
      exact z_zreturn dX10_isPlace_25 rfl (by decide) ⟨_, rfl, hF⟩
    · have hF := hF.2 hc
      refine z_iconst (q := 21) (v := 1) dX10_isPlace_20 (by decide) rfl ?_
      refine z_goto (q := 25) dX10_isPlace_21 (by decide) ?_
      exact z_zreturn dX10_isPlace_25 rfl (by decide) ⟨_, rfl, hF⟩
set_option maxRecDepth 100000 in
set_option maxHeartbeats 4000000 in
theorem wX10_isTown {ψ : Int32 → ZH → Prop} {l0 : Int32} {h : ZH} (hF : ZcI mX10_isWithin [.int l0, .int 0, .int 5] h (fun x2 h1 => (x2 = 0 ∨ x2 = 1) ∧ ψ x2 h1)) : ZcI mX10_isTown [.int l0] h ψ := by
  refine Zc.intro (L := [some (.int l0)]) (show plainName RX10 = true by decide) rfl (Nat.le_of_ble_eq_true rfl) ?_
  show Zt _ _ 0 0 _ _ _ _
  refine z_iload_n (q := 1) dX10_isTown_0 rfl rfl rfl ?_
  refine z_iconst (q := 2) (v := 0) dX10_isTown_1 (by decide) rfl ?_
  refine z_iconst (q := 3) (v := 5) dX10_isTown_2 (by decide) rfl ?_
  refine z_callSI (rc := 0) (rs := 0) (av := [.int l0, .int 0, .int 5]) (q := 6) hF dX10_isTown_3 ml_X10_106 ok_X10_isWithin st_X10_isWithin rfl (Nat.le_of_ble_eq_true rfl) (by decide) (Nat.le_of_ble_eq_true rfl) rfl rfl rfl rfl (fun x2 h1 hF => ?_)
  obtain ⟨g3, hF⟩ := hF
  exact z_zreturn dX10_isTown_6 rfl g3 ⟨_, rfl, hF⟩
set_option maxRecDepth 100000 in
set_option maxHeartbeats 4000000 in
theorem wX10_isTrade {ψ : Int32 → ZH → Prop} {l0 : Int32} {h : ZH} (hF : ZcI mX10_isWithin [.int l0, .int 0, .int 2] h (fun x2 h1 => (x2 = 0 ∨ x2 = 1) ∧ ψ x2 h1)) : ZcI mX10_isTrade [.int l0] h ψ := by
  refine Zc.intro (L := [some (.int l0)]) (show plainName RX10 = true by decide) rfl (Nat.le_of_ble_eq_true rfl) ?_
  show Zt _ _ 0 0 _ _ _ _
  refine z_iload_n (q := 1) dX10_isTrade_0 rfl rfl rfl ?_
  refine z_iconst (q := 2) (v := 0) dX10_isTrade_1 (by decide) rfl ?_
  refine z_iconst (q := 3) (v := 2) dX10_isTrade_2 (by decide) rfl ?_
  refine z_callSI (rc := 0) (rs := 0) (av := [.int l0, .int 0, .int 2]) (q := 6) hF dX10_isTrade_3 ml_X10_106 ok_X10_isWithin st_X10_isWithin rfl (Nat.le_of_ble_eq_true rfl) (by decide) (Nat.le_of_ble_eq_true rfl) rfl rfl rfl rfl (fun x2 h1 hF => ?_)
  obtain ⟨g3, hF⟩ := hF
  exact z_zreturn dX10_isTrade_6 rfl g3 ⟨_, rfl, hF⟩
set_option maxRecDepth 100000 in
set_option maxHeartbeats 4000000 in
theorem wX10_isRule {ψ : Int32 → ZH → Prop} {l0 : Int32} {h : ZH} (hF : ZcI mX10_isWithin [.int l0, .int 0, .int 2] h (fun x2 h1 => (x2 = 0 ∨ x2 = 1) ∧ ψ x2 h1)) : ZcI mX10_isRule [.int l0] h ψ := by
  refine Zc.intro (L := [some (.int l0)]) (show plainName RX10 = true by decide) rfl (Nat.le_of_ble_eq_true rfl) ?_
  show Zt _ _ 0 0 _ _ _ _
  refine z_iload_n (q := 1) dX10_isRule_0 rfl rfl rfl ?_
  refine z_iconst (q := 2) (v := 0) dX10_isRule_1 (by decide) rfl ?_
  refine z_iconst (q := 3) (v := 2) dX10_isRule_2 (by decide) rfl ?_
  refine z_callSI (rc := 0) (rs := 0) (av := [.int l0, .int 0, .int 2]) (q := 6) hF dX10_isRule_3 ml_X10_106 ok_X10_isWithin st_X10_isWithin rfl (Nat.le_of_ble_eq_true rfl) (by decide) (Nat.le_of_ble_eq_true rfl) rfl rfl rfl rfl (fun x2 h1 hF => ?_)
  obtain ⟨g3, hF⟩ := hF
  exact z_zreturn dX10_isRule_6 rfl g3 ⟨_, rfl, hF⟩
set_option maxRecDepth 100000 in
set_option maxHeartbeats 4000000 in
theorem wX10_isPit {ψ : Int32 → ZH → Prop} {l0 : Nat} {l1 : Int32} {h : ZH} (hF : (zK h l0 = 11) ∧ ZcI mX10_isWithin [.int l1, .int 0, .int ((zI h l0 12) - 1)] h (fun x3 h2 => (x3 = 0 ∨ x3 = 1) ∧ ψ x3 h2)) : ZcI mX10_isPit [.ref l0, .int l1] h ψ := by
  refine Zc.intro (L := [some (.ref l0), some (.int l1)]) (show plainName RX10 = true by decide) rfl (Nat.le_of_ble_eq_true rfl) ?_
  show Zt _ _ 0 0 _ _ _ _
  refine z_iload_n (q := 1) dX10_isPit_0 rfl rfl rfl ?_
  refine z_iconst (q := 2) (v := 0) dX10_isPit_1 (by decide) rfl ?_
  refine z_aload_n (q := 3) dX10_isPit_2 rfl rfl rfl ?_
  obtain ⟨g1, hF⟩ := hF
  refine z_getI (c := 10) (k := 12) (r := (RX10, TX10, 15)) (q := 6) dX10_isPit_3 rfl (by decide) fl_X10_110 rfl g1 rfl ?_
  refine z_iconst (q := 7) (v := 1) dX10_isPit_6 (by decide) rfl ?_
  refine z_isub (q := 8) dX10_isPit_7 rfl ?_
  refine z_callSI (rc := 0) (rs := 0) (av := [.int l1, .int 0, .int ((zI h l0 12) - 1)]) (q := 11) hF dX10_isPit_8 ml_X10_106 ok_X10_isWithin st_X10_isWithin rfl (Nat.le_of_ble_eq_true rfl) (by decide) (Nat.le_of_ble_eq_true rfl) rfl rfl rfl rfl (fun x3 h2 hF => ?_)
  obtain ⟨g4, hF⟩ := hF
  exact z_zreturn dX10_isPit_11 rfl g4 ⟨_, rfl, hF⟩
set_option maxRecDepth 100000 in
set_option maxHeartbeats 4000000 in
theorem wX10_isMan {ψ : Int32 → ZH → Prop} {l0 : Nat} {l1 : Int32} {h : ZH} (hF : (zK h l0 = 11) ∧ ZcI mX10_isWithin [.int l1, .int 0, .int ((zI h l0 13) - 1)] h (fun x3 h2 => (x3 = 0 ∨ x3 = 1) ∧ ψ x3 h2)) : ZcI mX10_isMan [.ref l0, .int l1] h ψ := by
  refine Zc.intro (L := [some (.ref l0), some (.int l1)]) (show plainName RX10 = true by decide) rfl (Nat.le_of_ble_eq_true rfl) ?_
  show Zt _ _ 0 0 _ _ _ _
  refine z_iload_n (q := 1) dX10_isMan_0 rfl rfl rfl ?_
  refine z_iconst (q := 2) (v := 0) dX10_isMan_1 (by decide) rfl ?_
  refine z_aload_n (q := 3) dX10_isMan_2 rfl rfl rfl ?_
  obtain ⟨g1, hF⟩ := hF
  refine z_getI (c := 10) (k := 13) (r := (RX10, TX10, 15)) (q := 6) dX10_isMan_3 rfl (by decide) fl_X10_164 rfl g1 rfl ?_
  refine z_iconst (q := 7) (v := 1) dX10_isMan_6 (by decide) rfl ?_
  refine z_isub (q := 8) dX10_isMan_7 rfl ?_
  refine z_callSI (rc := 0) (rs := 0) (av := [.int l1, .int 0, .int ((zI h l0 13) - 1)]) (q := 11) hF dX10_isMan_8 ml_X10_106 ok_X10_isWithin st_X10_isWithin rfl (Nat.le_of_ble_eq_true rfl) (by decide) (Nat.le_of_ble_eq_true rfl) rfl rfl rfl rfl (fun x3 h2 hF => ?_)
  obtain ⟨g4, hF⟩ := hF
  exact z_zreturn dX10_isMan_11 rfl g4 ⟨_, rfl, hF⟩
set_option maxRecDepth 100000 in
set_option maxHeartbeats 4000000 in
theorem wX10_isHarm {ψ : Int32 → ZH → Prop} {l0 : Nat} {l1 : Int32} {h : ZH} (hF : (zK h l0 = 11) ∧ ZcI mX10_isWithin [.int l1, .int 0, .int ((zI h l0 14) - 1)] h (fun x3 h2 => (x3 = 0 ∨ x3 = 1) ∧ ψ x3 h2)) : ZcI mX10_isHarm [.ref l0, .int l1] h ψ := by
  refine Zc.intro (L := [some (.ref l0), some (.int l1)]) (show plainName RX10 = true by decide) rfl (Nat.le_of_ble_eq_true rfl) ?_
  show Zt _ _ 0 0 _ _ _ _
  refine z_iload_n (q := 1) dX10_isHarm_0 rfl rfl rfl ?_
  refine z_iconst (q := 2) (v := 0) dX10_isHarm_1 (by decide) rfl ?_
  refine z_aload_n (q := 3) dX10_isHarm_2 rfl rfl rfl ?_
  obtain ⟨g1, hF⟩ := hF
  refine z_getI (c := 10) (k := 14) (r := (RX10, TX10, 15)) (q := 6) dX10_isHarm_3 rfl (by decide) fl_X10_315 rfl g1 rfl ?_
  refine z_iconst (q := 7) (v := 1) dX10_isHarm_6 (by decide) rfl ?_
  refine z_isub (q := 8) dX10_isHarm_7 rfl ?_
  refine z_callSI (rc := 0) (rs := 0) (av := [.int l1, .int 0, .int ((zI h l0 14) - 1)]) (q := 11) hF dX10_isHarm_8 ml_X10_106 ok_X10_isWithin st_X10_isWithin rfl (Nat.le_of_ble_eq_true rfl) (by decide) (Nat.le_of_ble_eq_true rfl) rfl rfl rfl rfl (fun x3 h2 hF => ?_)
  obtain ⟨g4, hF⟩ := hF
  exact z_zreturn dX10_isHarm_11 rfl g4 ⟨_, rfl, hF⟩
set_option maxRecDepth 100000 in
set_option maxHeartbeats 4000000 in
theorem wX10_asOne {ψ : Int32 → ZH → Prop} {l0 : Int32} {h : ZH} (hF : ((l0 = 0 → ψ 0 h) ∧ (¬ l0 = 0 → ψ 1 h))) : ZcI mX10_asOne [.int l0] h ψ := by
  refine Zc.intro (L := [some (.int l0)]) (show plainName RX10 = true by decide) rfl (Nat.le_of_ble_eq_true rfl) ?_
  show Zt _ _ 0 0 _ _ _ _
  refine z_iload_n (q := 1) dX10_asOne_0 rfl rfl rfl ?_
  refine z_if_eq (t := 8) (q := 4) dX10_asOne_1 (by decide) rfl (fun hc => ?_) (fun hc => ?_)
  · have hF := hF.1 hc
    refine z_iconst (q := 9) (v := 0) dX10_asOne_8 (by decide) rfl ?_
    exact z_ireturn dX10_asOne_9 rfl ⟨_, rfl, hF⟩
  · have hF := hF.2 hc
    refine z_iconst (q := 5) (v := 1) dX10_asOne_4 (by decide) rfl ?_
    refine z_goto (q := 9) dX10_asOne_5 (by decide) ?_
    exact z_ireturn dX10_asOne_9 rfl ⟨_, rfl, hF⟩
set_option maxRecDepth 100000 in
set_option maxHeartbeats 4000000 in
theorem wX10_menAt_4 {ψ : Int32 → ZH → Prop} {l0 : Nat} {l1 : Int32} {l2 : Int32} {l3 : Int32} {h : ZH} (hF : (zK h l0 = 11) ∧ (((zI h l0 13) ≤ l3 → ψ l2 h) ∧ (¬ (zI h l0 13) ≤ l3 → ((zR h l0 2) ≠ 0) ∧ (zK h (zR h l0 2) = 24) ∧ (vp_in l3 (zN h (zR h l0 2))) ∧ ((zR h (zR h l0 2) (Int32.toNatClampNeg l3)) ≠ 0) ∧ (zK h (zR h (zR h l0 2) (Int32.toNatClampNeg l3)) = 2) ∧ ((¬ (zI h (zR h (zR h l0 2) (Int32.toNatClampNeg l3)) 4) = l1 → Zt mX10_menAt (zPI ψ) 0 0 4 [some (.ref l0), some (.int l1), some (.int l2), some (.int (l3 + 1))] [] h) ∧ ((zI h (zR h (zR h l0 2) (Int32.toNatClampNeg l3)) 4) = l1 → Zt mX10_menAt (zPI ψ) 0 0 4 [some (.ref l0), some (.int l1), some (.int (l2 + 1)), some (.int (l3 + 1))] [] h))))) : Zt mX10_menAt (zPI ψ) 0 0 4 [some (.ref l0), some (.int l1), some (.int l2), some (.int l3)] [] h := by
  refine z_iload_n (q := 5) dX10_menAt_4 rfl rfl rfl ?_
  refine z_aload_n (q := 6) dX10_menAt_5 rfl rfl rfl ?_
  obtain ⟨g1, hF⟩ := hF
  refine z_getI (c := 10) (k := 13) (r := (RX10, TX10, 15)) (q := 9) dX10_menAt_6 rfl (by decide) fl_X10_164 rfl g1 rfl ?_
  refine z_icmp_ge (t := 34) (q := 12) dX10_menAt_9 (by decide) rfl (fun hc => ?_) (fun hc => ?_)
  · have hF := hF.1 hc
    refine z_iload_n (q := 35) dX10_menAt_34 rfl rfl rfl ?_
    exact z_ireturn dX10_menAt_35 rfl ⟨_, rfl, hF⟩
  · have hF := hF.2 hc
    refine z_aload_n (q := 13) dX10_menAt_12 rfl rfl rfl ?_
    obtain ⟨g2, hF⟩ := hF
    refine z_getR (c := 10) (k := 2) (r := (RX10, TX10, 15)) (q := 16) dX10_menAt_13 rfl (by decide) fl_X10_23 rfl g1 g2 rfl ?_
    refine z_iload_n (q := 17) dX10_menAt_16 rfl rfl rfl ?_
    obtain ⟨g3, hF⟩ := hF
    obtain ⟨g4, hF⟩ := hF
    obtain ⟨g5, hF⟩ := hF
    refine y_aald (kd := 24) (j := (Int32.toNatClampNeg l3)) (q := 18) dX10_menAt_17 g3 (by decide) (by decide) rfl g4 rfl g5 rfl ?_
    obtain ⟨g6, hF⟩ := hF
    refine z_getI (c := 1) (k := 4) (r := (RX1, TX1, 7)) (q := 21) dX10_menAt_18 rfl (by decide) fl_X10_185 rfl g6 rfl ?_
    refine z_iload_n (q := 22) dX10_menAt_21 rfl rfl rfl ?_
    refine z_icmp_ne (t := 28) (q := 25) dX10_menAt_22 (by decide) rfl (fun hc => ?_) (fun hc => ?_)
    · have hF := hF.1 hc
      refine z_iinc (q := 31) (v := (l3 + 1)) (L' := [some (.ref l0), some (.int l1), some (.int l2), some (.int (l3 + 1))]) dX10_menAt_28 rfl rfl (Nat.le_of_ble_eq_true rfl) rfl rfl rfl ?_
      refine z_goto (q := 4) dX10_menAt_31 (by decide) ?_
      exact hF
    · have hF := hF.2 hc
      refine z_iinc (q := 28) (v := (l2 + 1)) (L' := [some (.ref l0), some (.int l1), some (.int (l2 + 1)), some (.int l3)]) dX10_menAt_25 rfl rfl (Nat.le_of_ble_eq_true rfl) rfl rfl rfl ?_
      refine z_iinc (q := 31) (v := (l3 + 1)) (L' := [some (.ref l0), some (.int l1), some (.int (l2 + 1)), some (.int (l3 + 1))]) dX10_menAt_28 rfl rfl (Nat.le_of_ble_eq_true rfl) rfl rfl rfl ?_
      refine z_goto (q := 4) dX10_menAt_31 (by decide) ?_
      exact hF
set_option maxRecDepth 100000 in
set_option maxHeartbeats 4000000 in
theorem wX10_menAt {ψ : Int32 → ZH → Prop} {l0 : Nat} {l1 : Int32} {h : ZH} (hF : Zt mX10_menAt (zPI ψ) 0 0 4 [some (.ref l0), some (.int l1), some (.int 0), some (.int 0)] [] h) : ZcI mX10_menAt [.ref l0, .int l1] h ψ := by
  refine Zc.intro (L := [some (.ref l0), some (.int l1), none, none]) (show plainName RX10 = true by decide) rfl (Nat.le_of_ble_eq_true rfl) ?_
  show Zt _ _ 0 0 _ _ _ _
  refine z_iconst (q := 1) (v := 0) dX10_menAt_0 (by decide) rfl ?_
  refine z_istore_n (q := 2) (L' := [some (.ref l0), some (.int l1), some (.int 0), none]) dX10_menAt_1 rfl (Nat.le_of_ble_eq_true rfl) rfl rfl rfl ?_
  refine z_iconst (q := 3) (v := 0) dX10_menAt_2 (by decide) rfl ?_
  refine z_istore_n (q := 4) (L' := [some (.ref l0), some (.int l1), some (.int 0), some (.int 0)]) dX10_menAt_3 rfl (Nat.le_of_ble_eq_true rfl) rfl rfl rfl ?_
  exact hF
set_option maxRecDepth 100000 in
set_option maxHeartbeats 4000000 in
theorem wX10_menWhoAre_4 {ψ : Int32 → ZH → Prop} {l0 : Nat} {l1 : Int32} {l2 : Int32} {l3 : Int32} {h : ZH} (hF : (zK h l0 = 11) ∧ (((zI h l0 13) ≤ l3 → ψ l2 h) ∧ (¬ (zI h l0 13) ≤ l3 → ((zR h l0 2) ≠ 0) ∧ (zK h (zR h l0 2) = 24) ∧ (vp_in l3 (zN h (zR h l0 2))) ∧ ((zR h (zR h l0 2) (Int32.toNatClampNeg l3)) ≠ 0) ∧ (zK h (zR h (zR h l0 2) (Int32.toNatClampNeg l3)) = 2) ∧ ((¬ (zI h (zR h (zR h l0 2) (Int32.toNatClampNeg l3)) 6) = l1 → Zt mX10_menWhoAre (zPI ψ) 0 0 4 [some (.ref l0), some (.int l1), some (.int l2), some (.int (l3 + 1))] [] h) ∧ ((zI h (zR h (zR h l0 2) (Int32.toNatClampNeg l3)) 6) = l1 → Zt mX10_menWhoAre (zPI ψ) 0 0 4 [some (.ref l0), some (.int l1), some (.int (l2 + 1)), some (.int (l3 + 1))] [] h))))) : Zt mX10_menWhoAre (zPI ψ) 0 0 4 [some (.ref l0), some (.int l1), some (.int l2), some (.int l3)] [] h := by
  refine z_iload_n (q := 5) dX10_menWhoAre_4 rfl rfl rfl ?_
  refine z_aload_n (q := 6) dX10_menWhoAre_5 rfl rfl rfl ?_
  obtain ⟨g1, hF⟩ := hF
  refine z_getI (c := 10) (k := 13) (r := (RX10, TX10, 15)) (q := 9) dX10_menWhoAre_6 rfl (by decide) fl_X10_164 rfl g1 rfl ?_
  refine z_icmp_ge (t := 34) (q := 12) dX10_menWhoAre_9 (by decide) rfl (fun hc => ?_) (fun hc => ?_)
  · have hF := hF.1 hc
    refine z_iload_n (q := 35) dX10_menWhoAre_34 rfl rfl rfl ?_
    exact z_ireturn dX10_menWhoAre_35 rfl ⟨_, rfl, hF⟩
  · have hF := hF.2 hc
    refine z_aload_n (q := 13) dX10_menWhoAre_12 rfl rfl rfl ?_
    obtain ⟨g2, hF⟩ := hF
    refine z_getR (c := 10) (k := 2) (r := (RX10, TX10, 15)) (q := 16) dX10_menWhoAre_13 rfl (by decide) fl_X10_23 rfl g1 g2 rfl ?_
    refine z_iload_n (q := 17) dX10_menWhoAre_16 rfl rfl rfl ?_
    obtain ⟨g3, hF⟩ := hF
    obtain ⟨g4, hF⟩ := hF
    obtain ⟨g5, hF⟩ := hF
    refine y_aald (kd := 24) (j := (Int32.toNatClampNeg l3)) (q := 18) dX10_menWhoAre_17 g3 (by decide) (by decide) rfl g4 rfl g5 rfl ?_
    obtain ⟨g6, hF⟩ := hF
    refine z_getI (c := 1) (k := 6) (r := (RX1, TX1, 7)) (q := 21) dX10_menWhoAre_18 rfl (by decide) fl_X10_191 rfl g6 rfl ?_
    refine z_iload_n (q := 22) dX10_menWhoAre_21 rfl rfl rfl ?_
    refine z_icmp_ne (t := 28) (q := 25) dX10_menWhoAre_22 (by decide) rfl (fun hc => ?_) (fun hc => ?_)
    · have hF := hF.1 hc
      refine z_iinc (q := 31) (v := (l3 + 1)) (L' := [some (.ref l0), some (.int l1), some (.int l2), some (.int (l3 + 1))]) dX10_menWhoAre_28 rfl rfl (Nat.le_of_ble_eq_true rfl) rfl rfl rfl ?_
      refine z_goto (q := 4) dX10_menWhoAre_31 (by decide) ?_
      exact hF
    · have hF := hF.2 hc
      refine z_iinc (q := 28) (v := (l2 + 1)) (L' := [some (.ref l0), some (.int l1), some (.int (l2 + 1)), some (.int l3)]) dX10_menWhoAre_25 rfl rfl (Nat.le_of_ble_eq_true rfl) rfl rfl rfl ?_
      refine z_iinc (q := 31) (v := (l3 + 1)) (L' := [some (.ref l0), some (.int l1), some (.int (l2 + 1)), some (.int (l3 + 1))]) dX10_menWhoAre_28 rfl rfl (Nat.le_of_ble_eq_true rfl) rfl rfl rfl ?_
      refine z_goto (q := 4) dX10_menWhoAre_31 (by decide) ?_
      exact hF
set_option maxRecDepth 100000 in
set_option maxHeartbeats 4000000 in
theorem wX10_menWhoAre {ψ : Int32 → ZH → Prop} {l0 : Nat} {l1 : Int32} {h : ZH} (hF : Zt mX10_menWhoAre (zPI ψ) 0 0 4 [some (.ref l0), some (.int l1), some (.int 0), some (.int 0)] [] h) : ZcI mX10_menWhoAre [.ref l0, .int l1] h ψ := by
  refine Zc.intro (L := [some (.ref l0), some (.int l1), none, none]) (show plainName RX10 = true by decide) rfl (Nat.le_of_ble_eq_true rfl) ?_
  show Zt _ _ 0 0 _ _ _ _
  refine z_iconst (q := 1) (v := 0) dX10_menWhoAre_0 (by decide) rfl ?_
  refine z_istore_n (q := 2) (L' := [some (.ref l0), some (.int l1), some (.int 0), none]) dX10_menWhoAre_1 rfl (Nat.le_of_ble_eq_true rfl) rfl rfl rfl ?_
  refine z_iconst (q := 3) (v := 0) dX10_menWhoAre_2 (by decide) rfl ?_
  refine z_istore_n (q := 4) (L' := [some (.ref l0), some (.int l1), some (.int 0), some (.int 0)]) dX10_menWhoAre_3 rfl (Nat.le_of_ble_eq_true rfl) rfl rfl rfl ?_
  exact hF
set_option maxRecDepth 100000 in
set_option maxHeartbeats 4000000 in
theorem wX10_openPits_4 {ψ : Int32 → ZH → Prop} {l0 : Nat} {l1 : Int32} {l2 : Int32} {h : ZH} (hF : (zK h l0 = 11) ∧ (((zI h l0 12) ≤ l2 → ψ l1 h) ∧ (¬ (zI h l0 12) ≤ l2 → ((zR h l0 1) ≠ 0) ∧ (zK h (zR h l0 1) = 25) ∧ (vp_in l2 (zN h (zR h l0 1))) ∧ ((zR h (zR h l0 1) (Int32.toNatClampNeg l2)) ≠ 0) ∧ (zK h (zR h (zR h l0 1) (Int32.toNatClampNeg l2)) = 5) ∧ (((zI h (zR h (zR h l0 1) (Int32.toNatClampNeg l2)) 5) = 0 → Zt mX10_openPits (zPI ψ) 0 0 4 [some (.ref l0), some (.int l1), some (.int (l2 + 1))] [] h) ∧ (¬ (zI h (zR h (zR h l0 1) (Int32.toNatClampNeg l2)) 5) = 0 → Zt mX10_openPits (zPI ψ) 0 0 4 [some (.ref l0), some (.int (l1 ||| ((1 : Int32) <<< (l2 &&& 31)))), some (.int (l2 + 1))] [] h))))) : Zt mX10_openPits (zPI ψ) 0 0 4 [some (.ref l0), some (.int l1), some (.int l2)] [] h := by
  refine z_iload_n (q := 5) dX10_openPits_4 rfl rfl rfl ?_
  refine z_aload_n (q := 6) dX10_openPits_5 rfl rfl rfl ?_
  obtain ⟨g1, hF⟩ := hF
  refine z_getI (c := 10) (k := 12) (r := (RX10, TX10, 15)) (q := 9) dX10_openPits_6 rfl (by decide) fl_X10_110 rfl g1 rfl ?_
  refine z_icmp_ge (t := 36) (q := 12) dX10_openPits_9 (by decide) rfl (fun hc => ?_) (fun hc => ?_)
  · have hF := hF.1 hc
    refine z_iload_n (q := 37) dX10_openPits_36 rfl rfl rfl ?_
    exact z_ireturn dX10_openPits_37 rfl ⟨_, rfl, hF⟩
  · have hF := hF.2 hc
    refine z_aload_n (q := 13) dX10_openPits_12 rfl rfl rfl ?_
    obtain ⟨g2, hF⟩ := hF
    refine z_getR (c := 10) (k := 1) (r := (RX10, TX10, 15)) (q := 16) dX10_openPits_13 rfl (by decide) fl_X10_17 rfl g1 g2 rfl ?_
    refine z_iload_n (q := 17) dX10_openPits_16 rfl rfl rfl ?_
    obtain ⟨g3, hF⟩ := hF
    obtain ⟨g4, hF⟩ := hF
    obtain ⟨g5, hF⟩ := hF
    refine y_aald (kd := 25) (j := (Int32.toNatClampNeg l2)) (q := 18) dX10_openPits_17 g3 (by decide) (by decide) rfl g4 rfl g5 rfl ?_
    obtain ⟨g6, hF⟩ := hF
    refine z_getI (c := 4) (k := 5) (r := (RX4, TX4, 8)) (q := 21) dX10_openPits_18 rfl (by decide) fl_X10_136 rfl g6 rfl ?_
    refine z_if_eq (t := 30) (q := 24) dX10_openPits_21 (by decide) rfl (fun hc => ?_) (fun hc => ?_)
    · have hF := hF.1 hc
      refine z_iinc (q := 33) (v := (l2 + 1)) (L' := [some (.ref l0), some (.int l1), some (.int (l2 + 1))]) dX10_openPits_30 rfl rfl (Nat.le_of_ble_eq_true rfl) rfl rfl rfl ?_
      refine z_goto (q := 4) dX10_openPits_33 (by decide) ?_
      exact hF
    · have hF := hF.2 hc
      refine z_iload_n (q := 25) dX10_openPits_24 rfl rfl rfl ?_
      refine z_iconst (q := 26) (v := 1) dX10_openPits_25 (by decide) rfl ?_
      refine z_iload_n (q := 27) dX10_openPits_26 rfl rfl rfl ?_
      refine z_ishl (q := 28) dX10_openPits_27 rfl ?_
      refine z_ior (q := 29) dX10_openPits_28 rfl ?_
      refine z_istore_n (q := 30) (L' := [some (.ref l0), some (.int (l1 ||| ((1 : Int32) <<< (l2 &&& 31)))), some (.int l2)]) dX10_openPits_29 rfl (Nat.le_of_ble_eq_true rfl) rfl rfl rfl ?_
      refine z_iinc (q := 33) (v := (l2 + 1)) (L' := [some (.ref l0), some (.int (l1 ||| ((1 : Int32) <<< (l2 &&& 31)))), some (.int (l2 + 1))]) dX10_openPits_30 rfl rfl (Nat.le_of_ble_eq_true rfl) rfl rfl rfl ?_
      refine z_goto (q := 4) dX10_openPits_33 (by decide) ?_
      exact hF
set_option maxRecDepth 100000 in
set_option maxHeartbeats 4000000 in
theorem wX10_openPits {ψ : Int32 → ZH → Prop} {l0 : Nat} {h : ZH} (hF : Zt mX10_openPits (zPI ψ) 0 0 4 [some (.ref l0), some (.int 0), some (.int 0)] [] h) : ZcI mX10_openPits [.ref l0] h ψ := by
  refine Zc.intro (L := [some (.ref l0), none, none]) (show plainName RX10 = true by decide) rfl (Nat.le_of_ble_eq_true rfl) ?_
  show Zt _ _ 0 0 _ _ _ _
  refine z_iconst (q := 1) (v := 0) dX10_openPits_0 (by decide) rfl ?_
  refine z_istore_n (q := 2) (L' := [some (.ref l0), some (.int 0), none]) dX10_openPits_1 rfl (Nat.le_of_ble_eq_true rfl) rfl rfl rfl ?_
  refine z_iconst (q := 3) (v := 0) dX10_openPits_2 (by decide) rfl ?_
  refine z_istore_n (q := 4) (L' := [some (.ref l0), some (.int 0), some (.int 0)]) dX10_openPits_3 rfl (Nat.le_of_ble_eq_true rfl) rfl rfl rfl ?_
  exact hF
set_option maxRecDepth 100000 in
set_option maxHeartbeats 4000000 in
theorem wX10_workersOf_4 {ψ : Int32 → ZH → Prop} {l0 : Nat} {l1 : Int32} {l2 : Int32} {l3 : Int32} {h : ZH} (hF : (zK h l0 = 11) ∧ (((zI h l0 13) ≤ l3 → ψ l2 h) ∧ (¬ (zI h l0 13) ≤ l3 → ((zR h l0 2) ≠ 0) ∧ (zK h (zR h l0 2) = 24) ∧ (vp_in l3 (zN h (zR h l0 2))) ∧ ((zR h (zR h l0 2) (Int32.toNatClampNeg l3)) ≠ 0) ∧ (zK h (zR h (zR h l0 2) (Int32.toNatClampNeg l3)) = 2) ∧ ((¬ (zI h (zR h (zR h l0 2) (Int32.toNatClampNeg l3)) 3) = l1 → Zt mX10_workersOf (zPI ψ) 0 0 4 [some (.ref l0), some (.int l1), some (.int l2), some (.int (l3 + 1))] [] h) ∧ ((zI h (zR h (zR h l0 2) (Int32.toNatClampNeg l3)) 3) = l1 → ((¬ (zI h (zR h (zR h l0 2) (Int32.toNatClampNeg l3)) 6) = 0 → Zt mX10_workersOf (zPI ψ) 0 0 4 [some (.ref l0), some (.int l1), some (.int l2), some (.int (l3 + 1))] [] h) ∧ ((zI h (zR h (zR h l0 2) (Int32.toNatClampNeg l3)) 6) = 0 → Zt mX10_workersOf (zPI ψ) 0 0 4 [some (.ref l0), some (.int l1), some (.int (l2 + 1)), some (.int (l3 + 1))] [] h))))))) : Zt mX10_workersOf (zPI ψ) 0 0 4 [some (.ref l0), some (.int l1), some (.int l2), some (.int l3)] [] h := by
  refine z_iload_n (q := 5) dX10_workersOf_4 rfl rfl rfl ?_
  refine z_aload_n (q := 6) dX10_workersOf_5 rfl rfl rfl ?_
  obtain ⟨g1, hF⟩ := hF
  refine z_getI (c := 10) (k := 13) (r := (RX10, TX10, 15)) (q := 9) dX10_workersOf_6 rfl (by decide) fl_X10_164 rfl g1 rfl ?_
  refine z_icmp_ge (t := 46) (q := 12) dX10_workersOf_9 (by decide) rfl (fun hc => ?_) (fun hc => ?_)
  · have hF := hF.1 hc
    refine z_iload_n (q := 47) dX10_workersOf_46 rfl rfl rfl ?_
    exact z_ireturn dX10_workersOf_47 rfl ⟨_, rfl, hF⟩
  · have hF := hF.2 hc
    refine z_aload_n (q := 13) dX10_workersOf_12 rfl rfl rfl ?_
    obtain ⟨g2, hF⟩ := hF
    refine z_getR (c := 10) (k := 2) (r := (RX10, TX10, 15)) (q := 16) dX10_workersOf_13 rfl (by decide) fl_X10_23 rfl g1 g2 rfl ?_
    refine z_iload_n (q := 17) dX10_workersOf_16 rfl rfl rfl ?_
    obtain ⟨g3, hF⟩ := hF
    obtain ⟨g4, hF⟩ := hF
    obtain ⟨g5, hF⟩ := hF
    refine y_aald (kd := 24) (j := (Int32.toNatClampNeg l3)) (q := 18) dX10_workersOf_17 g3 (by decide) (by decide) rfl g4 rfl g5 rfl ?_
    obtain ⟨g6, hF⟩ := hF
    refine z_getI (c := 1) (k := 3) (r := (RX1, TX1, 7)) (q := 21) dX10_workersOf_18 rfl (by decide) fl_X10_182 rfl g6 rfl ?_
    refine z_iload_n (q := 22) dX10_workersOf_21 rfl rfl rfl ?_
    refine z_icmp_ne (t := 40) (q := 25) dX10_workersOf_22 (by decide) rfl (fun hc => ?_) (fun hc => ?_)
    · have hF := hF.1 hc
      refine z_iinc (q := 43) (v := (l3 + 1)) (L' := [some (.ref l0), some (.int l1), some (.int l2), some (.int (l3 + 1))]) dX10_workersOf_40 rfl rfl (Nat.le_of_ble_eq_true rfl) rfl rfl rfl ?_
      refine z_goto (q := 4) dX10_workersOf_43 (by decide) ?_
      exact hF
    · have hF := hF.2 hc
      refine z_aload_n (q := 26) dX10_workersOf_25 rfl rfl rfl ?_
      refine z_getR (c := 10) (k := 2) (r := (RX10, TX10, 15)) (q := 29) dX10_workersOf_26 rfl (by decide) fl_X10_23 rfl g1 g2 rfl ?_
      refine z_iload_n (q := 30) dX10_workersOf_29 rfl rfl rfl ?_
      refine y_aald (kd := 24) (j := (Int32.toNatClampNeg l3)) (q := 31) dX10_workersOf_30 g3 (by decide) (by decide) rfl g4 rfl g5 rfl ?_
      refine z_getI (c := 1) (k := 6) (r := (RX1, TX1, 7)) (q := 34) dX10_workersOf_31 rfl (by decide) fl_X10_191 rfl g6 rfl ?_
      refine z_if_ne (t := 40) (q := 37) dX10_workersOf_34 (by decide) rfl (fun hc => ?_) (fun hc => ?_)
      · have hF := hF.1 hc
        refine z_iinc (q := 43) (v := (l3 + 1)) (L' := [some (.ref l0), some (.int l1), some (.int l2), some (.int (l3 + 1))]) dX10_workersOf_40 rfl rfl (Nat.le_of_ble_eq_true rfl) rfl rfl rfl ?_
        refine z_goto (q := 4) dX10_workersOf_43 (by decide) ?_
        exact hF
      · have hF := hF.2 hc
        refine z_iinc (q := 40) (v := (l2 + 1)) (L' := [some (.ref l0), some (.int l1), some (.int (l2 + 1)), some (.int l3)]) dX10_workersOf_37 rfl rfl (Nat.le_of_ble_eq_true rfl) rfl rfl rfl ?_
        refine z_iinc (q := 43) (v := (l3 + 1)) (L' := [some (.ref l0), some (.int l1), some (.int (l2 + 1)), some (.int (l3 + 1))]) dX10_workersOf_40 rfl rfl (Nat.le_of_ble_eq_true rfl) rfl rfl rfl ?_
        refine z_goto (q := 4) dX10_workersOf_43 (by decide) ?_
        exact hF
set_option maxRecDepth 100000 in
set_option maxHeartbeats 4000000 in
theorem wX10_workersOf {ψ : Int32 → ZH → Prop} {l0 : Nat} {l1 : Int32} {h : ZH} (hF : Zt mX10_workersOf (zPI ψ) 0 0 4 [some (.ref l0), some (.int l1), some (.int 0), some (.int 0)] [] h) : ZcI mX10_workersOf [.ref l0, .int l1] h ψ := by
  refine Zc.intro (L := [some (.ref l0), some (.int l1), none, none]) (show plainName RX10 = true by decide) rfl (Nat.le_of_ble_eq_true rfl) ?_
  show Zt _ _ 0 0 _ _ _ _
  refine z_iconst (q := 1) (v := 0) dX10_workersOf_0 (by decide) rfl ?_
  refine z_istore_n (q := 2) (L' := [some (.ref l0), some (.int l1), some (.int 0), none]) dX10_workersOf_1 rfl (Nat.le_of_ble_eq_true rfl) rfl rfl rfl ?_
  refine z_iconst (q := 3) (v := 0) dX10_workersOf_2 (by decide) rfl ?_
  refine z_istore_n (q := 4) (L' := [some (.ref l0), some (.int l1), some (.int 0), some (.int 0)]) dX10_workersOf_3 rfl (Nat.le_of_ble_eq_true rfl) rfl rfl rfl ?_
  exact hF
set_option maxRecDepth 100000 in
set_option maxHeartbeats 4000000 in
theorem wX10_dwellersOf_4 {ψ : Int32 → ZH → Prop} {l0 : Nat} {l1 : Int32} {l2 : Int32} {l3 : Int32} {h : ZH} (hF : (zK h l0 = 11) ∧ (((zI h l0 13) ≤ l3 → ψ l2 h) ∧ (¬ (zI h l0 13) ≤ l3 → ((zR h l0 2) ≠ 0) ∧ (zK h (zR h l0 2) = 24) ∧ (vp_in l3 (zN h (zR h l0 2))) ∧ ((zR h (zR h l0 2) (Int32.toNatClampNeg l3)) ≠ 0) ∧ (zK h (zR h (zR h l0 2) (Int32.toNatClampNeg l3)) = 2) ∧ ((¬ (zI h (zR h (zR h l0 2) (Int32.toNatClampNeg l3)) 3) = l1 → Zt mX10_dwellersOf (zPI ψ) 0 0 4 [some (.ref l0), some (.int l1), some (.int l2), some (.int (l3 + 1))] [] h) ∧ ((zI h (zR h (zR h l0 2) (Int32.toNatClampNeg l3)) 3) = l1 → (((zI h (zR h (zR h l0 2) (Int32.toNatClampNeg l3)) 6) = 4 → Zt mX10_dwellersOf (zPI ψ) 0 0 4 [some (.ref l0), some (.int l1), some (.int l2), some (.int (l3 + 1))] [] h) ∧ (¬ (zI h (zR h (zR h l0 2) (Int32.toNatClampNeg l3)) 6) = 4 → Zt mX10_dwellersOf (zPI ψ) 0 0 4 [some (.ref l0), some (.int l1), some (.int (l2 + 1)), some (.int (l3 + 1))] [] h))))))) : Zt mX10_dwellersOf (zPI ψ) 0 0 4 [some (.ref l0), some (.int l1), some (.int l2), some (.int l3)] [] h := by
  refine z_iload_n (q := 5) dX10_dwellersOf_4 rfl rfl rfl ?_
  refine z_aload_n (q := 6) dX10_dwellersOf_5 rfl rfl rfl ?_
  obtain ⟨g1, hF⟩ := hF
  refine z_getI (c := 10) (k := 13) (r := (RX10, TX10, 15)) (q := 9) dX10_dwellersOf_6 rfl (by decide) fl_X10_164 rfl g1 rfl ?_
  refine z_icmp_ge (t := 47) (q := 12) dX10_dwellersOf_9 (by decide) rfl (fun hc => ?_) (fun hc => ?_)
  · have hF := hF.1 hc
    refine z_iload_n (q := 48) dX10_dwellersOf_47 rfl rfl rfl ?_
    exact z_ireturn dX10_dwellersOf_48 rfl ⟨_, rfl, hF⟩
  · have hF := hF.2 hc
    refine z_aload_n (q := 13) dX10_dwellersOf_12 rfl rfl rfl ?_
    obtain ⟨g2, hF⟩ := hF
    refine z_getR (c := 10) (k := 2) (r := (RX10, TX10, 15)) (q := 16) dX10_dwellersOf_13 rfl (by decide) fl_X10_23 rfl g1 g2 rfl ?_
    refine z_iload_n (q := 17) dX10_dwellersOf_16 rfl rfl rfl ?_
    obtain ⟨g3, hF⟩ := hF
    obtain ⟨g4, hF⟩ := hF
    obtain ⟨g5, hF⟩ := hF
    refine y_aald (kd := 24) (j := (Int32.toNatClampNeg l3)) (q := 18) dX10_dwellersOf_17 g3 (by decide) (by decide) rfl g4 rfl g5 rfl ?_
    obtain ⟨g6, hF⟩ := hF
    refine z_getI (c := 1) (k := 3) (r := (RX1, TX1, 7)) (q := 21) dX10_dwellersOf_18 rfl (by decide) fl_X10_182 rfl g6 rfl ?_
    refine z_iload_n (q := 22) dX10_dwellersOf_21 rfl rfl rfl ?_
    refine z_icmp_ne (t := 41) (q := 25) dX10_dwellersOf_22 (by decide) rfl (fun hc => ?_) (fun hc => ?_)
    · have hF := hF.1 hc
      refine z_iinc (q := 44) (v := (l3 + 1)) (L' := [some (.ref l0), some (.int l1), some (.int l2), some (.int (l3 + 1))]) dX10_dwellersOf_41 rfl rfl (Nat.le_of_ble_eq_true rfl) rfl rfl rfl ?_
      refine z_goto (q := 4) dX10_dwellersOf_44 (by decide) ?_
      exact hF
    · have hF := hF.2 hc
      refine z_aload_n (q := 26) dX10_dwellersOf_25 rfl rfl rfl ?_
      refine z_getR (c := 10) (k := 2) (r := (RX10, TX10, 15)) (q := 29) dX10_dwellersOf_26 rfl (by decide) fl_X10_23 rfl g1 g2 rfl ?_
      refine z_iload_n (q := 30) dX10_dwellersOf_29 rfl rfl rfl ?_
      refine y_aald (kd := 24) (j := (Int32.toNatClampNeg l3)) (q := 31) dX10_dwellersOf_30 g3 (by decide) (by decide) rfl g4 rfl g5 rfl ?_
      refine z_getI (c := 1) (k := 6) (r := (RX1, TX1, 7)) (q := 34) dX10_dwellersOf_31 rfl (by decide) fl_X10_191 rfl g6 rfl ?_
      refine z_iconst (q := 35) (v := 4) dX10_dwellersOf_34 (by decide) rfl ?_
      refine z_icmp_eq (t := 41) (q := 38) dX10_dwellersOf_35 (by decide) rfl (fun hc => ?_) (fun hc => ?_)
      · have hF := hF.1 hc
        refine z_iinc (q := 44) (v := (l3 + 1)) (L' := [some (.ref l0), some (.int l1), some (.int l2), some (.int (l3 + 1))]) dX10_dwellersOf_41 rfl rfl (Nat.le_of_ble_eq_true rfl) rfl rfl rfl ?_
        refine z_goto (q := 4) dX10_dwellersOf_44 (by decide) ?_
        exact hF
      · have hF := hF.2 hc
        refine z_iinc (q := 41) (v := (l2 + 1)) (L' := [some (.ref l0), some (.int l1), some (.int (l2 + 1)), some (.int l3)]) dX10_dwellersOf_38 rfl rfl (Nat.le_of_ble_eq_true rfl) rfl rfl rfl ?_
        refine z_iinc (q := 44) (v := (l3 + 1)) (L' := [some (.ref l0), some (.int l1), some (.int (l2 + 1)), some (.int (l3 + 1))]) dX10_dwellersOf_41 rfl rfl (Nat.le_of_ble_eq_true rfl) rfl rfl rfl ?_
        refine z_goto (q := 4) dX10_dwellersOf_44 (by decide) ?_
        exact hF
set_option maxRecDepth 100000 in
set_option maxHeartbeats 4000000 in
theorem wX10_dwellersOf {ψ : Int32 → ZH → Prop} {l0 : Nat} {l1 : Int32} {h : ZH} (hF : Zt mX10_dwellersOf (zPI ψ) 0 0 4 [some (.ref l0), some (.int l1), some (.int 0), some (.int 0)] [] h) : ZcI mX10_dwellersOf [.ref l0, .int l1] h ψ := by
  refine Zc.intro (L := [some (.ref l0), some (.int l1), none, none]) (show plainName RX10 = true by decide) rfl (Nat.le_of_ble_eq_true rfl) ?_
  show Zt _ _ 0 0 _ _ _ _
  refine z_iconst (q := 1) (v := 0) dX10_dwellersOf_0 (by decide) rfl ?_
  refine z_istore_n (q := 2) (L' := [some (.ref l0), some (.int l1), some (.int 0), none]) dX10_dwellersOf_1 rfl (Nat.le_of_ble_eq_true rfl) rfl rfl rfl ?_
  refine z_iconst (q := 3) (v := 0) dX10_dwellersOf_2 (by decide) rfl ?_
  refine z_istore_n (q := 4) (L' := [some (.ref l0), some (.int l1), some (.int 0), some (.int 0)]) dX10_dwellersOf_3 rfl (Nat.le_of_ble_eq_true rfl) rfl rfl rfl ?_
  exact hF
set_option maxRecDepth 100000 in
set_option maxHeartbeats 4000000 in
theorem wX10_pitsOf_4 {ψ : Int32 → ZH → Prop} {l0 : Nat} {l1 : Int32} {l2 : Int32} {l3 : Int32} {h : ZH} (hF : (zK h l0 = 11) ∧ (((zI h l0 13) ≤ l3 → ψ l2 h) ∧ (¬ (zI h l0 13) ≤ l3 → ((zR h l0 2) ≠ 0) ∧ (zK h (zR h l0 2) = 24) ∧ (vp_in l3 (zN h (zR h l0 2))) ∧ ((zR h (zR h l0 2) (Int32.toNatClampNeg l3)) ≠ 0) ∧ (zK h (zR h (zR h l0 2) (Int32.toNatClampNeg l3)) = 2) ∧ ((¬ (zI h (zR h (zR h l0 2) (Int32.toNatClampNeg l3)) 3) = l1 → Zt mX10_pitsOf (zPI ψ) 0 0 4 [some (.ref l0), some (.int l1), some (.int l2), some (.int (l3 + 1))] [] h) ∧ ((zI h (zR h (zR h l0 2) (Int32.toNatClampNeg l3)) 3) = l1 → ZcI mX10_isPit [.ref l0, .int (zI h (zR h (zR h l0 2) (Int32.toNatClampNeg l3)) 4)] h (fun x8 h7 => ((x8 = 0 → Zt mX10_pitsOf (zPI ψ) 0 0 4 [some (.ref l0), some (.int l1), some (.int l2), some (.int (l3 + 1))] [] h7) ∧ (¬ x8 = 0 → (zK h7 l0 = 11) ∧ ((zR h7 l0 2) ≠ 0) ∧ (zK h7 (zR h7 l0 2) = 24) ∧ (vp_in l3 (zN h7 (zR h7 l0 2))) ∧ ((zR h7 (zR h7 l0 2) (Int32.toNatClampNeg l3)) ≠ 0) ∧ (zK h7 (zR h7 (zR h7 l0 2) (Int32.toNatClampNeg l3)) = 2) ∧ ∀ v15 : Int32, v15 = (l2 ||| ((1 : Int32) <<< ((zI h7 (zR h7 (zR h7 l0 2) (Int32.toNatClampNeg l3)) 4) &&& 31))) → Zt mX10_pitsOf (zPI ψ) 0 0 4 [some (.ref l0), some (.int l1), some (.int v15), some (.int (l3 + 1))] [] h7)))))))) : Zt mX10_pitsOf (zPI ψ) 0 0 4 [some (.ref l0), some (.int l1), some (.int l2), some (.int l3)] [] h := by
  refine z_iload_n (q := 5) dX10_pitsOf_4 rfl rfl rfl ?_
  refine z_aload_n (q := 6) dX10_pitsOf_5 rfl rfl rfl ?_
  obtain ⟨g1, hF⟩ := hF
  refine z_getI (c := 10) (k := 13) (r := (RX10, TX10, 15)) (q := 9) dX10_pitsOf_6 rfl (by decide) fl_X10_164 rfl g1 rfl ?_
  refine z_icmp_ge (t := 61) (q := 12) dX10_pitsOf_9 (by decide) rfl (fun hc => ?_) (fun hc => ?_)
  · have hF := hF.1 hc
    refine z_iload_n (q := 62) dX10_pitsOf_61 rfl rfl rfl ?_
    exact z_ireturn dX10_pitsOf_62 rfl ⟨_, rfl, hF⟩
  · have hF := hF.2 hc
    refine z_aload_n (q := 13) dX10_pitsOf_12 rfl rfl rfl ?_
    obtain ⟨g2, hF⟩ := hF
    refine z_getR (c := 10) (k := 2) (r := (RX10, TX10, 15)) (q := 16) dX10_pitsOf_13 rfl (by decide) fl_X10_23 rfl g1 g2 rfl ?_
    refine z_iload_n (q := 17) dX10_pitsOf_16 rfl rfl rfl ?_
    obtain ⟨g3, hF⟩ := hF
    obtain ⟨g4, hF⟩ := hF
    obtain ⟨g5, hF⟩ := hF
    refine y_aald (kd := 24) (j := (Int32.toNatClampNeg l3)) (q := 18) dX10_pitsOf_17 g3 (by decide) (by decide) rfl g4 rfl g5 rfl ?_
    obtain ⟨g6, hF⟩ := hF
    refine z_getI (c := 1) (k := 3) (r := (RX1, TX1, 7)) (q := 21) dX10_pitsOf_18 rfl (by decide) fl_X10_182 rfl g6 rfl ?_
    refine z_iload_n (q := 22) dX10_pitsOf_21 rfl rfl rfl ?_
    refine z_icmp_ne (t := 55) (q := 25) dX10_pitsOf_22 (by decide) rfl (fun hc => ?_) (fun hc => ?_)
    · have hF := hF.1 hc
      refine z_iinc (q := 58) (v := (l3 + 1)) (L' := [some (.ref l0), some (.int l1), some (.int l2), some (.int (l3 + 1))]) dX10_pitsOf_55 rfl rfl (Nat.le_of_ble_eq_true rfl) rfl rfl rfl ?_
      refine z_goto (q := 4) dX10_pitsOf_58 (by decide) ?_
      exact hF
    · have hF := hF.2 hc
      refine z_aload_n (q := 26) dX10_pitsOf_25 rfl rfl rfl ?_
      refine z_aload_n (q := 27) dX10_pitsOf_26 rfl rfl rfl ?_
      refine z_getR (c := 10) (k := 2) (r := (RX10, TX10, 15)) (q := 30) dX10_pitsOf_27 rfl (by decide) fl_X10_23 rfl g1 g2 rfl ?_
      refine z_iload_n (q := 31) dX10_pitsOf_30 rfl rfl rfl ?_
      refine y_aald (kd := 24) (j := (Int32.toNatClampNeg l3)) (q := 32) dX10_pitsOf_31 g3 (by decide) (by decide) rfl g4 rfl g5 rfl ?_
      refine z_getI (c := 1) (k := 4) (r := (RX1, TX1, 7)) (q := 35) dX10_pitsOf_32 rfl (by decide) fl_X10_185 rfl g6 rfl ?_
      refine z_callVI (rc := 0) (rs := 0) (b := l0) (av := [.int (zI h (zR h (zR h l0 2) (Int32.toNatClampNeg l3)) 4)]) (ci := 10) (r := (RX10, TX10, 15)) (q := 38) hF dX10_pitsOf_35 ml_X10_120 ok_X10_isPit in_X10_isPit se_X10_isPit rfl rfl g1 rfl (Nat.le_of_ble_eq_true rfl) (by decide) (Nat.le_of_ble_eq_true rfl) rfl rfl rfl rfl (fun x8 h7 hF => ?_)
      refine z_if_eq (t := 55) (q := 41) dX10_pitsOf_38 (by decide) rfl (fun hc => ?_) (fun hc => ?_)
      · have hF := hF.1 hc
        refine z_iinc (q := 58) (v := (l3 + 1)) (L' := [some (.ref l0), some (.int l1), some (.int l2), some (.int (l3 + 1))]) dX10_pitsOf_55 rfl rfl (Nat.le_of_ble_eq_true rfl) rfl rfl rfl ?_
        refine z_goto (q := 4) dX10_pitsOf_58 (by decide) ?_
        exact hF
      · have hF := hF.2 hc
        refine z_iload_n (q := 42) dX10_pitsOf_41 rfl rfl rfl ?_
        refine z_iconst (q := 43) (v := 1) dX10_pitsOf_42 (by decide) rfl ?_
        refine z_aload_n (q := 44) dX10_pitsOf_43 rfl rfl rfl ?_
        obtain ⟨g9, hF⟩ := hF
        obtain ⟨g10, hF⟩ := hF
        refine z_getR (c := 10) (k := 2) (r := (RX10, TX10, 15)) (q := 47) dX10_pitsOf_44 rfl (by decide) fl_X10_23 rfl g9 g10 rfl ?_
        refine z_iload_n (q := 48) dX10_pitsOf_47 rfl rfl rfl ?_
        obtain ⟨g11, hF⟩ := hF
        obtain ⟨g12, hF⟩ := hF
        obtain ⟨g13, hF⟩ := hF
        refine y_aald (kd := 24) (j := (Int32.toNatClampNeg l3)) (q := 49) dX10_pitsOf_48 g11 (by decide) (by decide) rfl g12 rfl g13 rfl ?_
        obtain ⟨g14, hF⟩ := hF
        refine z_getI (c := 1) (k := 4) (r := (RX1, TX1, 7)) (q := 52) dX10_pitsOf_49 rfl (by decide) fl_X10_185 rfl g14 rfl ?_
        refine z_ishl (q := 53) dX10_pitsOf_52 rfl ?_
        refine z_ior (q := 54) dX10_pitsOf_53 rfl ?_
        refine z_nameI (fun v15 ev16 => ?_)
        have hF := hF v15 ev16
        refine z_istore_n (q := 55) (L' := [some (.ref l0), some (.int l1), some (.int v15), some (.int l3)]) dX10_pitsOf_54 rfl (Nat.le_of_ble_eq_true rfl) rfl rfl rfl ?_
        refine z_iinc (q := 58) (v := (l3 + 1)) (L' := [some (.ref l0), some (.int l1), some (.int v15), some (.int (l3 + 1))]) dX10_pitsOf_55 rfl rfl (Nat.le_of_ble_eq_true rfl) rfl rfl rfl ?_
        refine z_goto (q := 4) dX10_pitsOf_58 (by decide) ?_
        exact hF
set_option maxRecDepth 100000 in
set_option maxHeartbeats 4000000 in
theorem wX10_pitsOf {ψ : Int32 → ZH → Prop} {l0 : Nat} {l1 : Int32} {h : ZH} (hF : Zt mX10_pitsOf (zPI ψ) 0 0 4 [some (.ref l0), some (.int l1), some (.int 0), some (.int 0)] [] h) : ZcI mX10_pitsOf [.ref l0, .int l1] h ψ := by
  refine Zc.intro (L := [some (.ref l0), some (.int l1), none, none]) (show plainName RX10 = true by decide) rfl (Nat.le_of_ble_eq_true rfl) ?_
  show Zt _ _ 0 0 _ _ _ _
  refine z_iconst (q := 1) (v := 0) dX10_pitsOf_0 (by decide) rfl ?_
  refine z_istore_n (q := 2) (L' := [some (.ref l0), some (.int l1), some (.int 0), none]) dX10_pitsOf_1 rfl (Nat.le_of_ble_eq_true rfl) rfl rfl rfl ?_
  refine z_iconst (q := 3) (v := 0) dX10_pitsOf_2 (by decide) rfl ?_
  refine z_istore_n (q := 4) (L' := [some (.ref l0), some (.int l1), some (.int 0), some (.int 0)]) dX10_pitsOf_3 rfl (Nat.le_of_ble_eq_true rfl) rfl rfl rfl ?_
  exact hF
set_option maxRecDepth 100000 in
set_option maxHeartbeats 4000000 in
theorem wX10_isTrue {ψ : Int32 → ZH → Prop} {l0 : Nat} {l1 : Int32} {l2 : Nat} {h : ZH} (hF : (zK h l0 = 11) ∧ ((zR h l0 6) ≠ 0) ∧ (zK h (zR h l0 6) = 27) ∧ (vp_in l1 (zN h (zR h l0 6))) ∧ ((zR h (zR h l0 6) (Int32.toNatClampNeg l1)) ≠ 0) ∧ (zK h (zR h (zR h l0 6) (Int32.toNatClampNeg l1)) = 9) ∧ (((zI h (zR h (zR h l0 6) (Int32.toNatClampNeg l1)) 1) ≤ 0 → ψ 0 h) ∧ (¬ (zI h (zR h (zR h l0 6) (Int32.toNatClampNeg l1)) 1) ≤ 0 → ((zR h l0 7) ≠ 0) ∧ ZcI mX10_wayToWork [.ref l0, .ref l2] h (fun x9 h8 => (zK h8 (zR h l0 7) = 4) ∧ ZcI mX3_result [.ref (zR h l0 7), .ref (zR h (zR h l0 6) (Int32.toNatClampNeg l1)), .ref l2, .int x9] h8 (fun x12 h10 => ((x12 = 0 → ψ 0 h10) ∧ (¬ x12 = 0 → ψ 1 h10))))))) : ZcI mX10_isTrue [.ref l0, .int l1, .ref l2] h ψ := by
  refine Zc.intro (L := [some (.ref l0), some (.int l1), some (.ref l2)]) (show plainName RX10 = true by decide) rfl (Nat.le_of_ble_eq_true rfl) ?_
  show Zt _ _ 0 0 _ _ _ _
  refine z_aload_n (q := 1) dX10_isTrue_0 rfl rfl rfl ?_
  obtain ⟨g1, hF⟩ := hF
  obtain ⟨g2, hF⟩ := hF
  refine z_getR (c := 10) (k := 6) (r := (RX10, TX10, 15)) (q := 4) dX10_isTrue_1 rfl (by decide) fl_X10_47 rfl g1 g2 rfl ?_
  refine z_iload_n (q := 5) dX10_isTrue_4 rfl rfl rfl ?_
  obtain ⟨g3, hF⟩ := hF
  obtain ⟨g4, hF⟩ := hF
  obtain ⟨g5, hF⟩ := hF
  refine y_aald (kd := 27) (j := (Int32.toNatClampNeg l1)) (q := 6) dX10_isTrue_5 g3 (by decide) (by decide) rfl g4 rfl g5 rfl ?_
  obtain ⟨g6, hF⟩ := hF
  refine z_getI (c := 8) (k := 1) (r := (RX8, TX8, 2)) (q := 9) dX10_isTrue_6 rfl (by decide) fl_X10_209 rfl g6 rfl ?_
  refine z_if_le (t := 38) (q := 12) dX10_isTrue_9 (by decide) rfl (fun hc => ?_) (fun hc => ?_)
  · have hF := hF.1 hc
    refine z_iconst (q := 39) (v := 0) dX10_isTrue_38 (by decide) rfl ?_
    exact z_zreturn dX10_isTrue_39 rfl (by decide) ⟨_, rfl, hF⟩
  · have hF := hF.2 hc
    refine z_aload_n (q := 13) dX10_isTrue_12 rfl rfl rfl ?_
    obtain ⟨g7, hF⟩ := hF
    refine z_getR (c := 10) (k := 7) (r := (RX10, TX10, 15)) (q := 16) dX10_isTrue_13 rfl (by decide) fl_X10_54 rfl g1 g7 rfl ?_
    refine z_aload_n (q := 17) dX10_isTrue_16 rfl rfl rfl ?_
    refine z_getR (c := 10) (k := 6) (r := (RX10, TX10, 15)) (q := 20) dX10_isTrue_17 rfl (by decide) fl_X10_47 rfl g1 g2 rfl ?_
    refine z_iload_n (q := 21) dX10_isTrue_20 rfl rfl rfl ?_
    refine y_aald (kd := 27) (j := (Int32.toNatClampNeg l1)) (q := 22) dX10_isTrue_21 g3 (by decide) (by decide) rfl g4 rfl g5 rfl ?_
    refine z_aload_n (q := 23) dX10_isTrue_22 rfl rfl rfl ?_
    refine z_aload_n (q := 24) dX10_isTrue_23 rfl rfl rfl ?_
    refine z_aload_n (q := 25) dX10_isTrue_24 rfl rfl rfl ?_
    refine z_callVI (rc := 0) (rs := 0) (b := l0) (av := [.ref l2]) (ci := 10) (r := (RX10, TX10, 15)) (q := 28) hF dX10_isTrue_25 ml_X10_226 ok_X10_wayToWork in_X10_wayToWork se_X10_wayToWork rfl rfl g1 rfl (Nat.le_of_ble_eq_true rfl) (by decide) (Nat.le_of_ble_eq_true rfl) rfl rfl rfl rfl (fun x9 h8 hF => ?_)
    obtain ⟨g11, hF⟩ := hF
    refine z_callVI (rc := 0) (rs := 0) (b := (zR h l0 7)) (av := [.ref (zR h (zR h l0 6) (Int32.toNatClampNeg l1)), .ref l2, .int x9]) (ci := 3) (r := (RX3, TX3, 2)) (q := 31) hF dX10_isTrue_28 ml_X10_230 ok_X3_result in_X3_result se_X3_result rfl rfl g11 rfl (Nat.le_of_ble_eq_true rfl) (by decide) (Nat.le_of_ble_eq_true rfl) rfl rfl rfl rfl (fun x12 h10 hF => ?_)
    refine z_if_eq (t := 38) (q := 34) dX10_isTrue_31 (by decide) rfl (fun hc => ?_) (fun hc => ?_)
    · have hF := hF.1 hc
      refine z_iconst (q := 39) (v := 0) dX10_isTrue_38 (by decide) rfl ?_
      exact z_zreturn dX10_isTrue_39 rfl (by decide) ⟨_, rfl, hF⟩
    · have hF := hF.2 hc
      refine z_iconst (q := 35) (v := 1) dX10_isTrue_34 (by decide) rfl ?_
      refine z_goto (q := 39) dX10_isTrue_35 (by decide) ?_
      exact z_zreturn dX10_isTrue_39 rfl (by decide) ⟨_, rfl, hF⟩
set_option maxRecDepth 100000 in
set_option maxHeartbeats 4000000 in
theorem wX10_wayToWork {ψ : Int32 → ZH → Prop} {l0 : Nat} {l1 : Nat} {h : ZH} (hF : (zK h l1 = 2) ∧ (zK h l0 = 11) ∧ ZcI mX10_isPit [.ref l0, .int (zI h l1 4)] h (fun x4 h2 => ((x4 = 0 → ψ 0 h2) ∧ (¬ x4 = 0 → (zK h2 l1 = 2) ∧ (zK h2 l0 = 11) ∧ ZcI mX10_wayTo [.ref l0, .int (zI h2 l1 4), .ref l1] h2 (fun x8 h6 => ψ x8 h6))))) : ZcI mX10_wayToWork [.ref l0, .ref l1] h ψ := by
  refine Zc.intro (L := [some (.ref l0), some (.ref l1)]) (show plainName RX10 = true by decide) rfl (Nat.le_of_ble_eq_true rfl) ?_
  show Zt _ _ 0 0 _ _ _ _
  refine z_aload_n (q := 1) dX10_wayToWork_0 rfl rfl rfl ?_
  refine z_aload_n (q := 2) dX10_wayToWork_1 rfl rfl rfl ?_
  obtain ⟨g1, hF⟩ := hF
  refine z_getI (c := 1) (k := 4) (r := (RX1, TX1, 7)) (q := 5) dX10_wayToWork_2 rfl (by decide) fl_X10_185 rfl g1 rfl ?_
  obtain ⟨g3, hF⟩ := hF
  refine z_callVI (rc := 0) (rs := 0) (b := l0) (av := [.int (zI h l1 4)]) (ci := 10) (r := (RX10, TX10, 15)) (q := 8) hF dX10_wayToWork_5 ml_X10_120 ok_X10_isPit in_X10_isPit se_X10_isPit rfl rfl g3 rfl (Nat.le_of_ble_eq_true rfl) (by decide) (Nat.le_of_ble_eq_true rfl) rfl rfl rfl rfl (fun x4 h2 hF => ?_)
  refine z_if_eq (t := 23) (q := 11) dX10_wayToWork_8 (by decide) rfl (fun hc => ?_) (fun hc => ?_)
  · have hF := hF.1 hc
    refine z_iconst (q := 24) (v := 0) dX10_wayToWork_23 (by decide) rfl ?_
    exact z_ireturn dX10_wayToWork_24 rfl ⟨_, rfl, hF⟩
  · have hF := hF.2 hc
    refine z_aload_n (q := 12) dX10_wayToWork_11 rfl rfl rfl ?_
    refine z_aload_n (q := 13) dX10_wayToWork_12 rfl rfl rfl ?_
    obtain ⟨g5, hF⟩ := hF
    refine z_getI (c := 1) (k := 4) (r := (RX1, TX1, 7)) (q := 16) dX10_wayToWork_13 rfl (by decide) fl_X10_185 rfl g5 rfl ?_
    refine z_aload_n (q := 17) dX10_wayToWork_16 rfl rfl rfl ?_
    obtain ⟨g7, hF⟩ := hF
    refine z_callVI (rc := 0) (rs := 0) (b := l0) (av := [.int (zI h2 l1 4), .ref l1]) (ci := 10) (r := (RX10, TX10, 15)) (q := 20) hF dX10_wayToWork_17 ml_X10_361 ok_X10_wayTo in_X10_wayTo se_X10_wayTo rfl rfl g7 rfl (Nat.le_of_ble_eq_true rfl) (by decide) (Nat.le_of_ble_eq_true rfl) rfl rfl rfl rfl (fun x8 h6 hF => ?_)
    refine z_goto (q := 24) dX10_wayToWork_20 (by decide) ?_
    exact z_ireturn dX10_wayToWork_24 rfl ⟨_, rfl, hF⟩
set_option maxRecDepth 100000 in
set_option maxHeartbeats 4000000 in
theorem wX10_wayTo {ψ : Int32 → ZH → Prop} {l0 : Nat} {l1 : Int32} {l2 : Nat} {h : ZH} (hF : (zK h l0 = 11) ∧ ((zR h l0 0) ≠ 0) ∧ (zK h l2 = 2) ∧ (zK h (zR h l0 0) = 26) ∧ (vp_in (zI h l2 3) (zN h (zR h l0 0))) ∧ ((zR h (zR h l0 0) (Int32.toNatClampNeg (zI h l2 3))) ≠ 0) ∧ ((zR h l0 1) ≠ 0) ∧ (zK h (zR h l0 1) = 25) ∧ (vp_in l1 (zN h (zR h l0 1))) ∧ ((zR h (zR h l0 1) (Int32.toNatClampNeg l1)) ≠ 0) ∧ (zK h (zR h (zR h l0 1) (Int32.toNatClampNeg l1)) = 5) ∧ ((zR h (zR h (zR h l0 1) (Int32.toNatClampNeg l1)) 0) ≠ 0) ∧ (zK h (zR h (zR h l0 0) (Int32.toNatClampNeg (zI h l2 3))) = 6) ∧ ZcI mX5_farFrom [.ref (zR h (zR h l0 0) (Int32.toNatClampNeg (zI h l2 3))), .ref (zR h (zR h (zR h l0 1) (Int32.toNatClampNeg l1)) 0)] h (fun x15 h13 => ψ x15 h13)) : ZcI mX10_wayTo [.ref l0, .int l1, .ref l2] h ψ := by
  refine Zc.intro (L := [some (.ref l0), some (.int l1), some (.ref l2)]) (show plainName RX10 = true by decide) rfl (Nat.le_of_ble_eq_true rfl) ?_
  show Zt _ _ 0 0 _ _ _ _
  refine z_aload_n (q := 1) dX10_wayTo_0 rfl rfl rfl ?_
  obtain ⟨g1, hF⟩ := hF
  obtain ⟨g2, hF⟩ := hF
  refine z_getR (c := 10) (k := 0) (r := (RX10, TX10, 15)) (q := 4) dX10_wayTo_1 rfl (by decide) fl_X10_11 rfl g1 g2 rfl ?_
  refine z_aload_n (q := 5) dX10_wayTo_4 rfl rfl rfl ?_
  obtain ⟨g3, hF⟩ := hF
  refine z_getI (c := 1) (k := 3) (r := (RX1, TX1, 7)) (q := 8) dX10_wayTo_5 rfl (by decide) fl_X10_182 rfl g3 rfl ?_
  obtain ⟨g4, hF⟩ := hF
  obtain ⟨g5, hF⟩ := hF
  obtain ⟨g6, hF⟩ := hF
  refine y_aald (kd := 26) (j := (Int32.toNatClampNeg (zI h l2 3))) (q := 9) dX10_wayTo_8 g4 (by decide) (by decide) rfl g5 rfl g6 rfl ?_
  refine z_aload_n (q := 10) dX10_wayTo_9 rfl rfl rfl ?_
  obtain ⟨g7, hF⟩ := hF
  refine z_getR (c := 10) (k := 1) (r := (RX10, TX10, 15)) (q := 13) dX10_wayTo_10 rfl (by decide) fl_X10_17 rfl g1 g7 rfl ?_
  refine z_iload_n (q := 14) dX10_wayTo_13 rfl rfl rfl ?_
  obtain ⟨g8, hF⟩ := hF
  obtain ⟨g9, hF⟩ := hF
  obtain ⟨g10, hF⟩ := hF
  refine y_aald (kd := 25) (j := (Int32.toNatClampNeg l1)) (q := 15) dX10_wayTo_14 g8 (by decide) (by decide) rfl g9 rfl g10 rfl ?_
  obtain ⟨g11, hF⟩ := hF
  obtain ⟨g12, hF⟩ := hF
  refine z_getR (c := 4) (k := 0) (r := (RX4, TX4, 8)) (q := 18) dX10_wayTo_15 rfl (by decide) fl_X10_123 rfl g11 g12 rfl ?_
  obtain ⟨g14, hF⟩ := hF
  refine z_callVI (rc := 0) (rs := 0) (b := (zR h (zR h l0 0) (Int32.toNatClampNeg (zI h l2 3)))) (av := [.ref (zR h (zR h (zR h l0 1) (Int32.toNatClampNeg l1)) 0)]) (ci := 5) (r := (RX5, TX5, 2)) (q := 21) hF dX10_wayTo_18 ml_X10_365 ok_X5_farFrom in_X5_farFrom se_X5_farFrom rfl rfl g14 rfl (Nat.le_of_ble_eq_true rfl) (by decide) (Nat.le_of_ble_eq_true rfl) rfl rfl rfl rfl (fun x15 h13 hF => ?_)
  exact z_ireturn dX10_wayTo_21 rfl ⟨_, rfl, hF⟩
set_option maxRecDepth 100000 in
set_option maxHeartbeats 4000000 in
theorem wX10_workOutMove_131 {ψ : Int32 → ZH → Prop} {l0 : Nat} {l2 : Int32} {h : ZH} (hF : (zK h l0 = 11) ∧ ((zR h l0 8) ≠ 0) ∧ (zK h (zR h l0 8) = 8) ∧ (((zI h (zR h l0 8) 4) ≤ l2 → ZcV mX7_settle [.ref (zR h l0 8)] h (fun h4 => ψ 1 h4)) ∧ (¬ (zI h (zR h l0 8) 4) ≤ l2 → ((zR h l0 2) ≠ 0) ∧ ((zR h (zR h l0 8) 3) ≠ 0) ∧ (zK h (zR h (zR h l0 8) 3) = 20) ∧ (vp_in l2 (zN h (zR h (zR h l0 8) 3))) ∧ (zK h (zR h l0 2) = 24) ∧ (vp_in (zI h (zR h (zR h l0 8) 3) (Int32.toNatClampNeg l2)) (zN h (zR h l0 2))) ∧ ((zR h (zR h l0 2) (Int32.toNatClampNeg (zI h (zR h (zR h l0 8) 3) (Int32.toNatClampNeg l2)))) ≠ 0) ∧ ZcV mX10_offerSlots [.ref l0, .int l2, .ref (zR h (zR h l0 2) (Int32.toNatClampNeg (zI h (zR h (zR h l0 8) 3) (Int32.toNatClampNeg l2))))] h (fun h12 => Zt mX10_workOutMove (zPI ψ) 0 0 131 [some (.ref l0), none, some (.int (l2 + 1))] [] h12)))) : Zt mX10_workOutMove (zPI ψ) 0 0 131 [some (.ref l0), none, some (.int l2)] [] h := by
  refine z_iload_n (q := 132) dX10_workOutMove_131 rfl rfl rfl ?_
  refine z_aload_n (q := 133) dX10_workOutMove_132 rfl rfl rfl ?_
  obtain ⟨g1, hF⟩ := hF
  obtain ⟨g2, hF⟩ := hF
  refine z_getR (c := 10) (k := 8) (r := (RX10, TX10, 15)) (q := 136) dX10_workOutMove_133 rfl (by decide) fl_X10_61 rfl g1 g2 rfl ?_
  obtain ⟨g3, hF⟩ := hF
  refine z_getI (c := 7) (k := 4) (r := (RX7, TX7, 11)) (q := 139) dX10_workOutMove_136 rfl (by decide) fl_X10_379 rfl g3 rfl ?_
  refine z_icmp_ge (t := 167) (q := 142) dX10_workOutMove_139 (by decide) rfl (fun hc => ?_) (fun hc => ?_)
  · have hF := hF.1 hc
    refine z_aload_n (q := 168) dX10_workOutMove_167 rfl rfl rfl ?_
    refine z_getR (c := 10) (k := 8) (r := (RX10, TX10, 15)) (q := 171) dX10_workOutMove_168 rfl (by decide) fl_X10_61 rfl g1 g2 rfl ?_
    refine z_callVV (rc := 0) (rs := 0) (b := (zR h l0 8)) (av := []) (ci := 7) (r := (RX7, TX7, 11)) (q := 174) hF dX10_workOutMove_171 ml_X10_389 ok_X7_settle in_X7_settle se_X7_settle rfl rfl g3 rfl (Nat.le_of_ble_eq_true rfl) (by decide) (Nat.le_of_ble_eq_true rfl) rfl rfl rfl rfl (fun h4 hF => ?_)
    refine z_iconst (q := 175) (v := 1) dX10_workOutMove_174 (by decide) rfl ?_
    exact z_zreturn dX10_workOutMove_175 rfl (by decide) ⟨_, rfl, hF⟩
  · have hF := hF.2 hc
    refine z_aload_n (q := 143) dX10_workOutMove_142 rfl rfl rfl ?_
    refine z_iload_n (q := 144) dX10_workOutMove_143 rfl rfl rfl ?_
    refine z_aload_n (q := 145) dX10_workOutMove_144 rfl rfl rfl ?_
    obtain ⟨g5, hF⟩ := hF
    refine z_getR (c := 10) (k := 2) (r := (RX10, TX10, 15)) (q := 148) dX10_workOutMove_145 rfl (by decide) fl_X10_23 rfl g1 g5 rfl ?_
    refine z_aload_n (q := 149) dX10_workOutMove_148 rfl rfl rfl ?_
    refine z_getR (c := 10) (k := 8) (r := (RX10, TX10, 15)) (q := 152) dX10_workOutMove_149 rfl (by decide) fl_X10_61 rfl g1 g2 rfl ?_
    obtain ⟨g6, hF⟩ := hF
    refine z_getR (c := 7) (k := 3) (r := (RX7, TX7, 11)) (q := 155) dX10_workOutMove_152 rfl (by decide) fl_X10_382 rfl g3 g6 rfl ?_
    refine z_iload_n (q := 156) dX10_workOutMove_155 rfl rfl rfl ?_
    obtain ⟨g7, hF⟩ := hF
    obtain ⟨g8, hF⟩ := hF
    refine y_iald (j := (Int32.toNatClampNeg l2)) (q := 157) dX10_workOutMove_156 (Or.inl g7) g8 rfl rfl ?_
    obtain ⟨g9, hF⟩ := hF
    obtain ⟨g10, hF⟩ := hF
    obtain ⟨g11, hF⟩ := hF
    refine y_aald (kd := 24) (j := (Int32.toNatClampNeg (zI h (zR h (zR h l0 8) 3) (Int32.toNatClampNeg l2)))) (q := 158) dX10_workOutMove_157 g9 (by decide) (by decide) rfl g10 rfl g11 rfl ?_
    refine z_callVV (rc := 0) (rs := 0) (b := l0) (av := [.int l2, .ref (zR h (zR h l0 2) (Int32.toNatClampNeg (zI h (zR h (zR h l0 8) 3) (Int32.toNatClampNeg l2))))]) (ci := 10) (r := (RX10, TX10, 15)) (q := 161) hF dX10_workOutMove_158 ml_X10_385 ok_X10_offerSlots in_X10_offerSlots se_X10_offerSlots rfl rfl g1 rfl (Nat.le_of_ble_eq_true rfl) (by decide) (Nat.le_of_ble_eq_true rfl) rfl rfl rfl rfl (fun h12 hF => ?_)
    refine z_iinc (q := 164) (v := (l2 + 1)) (L' := [some (.ref l0), none, some (.int (l2 + 1))]) dX10_workOutMove_161 rfl rfl (Nat.le_of_ble_eq_true rfl) rfl rfl rfl ?_
    refine z_goto (q := 131) dX10_workOutMove_164 (by decide) ?_
    exact hF
set_option maxRecDepth 100000 in
set_option maxHeartbeats 4000000 in
theorem wX10_workOutMove_59 {ψ : Int32 → ZH → Prop} {l0 : Nat} {l1 : Int32} {l2 : Int32} {h : ZH} (hF : (zK h l0 = 11) ∧ (((zI h l0 13) ≤ l2 → Zt mX10_workOutMove (zPI ψ) 0 0 131 [some (.ref l0), none, some (.int 0)] [] h) ∧ (¬ (zI h l0 13) ≤ l2 → ((zR h l0 2) ≠ 0) ∧ (zK h (zR h l0 2) = 24) ∧ (vp_in l2 (zN h (zR h l0 2))) ∧ ((zR h (zR h l0 2) (Int32.toNatClampNeg l2)) ≠ 0) ∧ (zK h (zR h (zR h l0 2) (Int32.toNatClampNeg l2)) = 2) ∧ ((¬ (zI h (zR h (zR h l0 2) (Int32.toNatClampNeg l2)) 4) = l1 → Zt mX10_workOutMove (zPI ψ) 0 0 59 [some (.ref l0), some (.int l1), some (.int (l2 + 1))] [] h) ∧ ((zI h (zR h (zR h l0 2) (Int32.toNatClampNeg l2)) 4) = l1 → ZcI mX10_isTrue [.ref l0, .int 0, .ref (zR h (zR h l0 2) (Int32.toNatClampNeg l2))] h (fun x20 h19 => ((x20 = 0 → (zK h19 l0 = 11) ∧ ((zR h19 l0 8) ≠ 0) ∧ (zK h19 (zR h19 l0 8) = 8) ∧ ZcI mX7_addMan [.ref (zR h19 l0 8), .int l2] h19 (fun x25 h23 => ((¬ x25 = 0 → Zt mX10_workOutMove (zPI ψ) 0 0 59 [some (.ref l0), some (.int l1), some (.int (l2 + 1))] [] h23) ∧ (x25 = 0 → ψ 0 h23)))) ∧ (¬ x20 = 0 → (zK h19 l0 = 11) ∧ ((zR h19 l0 8) ≠ 0) ∧ (zK h19 (zR h19 l0 8) = 8) ∧ Zt mX10_workOutMove (zPI ψ) 0 0 59 [some (.ref l0), some (.int l1), some (.int (l2 + 1))] [] (zsI h19 (zR h19 l0 8) 7 ((zI h19 (zR h19 l0 8) 7) + 1)))))))))) : Zt mX10_workOutMove (zPI ψ) 0 0 59 [some (.ref l0), some (.int l1), some (.int l2)] [] h := by
  refine z_iload_n (q := 60) dX10_workOutMove_59 rfl rfl rfl ?_
  refine z_aload_n (q := 61) dX10_workOutMove_60 rfl rfl rfl ?_
  obtain ⟨g13, hF⟩ := hF
  refine z_getI (c := 10) (k := 13) (r := (RX10, TX10, 15)) (q := 64) dX10_workOutMove_61 rfl (by decide) fl_X10_164 rfl g13 rfl ?_
  refine z_icmp_ge (t := 129) (q := 67) dX10_workOutMove_64 (by decide) rfl (fun hc => ?_) (fun hc => ?_)
  · have hF := hF.1 hc
    refine z_iconst (q := 130) (v := 0) dX10_workOutMove_129 (by decide) rfl ?_
    refine z_istore_n (q := 131) (L' := [some (.ref l0), some (.int l1), some (.int 0)]) dX10_workOutMove_130 rfl (Nat.le_of_ble_eq_true rfl) rfl rfl rfl ?_
    refine Zt.drop (i := 1) (L' := [some (.ref l0), none, some (.int 0)]) rfl ?_
    exact hF
  · have hF := hF.2 hc
    refine z_aload_n (q := 68) dX10_workOutMove_67 rfl rfl rfl ?_
    obtain ⟨g14, hF⟩ := hF
    refine z_getR (c := 10) (k := 2) (r := (RX10, TX10, 15)) (q := 71) dX10_workOutMove_68 rfl (by decide) fl_X10_23 rfl g13 g14 rfl ?_
    refine z_iload_n (q := 72) dX10_workOutMove_71 rfl rfl rfl ?_
    obtain ⟨g15, hF⟩ := hF
    obtain ⟨g16, hF⟩ := hF
    obtain ⟨g17, hF⟩ := hF
    refine y_aald (kd := 24) (j := (Int32.toNatClampNeg l2)) (q := 73) dX10_workOutMove_72 g15 (by decide) (by decide) rfl g16 rfl g17 rfl ?_
    obtain ⟨g18, hF⟩ := hF
    refine z_getI (c := 1) (k := 4) (r := (RX1, TX1, 7)) (q := 76) dX10_workOutMove_73 rfl (by decide) fl_X10_185 rfl g18 rfl ?_
    refine z_iload_n (q := 77) dX10_workOutMove_76 rfl rfl rfl ?_
    refine z_icmp_ne (t := 123) (q := 80) dX10_workOutMove_77 (by decide) rfl (fun hc => ?_) (fun hc => ?_)
    · have hF := hF.1 hc
      refine z_iinc (q := 126) (v := (l2 + 1)) (L' := [some (.ref l0), some (.int l1), some (.int (l2 + 1))]) dX10_workOutMove_123 rfl rfl (Nat.le_of_ble_eq_true rfl) rfl rfl rfl ?_
      refine z_goto (q := 59) dX10_workOutMove_126 (by decide) ?_
      exact hF
    · have hF := hF.2 hc
      refine z_aload_n (q := 81) dX10_workOutMove_80 rfl rfl rfl ?_
      refine z_iconst (q := 82) (v := 0) dX10_workOutMove_81 (by decide) rfl ?_
      refine z_aload_n (q := 83) dX10_workOutMove_82 rfl rfl rfl ?_
      refine z_getR (c := 10) (k := 2) (r := (RX10, TX10, 15)) (q := 86) dX10_workOutMove_83 rfl (by decide) fl_X10_23 rfl g13 g14 rfl ?_
      refine z_iload_n (q := 87) dX10_workOutMove_86 rfl rfl rfl ?_
      refine y_aald (kd := 24) (j := (Int32.toNatClampNeg l2)) (q := 88) dX10_workOutMove_87 g15 (by decide) (by decide) rfl g16 rfl g17 rfl ?_
      refine z_callVI (rc := 0) (rs := 0) (b := l0) (av := [.int 0, .ref (zR h (zR h l0 2) (Int32.toNatClampNeg l2))]) (ci := 10) (r := (RX10, TX10, 15)) (q := 91) hF dX10_workOutMove_88 ml_X10_304 ok_X10_isTrue in_X10_isTrue se_X10_isTrue rfl rfl g13 rfl (Nat.le_of_ble_eq_true rfl) (by decide) (Nat.le_of_ble_eq_true rfl) rfl rfl rfl rfl (fun x20 h19 hF => ?_)
      refine z_if_eq (t := 110) (q := 94) dX10_workOutMove_91 (by decide) rfl (fun hc => ?_) (fun hc => ?_)
      · have hF := hF.1 hc
        refine z_aload_n (q := 111) dX10_workOutMove_110 rfl rfl rfl ?_
        obtain ⟨g21, hF⟩ := hF
        obtain ⟨g22, hF⟩ := hF
        refine z_getR (c := 10) (k := 8) (r := (RX10, TX10, 15)) (q := 114) dX10_workOutMove_111 rfl (by decide) fl_X10_61 rfl g21 g22 rfl ?_
        refine z_iload_n (q := 115) dX10_workOutMove_114 rfl rfl rfl ?_
        obtain ⟨g24, hF⟩ := hF
        refine z_callVI (rc := 0) (rs := 0) (b := (zR h19 l0 8)) (av := [.int l2]) (ci := 7) (r := (RX7, TX7, 11)) (q := 118) hF dX10_workOutMove_115 ml_X10_376 ok_X7_addMan in_X7_addMan se_X7_addMan rfl rfl g24 rfl (Nat.le_of_ble_eq_true rfl) (by decide) (Nat.le_of_ble_eq_true rfl) rfl rfl rfl rfl (fun x25 h23 hF => ?_)
        refine z_if_ne (t := 123) (q := 121) dX10_workOutMove_118 (by decide) rfl (fun hc => ?_) (fun hc => ?_)
        · have hF := hF.1 hc
          refine z_iinc (q := 126) (v := (l2 + 1)) (L' := [some (.ref l0), some (.int l1), some (.int (l2 + 1))]) dX10_workOutMove_123 rfl rfl (Nat.le_of_ble_eq_true rfl) rfl rfl rfl ?_
          refine z_goto (q := 59) dX10_workOutMove_126 (by decide) ?_
          exact hF
        · have hF := hF.2 hc
          refine z_iconst (q := 122) (v := 0) dX10_workOutMove_121 (by decide) rfl ?_
          exact z_zreturn dX10_workOutMove_122 rfl (by decide) ⟨_, rfl, hF⟩
      · have hF := hF.2 hc
        refine z_aload_n (q := 95) dX10_workOutMove_94 rfl rfl rfl ?_
        obtain ⟨g26, hF⟩ := hF
        obtain ⟨g27, hF⟩ := hF
        refine z_getR (c := 10) (k := 8) (r := (RX10, TX10, 15)) (q := 98) dX10_workOutMove_95 rfl (by decide) fl_X10_61 rfl g26 g27 rfl ?_
        refine z_dup (q := 99) dX10_workOutMove_98 rfl rfl ?_
        obtain ⟨g28, hF⟩ := hF
        refine z_getI (c := 7) (k := 7) (r := (RX7, TX7, 11)) (q := 102) dX10_workOutMove_99 rfl (by decide) fl_X10_246 rfl g28 rfl ?_
        refine z_iconst (q := 103) (v := 1) dX10_workOutMove_102 (by decide) rfl ?_
        refine z_iadd (q := 104) dX10_workOutMove_103 rfl ?_
        refine z_putI (c := 7) (k := 7) (r := (RX7, TX7, 11)) (q := 107) dX10_workOutMove_104 rfl (by decide) fl_X10_246 rfl rfl g28 rfl ?_
        refine z_goto (q := 123) dX10_workOutMove_107 (by decide) ?_
        refine z_iinc (q := 126) (v := (l2 + 1)) (L' := [some (.ref l0), some (.int l1), some (.int (l2 + 1))]) dX10_workOutMove_123 rfl rfl (Nat.le_of_ble_eq_true rfl) rfl rfl rfl ?_
        refine z_goto (q := 59) dX10_workOutMove_126 (by decide) ?_
        exact hF
set_option maxRecDepth 100000 in
set_option maxHeartbeats 4000000 in
theorem wX10_workOutMove_9 {ψ : Int32 → ZH → Prop} {l0 : Nat} {l1 : Int32} {l2 : Int32} {h : ZH} (hF : (zK h l0 = 11) ∧ (((zI h l0 12) ≤ l2 → Zt mX10_workOutMove (zPI ψ) 0 0 59 [some (.ref l0), some (.int l1), some (.int 0)] [] h) ∧ (¬ (zI h l0 12) ≤ l2 → ((l2 = l1 → Zt mX10_workOutMove (zPI ψ) 0 0 9 [some (.ref l0), some (.int l1), some (.int (l2 + 1))] [] h) ∧ (¬ l2 = l1 → ((zR h l0 1) ≠ 0) ∧ (zK h (zR h l0 1) = 25) ∧ (vp_in l2 (zN h (zR h l0 1))) ∧ ((zR h (zR h l0 1) (Int32.toNatClampNeg l2)) ≠ 0) ∧ (zK h (zR h (zR h l0 1) (Int32.toNatClampNeg l2)) = 5) ∧ (((zI h (zR h (zR h l0 1) (Int32.toNatClampNeg l2)) 5) = 0 → Zt mX10_workOutMove (zPI ψ) 0 0 9 [some (.ref l0), some (.int l1), some (.int (l2 + 1))] [] h) ∧ (¬ (zI h (zR h (zR h l0 1) (Int32.toNatClampNeg l2)) 5) = 0 → ((zR h l0 8) ≠ 0) ∧ ((zR h (zR h (zR h l0 1) (Int32.toNatClampNeg l2)) 4) ≠ 0) ∧ (zK h (zR h l0 8) = 8) ∧ ZcV mX7_addSlots [.ref (zR h l0 8), .int l2, .ref (zR h (zR h (zR h l0 1) (Int32.toNatClampNeg l2)) 4)] h (fun h37 => Zt mX10_workOutMove (zPI ψ) 0 0 9 [some (.ref l0), some (.int l1), some (.int (l2 + 1))] [] h37)))))))) : Zt mX10_workOutMove (zPI ψ) 0 0 9 [some (.ref l0), some (.int l1), some (.int l2)] [] h := by
  refine z_iload_n (q := 10) dX10_workOutMove_9 rfl rfl rfl ?_
  refine z_aload_n (q := 11) dX10_workOutMove_10 rfl rfl rfl ?_
  obtain ⟨g29, hF⟩ := hF
  refine z_getI (c := 10) (k := 12) (r := (RX10, TX10, 15)) (q := 14) dX10_workOutMove_11 rfl (by decide) fl_X10_110 rfl g29 rfl ?_
  refine z_icmp_ge (t := 57) (q := 17) dX10_workOutMove_14 (by decide) rfl (fun hc => ?_) (fun hc => ?_)
  · have hF := hF.1 hc
    refine z_iconst (q := 58) (v := 0) dX10_workOutMove_57 (by decide) rfl ?_
    refine z_istore_n (q := 59) (L' := [some (.ref l0), some (.int l1), some (.int 0)]) dX10_workOutMove_58 rfl (Nat.le_of_ble_eq_true rfl) rfl rfl rfl ?_
    exact hF
  · have hF := hF.2 hc
    refine z_iload_n (q := 18) dX10_workOutMove_17 rfl rfl rfl ?_
    refine z_iload_n (q := 19) dX10_workOutMove_18 rfl rfl rfl ?_
    refine z_icmp_eq (t := 51) (q := 22) dX10_workOutMove_19 (by decide) rfl (fun hc => ?_) (fun hc => ?_)
    · have hF := hF.1 hc
      refine z_iinc (q := 54) (v := (l2 + 1)) (L' := [some (.ref l0), some (.int l1), some (.int (l2 + 1))]) dX10_workOutMove_51 rfl rfl (Nat.le_of_ble_eq_true rfl) rfl rfl rfl ?_
      refine z_goto (q := 9) dX10_workOutMove_54 (by decide) ?_
      exact hF
    · have hF := hF.2 hc
      refine z_aload_n (q := 23) dX10_workOutMove_22 rfl rfl rfl ?_
      obtain ⟨g30, hF⟩ := hF
      refine z_getR (c := 10) (k := 1) (r := (RX10, TX10, 15)) (q := 26) dX10_workOutMove_23 rfl (by decide) fl_X10_17 rfl g29 g30 rfl ?_
      refine z_iload_n (q := 27) dX10_workOutMove_26 rfl rfl rfl ?_
      obtain ⟨g31, hF⟩ := hF
      obtain ⟨g32, hF⟩ := hF
      obtain ⟨g33, hF⟩ := hF
      refine y_aald (kd := 25) (j := (Int32.toNatClampNeg l2)) (q := 28) dX10_workOutMove_27 g31 (by decide) (by decide) rfl g32 rfl g33 rfl ?_
      obtain ⟨g34, hF⟩ := hF
      refine z_getI (c := 4) (k := 5) (r := (RX4, TX4, 8)) (q := 31) dX10_workOutMove_28 rfl (by decide) fl_X10_136 rfl g34 rfl ?_
      refine z_if_eq (t := 51) (q := 34) dX10_workOutMove_31 (by decide) rfl (fun hc => ?_) (fun hc => ?_)
      · have hF := hF.1 hc
        refine z_iinc (q := 54) (v := (l2 + 1)) (L' := [some (.ref l0), some (.int l1), some (.int (l2 + 1))]) dX10_workOutMove_51 rfl rfl (Nat.le_of_ble_eq_true rfl) rfl rfl rfl ?_
        refine z_goto (q := 9) dX10_workOutMove_54 (by decide) ?_
        exact hF
      · have hF := hF.2 hc
        refine z_aload_n (q := 35) dX10_workOutMove_34 rfl rfl rfl ?_
        obtain ⟨g35, hF⟩ := hF
        refine z_getR (c := 10) (k := 8) (r := (RX10, TX10, 15)) (q := 38) dX10_workOutMove_35 rfl (by decide) fl_X10_61 rfl g29 g35 rfl ?_
        refine z_iload_n (q := 39) dX10_workOutMove_38 rfl rfl rfl ?_
        refine z_aload_n (q := 40) dX10_workOutMove_39 rfl rfl rfl ?_
        refine z_getR (c := 10) (k := 1) (r := (RX10, TX10, 15)) (q := 43) dX10_workOutMove_40 rfl (by decide) fl_X10_17 rfl g29 g30 rfl ?_
        refine z_iload_n (q := 44) dX10_workOutMove_43 rfl rfl rfl ?_
        refine y_aald (kd := 25) (j := (Int32.toNatClampNeg l2)) (q := 45) dX10_workOutMove_44 g31 (by decide) (by decide) rfl g32 rfl g33 rfl ?_
        obtain ⟨g36, hF⟩ := hF
        refine z_getR (c := 4) (k := 4) (r := (RX4, TX4, 8)) (q := 48) dX10_workOutMove_45 rfl (by decide) fl_X10_158 rfl g34 g36 rfl ?_
        obtain ⟨g38, hF⟩ := hF
        refine z_callVV (rc := 0) (rs := 0) (b := (zR h l0 8)) (av := [.int l2, .ref (zR h (zR h (zR h l0 1) (Int32.toNatClampNeg l2)) 4)]) (ci := 7) (r := (RX7, TX7, 11)) (q := 51) hF dX10_workOutMove_48 ml_X10_372 ok_X7_addSlots in_X7_addSlots se_X7_addSlots rfl rfl g38 rfl (Nat.le_of_ble_eq_true rfl) (by decide) (Nat.le_of_ble_eq_true rfl) rfl rfl rfl rfl (fun h37 hF => ?_)
        refine z_iinc (q := 54) (v := (l2 + 1)) (L' := [some (.ref l0), some (.int l1), some (.int (l2 + 1))]) dX10_workOutMove_51 rfl rfl (Nat.le_of_ble_eq_true rfl) rfl rfl rfl ?_
        refine z_goto (q := 9) dX10_workOutMove_54 (by decide) ?_
        exact hF
set_option maxRecDepth 100000 in
set_option maxHeartbeats 4000000 in
theorem wX10_workOutMove {ψ : Int32 → ZH → Prop} {l0 : Nat} {l1 : Int32} {h : ZH} (hF : (zK h l0 = 11) ∧ ((zR h l0 8) ≠ 0) ∧ (zK h (zR h l0 8) = 8) ∧ ZcV mX7_clear [.ref (zR h l0 8)] h (fun h41 => Zt mX10_workOutMove (zPI ψ) 0 0 9 [some (.ref l0), some (.int l1), some (.int 0)] [] h41)) : ZcI mX10_workOutMove [.ref l0, .int l1] h ψ := by
  refine Zc.intro (L := [some (.ref l0), some (.int l1), none]) (show plainName RX10 = true by decide) rfl (Nat.le_of_ble_eq_true rfl) ?_
  show Zt _ _ 0 0 _ _ _ _
  refine z_aload_n (q := 1) dX10_workOutMove_0 rfl rfl rfl ?_
  obtain ⟨g39, hF⟩ := hF
  obtain ⟨g40, hF⟩ := hF
  refine z_getR (c := 10) (k := 8) (r := (RX10, TX10, 15)) (q := 4) dX10_workOutMove_1 rfl (by decide) fl_X10_61 rfl g39 g40 rfl ?_
  obtain ⟨g42, hF⟩ := hF
  refine z_callVV (rc := 0) (rs := 0) (b := (zR h l0 8)) (av := []) (ci := 7) (r := (RX7, TX7, 11)) (q := 7) hF dX10_workOutMove_4 ml_X10_369 ok_X7_clear in_X7_clear se_X7_clear rfl rfl g42 rfl (Nat.le_of_ble_eq_true rfl) (by decide) (Nat.le_of_ble_eq_true rfl) rfl rfl rfl rfl (fun h41 hF => ?_)
  refine z_iconst (q := 8) (v := 0) dX10_workOutMove_7 (by decide) rfl ?_
  refine z_istore_n (q := 9) (L' := [some (.ref l0), some (.int l1), some (.int 0)]) dX10_workOutMove_8 rfl (Nat.le_of_ble_eq_true rfl) rfl rfl rfl ?_
  exact hF
set_option maxRecDepth 100000 in
set_option maxHeartbeats 4000000 in
theorem wX10_offerSlots_10 {ψ : ZH → Prop} {l0 : Nat} {l1 : Int32} {l2 : Nat} {l3 : Int32} {l4 : Int32} {h : ZH} (hF : (zK h l0 = 11) ∧ ((zR h l0 8) ≠ 0) ∧ (zK h (zR h l0 8) = 8) ∧ (((zI h (zR h l0 8) 2) ≤ l4 → ψ h) ∧ (¬ (zI h (zR h l0 8) 2) ≤ l4 → ((zR h (zR h l0 8) 1) ≠ 0) ∧ (zK h (zR h (zR h l0 8) 1) = 20) ∧ (vp_in l4 (zN h (zR h (zR h l0 8) 1))) ∧ (zK h l2 = 2) ∧ ((¬ (zI h (zR h (zR h l0 8) 1) (Int32.toNatClampNeg l4)) = (zI h l2 1) → Zt mX10_offerSlots (zPV ψ) 0 0 10 [some (.ref l0), some (.int l1), some (.ref l2), some (.int l3), some (.int (l4 + 1)), none, none] [] h) ∧ ((zI h (zR h (zR h l0 8) 1) (Int32.toNatClampNeg l4)) = (zI h l2 1) → ((zR h (zR h l0 8) 0) ≠ 0) ∧ (zK h (zR h (zR h l0 8) 0) = 20) ∧ (vp_in l4 (zN h (zR h (zR h l0 8) 0))) ∧ ZcI mX10_wayTo [.ref l0, .int (zI h (zR h (zR h l0 8) 0) (Int32.toNatClampNeg l4)), .ref l2] h (fun x12 h11 => (zK h11 l0 = 11) ∧ ((zR h11 l0 4) ≠ 0) ∧ (zK h11 (zR h11 l0 4) = 20) ∧ (1 < zN h11 (zR h11 l0 4)) ∧ ((x12 ≤ (zI h11 (zR h11 l0 4) 1) → ((zR h11 l0 8) ≠ 0) ∧ (zK h11 (zR h11 l0 8) = 8) ∧ ZcV mX7_offer [.ref (zR h11 l0 8), .int l1, .int l4, .int x12, .int 0] h11 (fun h18 => Zt mX10_offerSlots (zPV ψ) 0 0 10 [some (.ref l0), some (.int l1), some (.ref l2), some (.int l3), some (.int (l4 + 1)), none, none] [] h18)) ∧ (¬ x12 ≤ (zI h11 (zR h11 l0 4) 1) → ((¬ l3 = 0 → Zt mX10_offerSlots (zPV ψ) 0 0 10 [some (.ref l0), some (.int l1), some (.ref l2), some (.int l3), some (.int (l4 + 1)), none, none] [] h11) ∧ (l3 = 0 → ((zR h11 l0 8) ≠ 0) ∧ (zK h11 (zR h11 l0 8) = 8) ∧ ZcV mX7_offer [.ref (zR h11 l0 8), .int l1, .int l4, .int x12, .int 1] h11 (fun h21 => Zt mX10_offerSlots (zPV ψ) 0 0 10 [some (.ref l0), some (.int l1), some (.ref l2), some (.int l3), some (.int (l4 + 1)), none, none] [] h21))))))))))) : Zt mX10_offerSlots (zPV ψ) 0 0 10 [some (.ref l0), some (.int l1), some (.ref l2), some (.int l3), some (.int l4), none, none] [] h := by
  refine z_iload (q := 12) dX10_offerSlots_10 rfl rfl ?_
  refine z_aload_n (q := 13) dX10_offerSlots_12 rfl rfl rfl ?_
  obtain ⟨g1, hF⟩ := hF
  obtain ⟨g2, hF⟩ := hF
  refine z_getR (c := 10) (k := 8) (r := (RX10, TX10, 15)) (q := 16) dX10_offerSlots_13 rfl (by decide) fl_X10_61 rfl g1 g2 rfl ?_
  obtain ⟨g3, hF⟩ := hF
  refine z_getI (c := 7) (k := 2) (r := (RX7, TX7, 11)) (q := 19) dX10_offerSlots_16 rfl (by decide) fl_X10_392 rfl g3 rfl ?_
  refine z_icmp_ge (t := 103) (q := 22) dX10_offerSlots_19 (by decide) rfl (fun hc => ?_) (fun hc => ?_)
  · have hF := hF.1 hc
    exact z_return dX10_offerSlots_103 rfl ⟨rfl, hF⟩
  · have hF := hF.2 hc
    refine z_aload_n (q := 23) dX10_offerSlots_22 rfl rfl rfl ?_
    refine z_getR (c := 10) (k := 8) (r := (RX10, TX10, 15)) (q := 26) dX10_offerSlots_23 rfl (by decide) fl_X10_61 rfl g1 g2 rfl ?_
    obtain ⟨g4, hF⟩ := hF
    refine z_getR (c := 7) (k := 1) (r := (RX7, TX7, 11)) (q := 29) dX10_offerSlots_26 rfl (by decide) fl_X10_395 rfl g3 g4 rfl ?_
    refine z_iload (q := 31) dX10_offerSlots_29 rfl rfl ?_
    obtain ⟨g5, hF⟩ := hF
    obtain ⟨g6, hF⟩ := hF
    refine y_iald (j := (Int32.toNatClampNeg l4)) (q := 32) dX10_offerSlots_31 (Or.inl g5) g6 rfl rfl ?_
    refine z_aload_n (q := 33) dX10_offerSlots_32 rfl rfl rfl ?_
    obtain ⟨g7, hF⟩ := hF
    refine z_getI (c := 1) (k := 1) (r := (RX1, TX1, 7)) (q := 36) dX10_offerSlots_33 rfl (by decide) fl_X10_176 rfl g7 rfl ?_
    refine z_icmp_ne (t := 97) (q := 39) dX10_offerSlots_36 (by decide) rfl (fun hc => ?_) (fun hc => ?_)
    · have hF := hF.1 hc
      refine z_iinc (q := 100) (v := (l4 + 1)) (L' := [some (.ref l0), some (.int l1), some (.ref l2), some (.int l3), some (.int (l4 + 1)), none, none]) dX10_offerSlots_97 rfl rfl (Nat.le_of_ble_eq_true rfl) rfl rfl rfl ?_
      refine z_goto (q := 10) dX10_offerSlots_100 (by decide) ?_
      exact hF
    · have hF := hF.2 hc
      refine z_aload_n (q := 40) dX10_offerSlots_39 rfl rfl rfl ?_
      refine z_aload_n (q := 41) dX10_offerSlots_40 rfl rfl rfl ?_
      refine z_getR (c := 10) (k := 8) (r := (RX10, TX10, 15)) (q := 44) dX10_offerSlots_41 rfl (by decide) fl_X10_61 rfl g1 g2 rfl ?_
      obtain ⟨g8, hF⟩ := hF
      refine z_getR (c := 7) (k := 0) (r := (RX7, TX7, 11)) (q := 47) dX10_offerSlots_44 rfl (by decide) fl_X10_398 rfl g3 g8 rfl ?_
      refine z_iload (q := 49) dX10_offerSlots_47 rfl rfl ?_
      obtain ⟨g9, hF⟩ := hF
      obtain ⟨g10, hF⟩ := hF
      refine y_iald (j := (Int32.toNatClampNeg l4)) (q := 50) dX10_offerSlots_49 (Or.inl g9) g10 rfl rfl ?_
      refine z_aload_n (q := 51) dX10_offerSlots_50 rfl rfl rfl ?_
      refine z_callVI (rc := 0) (rs := 0) (b := l0) (av := [.int (zI h (zR h (zR h l0 8) 0) (Int32.toNatClampNeg l4)), .ref l2]) (ci := 10) (r := (RX10, TX10, 15)) (q := 54) hF dX10_offerSlots_51 ml_X10_361 ok_X10_wayTo in_X10_wayTo se_X10_wayTo rfl rfl g1 rfl (Nat.le_of_ble_eq_true rfl) (by decide) (Nat.le_of_ble_eq_true rfl) rfl rfl rfl rfl (fun x12 h11 hF => ?_)
      refine z_istore (q := 56) (L' := [some (.ref l0), some (.int l1), some (.ref l2), some (.int l3), some (.int l4), some (.int x12), none]) dX10_offerSlots_54 (Nat.le_of_ble_eq_true rfl) rfl rfl rfl ?_
      refine z_iload (q := 58) dX10_offerSlots_56 rfl rfl ?_
      refine z_aload_n (q := 59) dX10_offerSlots_58 rfl rfl rfl ?_
      obtain ⟨g13, hF⟩ := hF
      obtain ⟨g14, hF⟩ := hF
      refine z_getR (c := 10) (k := 4) (r := (RX10, TX10, 15)) (q := 62) dX10_offerSlots_59 rfl (by decide) fl_X10_37 rfl g13 g14 rfl ?_
      refine z_iconst (q := 63) (v := 1) dX10_offerSlots_62 (by decide) rfl ?_
      obtain ⟨g15, hF⟩ := hF
      obtain ⟨g16, hF⟩ := hF
      refine y_iald (j := 1) (q := 64) dX10_offerSlots_63 (Or.inl g15) (zvin (by decide) (by decide) g16) (by decide) rfl ?_
      refine z_icmp_le (t := 71) (q := 67) dX10_offerSlots_64 (by decide) rfl (fun hc => ?_) (fun hc => ?_)
      · have hF := hF.1 hc
        refine z_iconst (q := 72) (v := 0) dX10_offerSlots_71 (by decide) rfl ?_
        refine z_istore (q := 74) (L' := [some (.ref l0), some (.int l1), some (.ref l2), some (.int l3), some (.int l4), some (.int x12), some (.int 0)]) dX10_offerSlots_72 (Nat.le_of_ble_eq_true rfl) rfl rfl rfl ?_
        refine z_iload (q := 76) dX10_offerSlots_74 rfl rfl ?_
        refine z_if_eq (t := 83) (q := 79) dX10_offerSlots_76 (by decide) rfl (fun _ => ?_) (fun hc => absurd hc (by decide))
        refine z_aload_n (q := 84) dX10_offerSlots_83 rfl rfl rfl ?_
        obtain ⟨g17, hF⟩ := hF
        refine z_getR (c := 10) (k := 8) (r := (RX10, TX10, 15)) (q := 87) dX10_offerSlots_84 rfl (by decide) fl_X10_61 rfl g13 g17 rfl ?_
        refine z_iload_n (q := 88) dX10_offerSlots_87 rfl rfl rfl ?_
        refine z_iload (q := 90) dX10_offerSlots_88 rfl rfl ?_
        refine z_iload (q := 92) dX10_offerSlots_90 rfl rfl ?_
        refine z_iload (q := 94) dX10_offerSlots_92 rfl rfl ?_
        obtain ⟨g19, hF⟩ := hF
        refine z_callVV (rc := 0) (rs := 0) (b := (zR h11 l0 8)) (av := [.int l1, .int l4, .int x12, .int 0]) (ci := 7) (r := (RX7, TX7, 11)) (q := 97) hF dX10_offerSlots_94 ml_X10_401 ok_X7_offer in_X7_offer se_X7_offer rfl rfl g19 rfl (Nat.le_of_ble_eq_true rfl) (by decide) (Nat.le_of_ble_eq_true rfl) rfl rfl rfl rfl (fun h18 hF => ?_)
        refine z_iinc (q := 100) (v := (l4 + 1)) (L' := [some (.ref l0), some (.int l1), some (.ref l2), some (.int l3), some (.int (l4 + 1)), some (.int x12), some (.int 0)]) dX10_offerSlots_97 rfl rfl (Nat.le_of_ble_eq_true rfl) rfl rfl rfl ?_
        refine z_goto (q := 10) dX10_offerSlots_100 (by decide) ?_
        refine Zt.drop (i := 5) (L' := [some (.ref l0), some (.int l1), some (.ref l2), some (.int l3), some (.int (l4 + 1)), none, some (.int 0)]) rfl ?_
        refine Zt.drop (i := 6) (L' := [some (.ref l0), some (.int l1), some (.ref l2), some (.int l3), some (.int (l4 + 1)), none, none]) rfl ?_
        exact hF
      · have hF := hF.2 hc
        refine z_iconst (q := 68) (v := 1) dX10_offerSlots_67 (by decide) rfl ?_
        refine z_goto (q := 72) dX10_offerSlots_68 (by decide) ?_
        refine z_istore (q := 74) (L' := [some (.ref l0), some (.int l1), some (.ref l2), some (.int l3), some (.int l4), some (.int x12), some (.int 1)]) dX10_offerSlots_72 (Nat.le_of_ble_eq_true rfl) rfl rfl rfl ?_
        refine z_iload (q := 76) dX10_offerSlots_74 rfl rfl ?_
        refine z_if_eq (t := 83) (q := 79) dX10_offerSlots_76 (by decide) rfl (fun hc => absurd hc (by decide)) (fun _ => ?_)
        refine z_iload_n (q := 80) dX10_offerSlots_79 rfl rfl rfl ?_
        refine z_if_ne (t := 97) (q := 83) dX10_offerSlots_80 (by decide) rfl (fun hc => ?_) (fun hc => ?_)
        · have hF := hF.1 hc
          refine z_iinc (q := 100) (v := (l4 + 1)) (L' := [some (.ref l0), some (.int l1), some (.ref l2), some (.int l3), some (.int (l4 + 1)), some (.int x12), some (.int 1)]) dX10_offerSlots_97 rfl rfl (Nat.le_of_ble_eq_true rfl) rfl rfl rfl ?_
          refine z_goto (q := 10) dX10_offerSlots_100 (by decide) ?_
          refine Zt.drop (i := 5) (L' := [some (.ref l0), some (.int l1), some (.ref l2), some (.int l3), some (.int (l4 + 1)), none, some (.int 1)]) rfl ?_
          refine Zt.drop (i := 6) (L' := [some (.ref l0), some (.int l1), some (.ref l2), some (.int l3), some (.int (l4 + 1)), none, none]) rfl ?_
          exact hF
        · have hF := hF.2 hc
          refine z_aload_n (q := 84) dX10_offerSlots_83 rfl rfl rfl ?_
          obtain ⟨g20, hF⟩ := hF
          refine z_getR (c := 10) (k := 8) (r := (RX10, TX10, 15)) (q := 87) dX10_offerSlots_84 rfl (by decide) fl_X10_61 rfl g13 g20 rfl ?_
          refine z_iload_n (q := 88) dX10_offerSlots_87 rfl rfl rfl ?_
          refine z_iload (q := 90) dX10_offerSlots_88 rfl rfl ?_
          refine z_iload (q := 92) dX10_offerSlots_90 rfl rfl ?_
          refine z_iload (q := 94) dX10_offerSlots_92 rfl rfl ?_
          obtain ⟨g22, hF⟩ := hF
          refine z_callVV (rc := 0) (rs := 0) (b := (zR h11 l0 8)) (av := [.int l1, .int l4, .int x12, .int 1]) (ci := 7) (r := (RX7, TX7, 11)) (q := 97) hF dX10_offerSlots_94 ml_X10_401 ok_X7_offer in_X7_offer se_X7_offer rfl rfl g22 rfl (Nat.le_of_ble_eq_true rfl) (by decide) (Nat.le_of_ble_eq_true rfl) rfl rfl rfl rfl (fun h21 hF => ?_)
          refine z_iinc (q := 100) (v := (l4 + 1)) (L' := [some (.ref l0), some (.int l1), some (.ref l2), some (.int l3), some (.int (l4 + 1)), some (.int x12), some (.int 1)]) dX10_offerSlots_97 rfl rfl (Nat.le_of_ble_eq_true rfl) rfl rfl rfl ?_
          refine z_goto (q := 10) dX10_offerSlots_100 (by decide) ?_
          refine Zt.drop (i := 5) (L' := [some (.ref l0), some (.int l1), some (.ref l2), some (.int l3), some (.int (l4 + 1)), none, some (.int 1)]) rfl ?_
          refine Zt.drop (i := 6) (L' := [some (.ref l0), some (.int l1), some (.ref l2), some (.int l3), some (.int (l4 + 1)), none, none]) rfl ?_
          exact hF
set_option maxRecDepth 100000 in
set_option maxHeartbeats 4000000 in
theorem wX10_offerSlots {ψ : ZH → Prop} {l0 : Nat} {l1 : Int32} {l2 : Nat} {h : ZH} (hF : (zK h l0 = 11) ∧ ZcI mX10_isTrue [.ref l0, .int 1, .ref l2] h (fun x25 h23 => Zt mX10_offerSlots (zPV ψ) 0 0 10 [some (.ref l0), some (.int l1), some (.ref l2), some (.int x25), some (.int 0), none, none] [] h23)) : ZcV mX10_offerSlots [.ref l0, .int l1, .ref l2] h ψ := by
  refine Zc.intro (L := [some (.ref l0), some (.int l1), some (.ref l2), none, none, none, none]) (show plainName RX10 = true by decide) rfl (Nat.le_of_ble_eq_true rfl) ?_
  show Zt _ _ 0 0 _ _ _ _
  refine z_aload_n (q := 1) dX10_offerSlots_0 rfl rfl rfl ?_
  refine z_iconst (q := 2) (v := 1) dX10_offerSlots_1 (by decide) rfl ?_
  refine z_aload_n (q := 3) dX10_offerSlots_2 rfl rfl rfl ?_
  obtain ⟨g24, hF⟩ := hF
  refine z_callVI (rc := 0) (rs := 0) (b := l0) (av := [.int 1, .ref l2]) (ci := 10) (r := (RX10, TX10, 15)) (q := 6) hF dX10_offerSlots_3 ml_X10_304 ok_X10_isTrue in_X10_isTrue se_X10_isTrue rfl rfl g24 rfl (Nat.le_of_ble_eq_true rfl) (by decide) (Nat.le_of_ble_eq_true rfl) rfl rfl rfl rfl (fun x25 h23 hF => ?_)
  refine z_istore_n (q := 7) (L' := [some (.ref l0), some (.int l1), some (.ref l2), some (.int x25), none, none, none]) dX10_offerSlots_6 rfl (Nat.le_of_ble_eq_true rfl) rfl rfl rfl ?_
  refine z_iconst (q := 8) (v := 0) dX10_offerSlots_7 (by decide) rfl ?_
  refine z_istore (q := 10) (L' := [some (.ref l0), some (.int l1), some (.ref l2), some (.int x25), some (.int 0), none, none]) dX10_offerSlots_8 (Nat.le_of_ble_eq_true rfl) rfl rfl rfl ?_
  exact hF
set_option maxRecDepth 100000 in
set_option maxHeartbeats 4000000 in
theorem wX10_carryOutMove_54 {ψ : ZH → Prop} {l0 : Nat} {l2 : Int32} {h : ZH} (hF : (zK h l0 = 11) ∧ ((zR h l0 8) ≠ 0) ∧ (zK h (zR h l0 8) = 8) ∧ (((zI h (zR h l0 8) 4) ≤ l2 → ψ h) ∧ (¬ (zI h (zR h l0 8) 4) ≤ l2 → ((zR h l0 2) ≠ 0) ∧ ((zR h (zR h l0 8) 3) ≠ 0) ∧ (zK h (zR h (zR h l0 8) 3) = 20) ∧ (vp_in l2 (zN h (zR h (zR h l0 8) 3))) ∧ (zK h (zR h l0 2) = 24) ∧ (vp_in (zI h (zR h (zR h l0 8) 3) (Int32.toNatClampNeg l2)) (zN h (zR h l0 2))) ∧ ((zR h (zR h l0 2) (Int32.toNatClampNeg (zI h (zR h (zR h l0 8) 3) (Int32.toNatClampNeg l2)))) ≠ 0) ∧ ((zR h (zR h l0 8) 5) ≠ 0) ∧ (zK h (zR h (zR h l0 8) 5) = 20) ∧ (vp_in l2 (zN h (zR h (zR h l0 8) 5))) ∧ ∀ v14 : Int32, v14 = (zI h (zR h (zR h l0 8) 5) (Int32.toNatClampNeg l2)) → ((¬ v14 = (-6) → ((zR h (zR h l0 8) 0) ≠ 0) ∧ (zK h (zR h (zR h l0 8) 0) = 20) ∧ (vp_in v14 (zN h (zR h (zR h l0 8) 0))) ∧ (zK h (zR h (zR h l0 2) (Int32.toNatClampNeg (zI h (zR h (zR h l0 8) 3) (Int32.toNatClampNeg l2)))) = 2) ∧ ((zR h l0 1) ≠ 0) ∧ ∀ h21 : ZH, h21 = (zsI h (zR h (zR h l0 2) (Int32.toNatClampNeg (zI h (zR h (zR h l0 8) 3) (Int32.toNatClampNeg l2)))) 4 (zI h (zR h (zR h l0 8) 0) (Int32.toNatClampNeg v14))) → (zK h21 (zR h (zR h l0 2) (Int32.toNatClampNeg (zI h (zR h (zR h l0 8) 3) (Int32.toNatClampNeg l2)))) = 2) ∧ (zK h21 (zR h l0 1) = 25) ∧ (vp_in (zI h21 (zR h (zR h l0 2) (Int32.toNatClampNeg (zI h (zR h (zR h l0 8) 3) (Int32.toNatClampNeg l2)))) 4) (zN h21 (zR h l0 1))) ∧ ((zR h21 (zR h l0 1) (Int32.toNatClampNeg (zI h21 (zR h (zR h l0 2) (Int32.toNatClampNeg (zI h (zR h (zR h l0 8) 3) (Int32.toNatClampNeg l2)))) 4))) ≠ 0) ∧ (zK h21 (zR h21 (zR h l0 1) (Int32.toNatClampNeg (zI h21 (zR h (zR h l0 2) (Int32.toNatClampNeg (zI h (zR h (zR h l0 8) 3) (Int32.toNatClampNeg l2)))) 4))) = 5) ∧ ((zR h21 (zR h21 (zR h l0 1) (Int32.toNatClampNeg (zI h21 (zR h (zR h l0 2) (Int32.toNatClampNeg (zI h (zR h (zR h l0 8) 3) (Int32.toNatClampNeg l2)))) 4))) 4) ≠ 0) ∧ (zK h21 (zR h21 (zR h21 (zR h l0 1) (Int32.toNatClampNeg (zI h21 (zR h (zR h l0 2) (Int32.toNatClampNeg (zI h (zR h (zR h l0 8) 3) (Int32.toNatClampNeg l2)))) 4))) 4) = 20) ∧ (vp_in (zI h21 (zR h (zR h l0 2) (Int32.toNatClampNeg (zI h (zR h (zR h l0 8) 3) (Int32.toNatClampNeg l2)))) 1) (zN h21 (zR h21 (zR h21 (zR h l0 1) (Int32.toNatClampNeg (zI h21 (zR h (zR h l0 2) (Int32.toNatClampNeg (zI h (zR h (zR h l0 8) 3) (Int32.toNatClampNeg l2)))) 4))) 4))) ∧ Zt mX10_carryOutMove (zPV ψ) 0 0 54 [some (.ref l0), none, some (.int (l2 + 1)), none, none] [] (zsI h21 (zR h21 (zR h21 (zR h l0 1) (Int32.toNatClampNeg (zI h21 (zR h (zR h l0 2) (Int32.toNatClampNeg (zI h (zR h (zR h l0 8) 3) (Int32.toNatClampNeg l2)))) 4))) 4) (Int32.toNatClampNeg (zI h21 (zR h (zR h l0 2) (Int32.toNatClampNeg (zI h (zR h (zR h l0 8) 3) (Int32.toNatClampNeg l2)))) 1)) ((zI h21 (zR h21 (zR h21 (zR h l0 1) (Int32.toNatClampNeg (zI h21 (zR h (zR h l0 2) (Int32.toNatClampNeg (zI h (zR h (zR h l0 8) 3) (Int32.toNatClampNeg l2)))) 4))) 4) (Int32.toNatClampNeg (zI h21 (zR h (zR h l0 2) (Int32.toNatClampNeg (zI h (zR h (zR h l0 8) 3) (Int32.toNatClampNeg l2)))) 1))) - 1))) ∧ (v14 = (-6) → (zK h (zR h (zR h l0 2) (Int32.toNatClampNeg (zI h (zR h (zR h l0 8) 3) (Int32.toNatClampNeg l2)))) = 2) ∧ ZcV mX1_quit [.ref (zR h (zR h l0 2) (Int32.toNatClampNeg (zI h (zR h (zR h l0 8) 3) (Int32.toNatClampNeg l2)))), .int 3] h (fun h31 => Zt mX10_carryOutMove (zPV ψ) 0 0 54 [some (.ref l0), none, some (.int (l2 + 1)), none, none] [] h31)))))) : Zt mX10_carryOutMove (zPV ψ) 0 0 54 [some (.ref l0), none, some (.int l2), none, none] [] h := by
  refine z_iload_n (q := 55) dX10_carryOutMove_54 rfl rfl rfl ?_
  refine z_aload_n (q := 56) dX10_carryOutMove_55 rfl rfl rfl ?_
  obtain ⟨g1, hF⟩ := hF
  obtain ⟨g2, hF⟩ := hF
  refine z_getR (c := 10) (k := 8) (r := (RX10, TX10, 15)) (q := 59) dX10_carryOutMove_56 rfl (by decide) fl_X10_61 rfl g1 g2 rfl ?_
  obtain ⟨g3, hF⟩ := hF
  refine z_getI (c := 7) (k := 4) (r := (RX7, TX7, 11)) (q := 62) dX10_carryOutMove_59 rfl (by decide) fl_X10_379 rfl g3 rfl ?_
  refine z_icmp_ge (t := 147) (q := 65) dX10_carryOutMove_62 (by decide) rfl (fun hc => ?_) (fun hc => ?_)
  · have hF := hF.1 hc
    exact z_return dX10_carryOutMove_147 rfl ⟨rfl, hF⟩
  · have hF := hF.2 hc
    refine z_aload_n (q := 66) dX10_carryOutMove_65 rfl rfl rfl ?_
    obtain ⟨g4, hF⟩ := hF
    refine z_getR (c := 10) (k := 2) (r := (RX10, TX10, 15)) (q := 69) dX10_carryOutMove_66 rfl (by decide) fl_X10_23 rfl g1 g4 rfl ?_
    refine z_aload_n (q := 70) dX10_carryOutMove_69 rfl rfl rfl ?_
    refine z_getR (c := 10) (k := 8) (r := (RX10, TX10, 15)) (q := 73) dX10_carryOutMove_70 rfl (by decide) fl_X10_61 rfl g1 g2 rfl ?_
    obtain ⟨g5, hF⟩ := hF
    refine z_getR (c := 7) (k := 3) (r := (RX7, TX7, 11)) (q := 76) dX10_carryOutMove_73 rfl (by decide) fl_X10_382 rfl g3 g5 rfl ?_
    refine z_iload_n (q := 77) dX10_carryOutMove_76 rfl rfl rfl ?_
    obtain ⟨g6, hF⟩ := hF
    obtain ⟨g7, hF⟩ := hF
    refine y_iald (j := (Int32.toNatClampNeg l2)) (q := 78) dX10_carryOutMove_77 (Or.inl g6) g7 rfl rfl ?_
    obtain ⟨g8, hF⟩ := hF
    obtain ⟨g9, hF⟩ := hF
    obtain ⟨g10, hF⟩ := hF
    refine y_aald (kd := 24) (j := (Int32.toNatClampNeg (zI h (zR h (zR h l0 8) 3) (Int32.toNatClampNeg l2)))) (q := 79) dX10_carryOutMove_78 g8 (by decide) (by decide) rfl g9 rfl g10 rfl ?_
    refine z_astore_n (q := 80) (L' := [some (.ref l0), none, some (.int l2), some (.ref (zR h (zR h l0 2) (Int32.toNatClampNeg (zI h (zR h (zR h l0 8) 3) (Int32.toNatClampNeg l2))))), none]) dX10_carryOutMove_79 rfl (Nat.le_of_ble_eq_true rfl) rfl rfl rfl ?_
    refine z_aload_n (q := 81) dX10_carryOutMove_80 rfl rfl rfl ?_
    refine z_getR (c := 10) (k := 8) (r := (RX10, TX10, 15)) (q := 84) dX10_carryOutMove_81 rfl (by decide) fl_X10_61 rfl g1 g2 rfl ?_
    obtain ⟨g11, hF⟩ := hF
    refine z_getR (c := 7) (k := 5) (r := (RX7, TX7, 11)) (q := 87) dX10_carryOutMove_84 rfl (by decide) fl_X10_408 rfl g3 g11 rfl ?_
    refine z_iload_n (q := 88) dX10_carryOutMove_87 rfl rfl rfl ?_
    obtain ⟨g12, hF⟩ := hF
    obtain ⟨g13, hF⟩ := hF
    refine y_iald (j := (Int32.toNatClampNeg l2)) (q := 89) dX10_carryOutMove_88 (Or.inl g12) g13 rfl rfl ?_
    refine z_nameI (fun v14 ev15 => ?_)
    have hF := hF v14 ev15
    refine z_istore (q := 91) (L' := [some (.ref l0), none, some (.int l2), some (.ref (zR h (zR h l0 2) (Int32.toNatClampNeg (zI h (zR h (zR h l0 8) 3) (Int32.toNatClampNeg l2))))), some (.int v14)]) dX10_carryOutMove_89 (Nat.le_of_ble_eq_true rfl) rfl rfl rfl ?_
    refine z_iload (q := 93) dX10_carryOutMove_91 rfl rfl ?_
    refine z_bipush (q := 95) (v := (-6)) dX10_carryOutMove_93 (by decide) rfl ?_
    refine z_icmp_ne (t := 106) (q := 98) dX10_carryOutMove_95 (by decide) rfl (fun hc => ?_) (fun hc => ?_)
    · have hF := hF.1 hc
      refine z_aload_n (q := 107) dX10_carryOutMove_106 rfl rfl rfl ?_
      refine z_aload_n (q := 108) dX10_carryOutMove_107 rfl rfl rfl ?_
      refine z_getR (c := 10) (k := 8) (r := (RX10, TX10, 15)) (q := 111) dX10_carryOutMove_108 rfl (by decide) fl_X10_61 rfl g1 g2 rfl ?_
      obtain ⟨g16, hF⟩ := hF
      refine z_getR (c := 7) (k := 0) (r := (RX7, TX7, 11)) (q := 114) dX10_carryOutMove_111 rfl (by decide) fl_X10_398 rfl g3 g16 rfl ?_
      refine z_iload (q := 116) dX10_carryOutMove_114 rfl rfl ?_
      obtain ⟨g17, hF⟩ := hF
      obtain ⟨g18, hF⟩ := hF
      refine y_iald (j := (Int32.toNatClampNeg v14)) (q := 117) dX10_carryOutMove_116 (Or.inl g17) g18 rfl rfl ?_
      obtain ⟨g19, hF⟩ := hF
      refine z_putI (c := 1) (k := 4) (r := (RX1, TX1, 7)) (q := 120) dX10_carryOutMove_117 rfl (by decide) fl_X10_185 rfl rfl g19 rfl ?_
      refine z_aload_n (q := 121) dX10_carryOutMove_120 rfl rfl rfl ?_
      obtain ⟨g20, hF⟩ := hF
      refine z_getR (c := 10) (k := 1) (r := (RX10, TX10, 15)) (q := 124) dX10_carryOutMove_121 rfl (by decide) fl_X10_17 rfl g1 g20 rfl ?_
      refine z_aload_n (q := 125) dX10_carryOutMove_124 rfl rfl rfl ?_
      refine z_nameH (fun h21 eh22 => ?_)
      have hF := hF h21 eh22
      obtain ⟨g23, hF⟩ := hF
      refine z_getI (c := 1) (k := 4) (r := (RX1, TX1, 7)) (q := 128) dX10_carryOutMove_125 rfl (by decide) fl_X10_185 rfl g23 rfl ?_
      obtain ⟨g24, hF⟩ := hF
      obtain ⟨g25, hF⟩ := hF
      obtain ⟨g26, hF⟩ := hF
      refine y_aald (kd := 25) (j := (Int32.toNatClampNeg (zI h21 (zR h (zR h l0 2) (Int32.toNatClampNeg (zI h (zR h (zR h l0 8) 3) (Int32.toNatClampNeg l2)))) 4))) (q := 129) dX10_carryOutMove_128 g24 (by decide) (by decide) rfl g25 rfl g26 rfl ?_
      obtain ⟨g27, hF⟩ := hF
      obtain ⟨g28, hF⟩ := hF
      refine z_getR (c := 4) (k := 4) (r := (RX4, TX4, 8)) (q := 132) dX10_carryOutMove_129 rfl (by decide) fl_X10_158 rfl g27 g28 rfl ?_
      refine z_aload_n (q := 133) dX10_carryOutMove_132 rfl rfl rfl ?_
      refine z_getI (c := 1) (k := 1) (r := (RX1, TX1, 7)) (q := 136) dX10_carryOutMove_133 rfl (by decide) fl_X10_176 rfl g23 rfl ?_
      refine z_dup2 (q := 137) dX10_carryOutMove_136 rfl rfl rfl ?_
      obtain ⟨g29, hF⟩ := hF
      obtain ⟨g30, hF⟩ := hF
      refine y_iald (j := (Int32.toNatClampNeg (zI h21 (zR h (zR h l0 2) (Int32.toNatClampNeg (zI h (zR h (zR h l0 8) 3) (Int32.toNatClampNeg l2)))) 1))) (q := 138) dX10_carryOutMove_137 (Or.inl g29) g30 rfl rfl ?_
      refine z_iconst (q := 139) (v := 1) dX10_carryOutMove_138 (by decide) rfl ?_
      refine z_isub (q := 140) dX10_carryOutMove_139 rfl ?_
      refine y_iast (j := (Int32.toNatClampNeg (zI h21 (zR h (zR h l0 2) (Int32.toNatClampNeg (zI h (zR h (zR h l0 8) 3) (Int32.toNatClampNeg l2)))) 1))) (q := 141) dX10_carryOutMove_140 g29 g30 rfl rfl ?_
      refine z_iinc (q := 144) (v := (l2 + 1)) (L' := [some (.ref l0), none, some (.int (l2 + 1)), some (.ref (zR h (zR h l0 2) (Int32.toNatClampNeg (zI h (zR h (zR h l0 8) 3) (Int32.toNatClampNeg l2))))), some (.int v14)]) dX10_carryOutMove_141 rfl rfl (Nat.le_of_ble_eq_true rfl) rfl rfl rfl ?_
      refine z_goto (q := 54) dX10_carryOutMove_144 (by decide) ?_
      refine Zt.drop (i := 3) (L' := [some (.ref l0), none, some (.int (l2 + 1)), none, some (.int v14)]) rfl ?_
      refine Zt.drop (i := 4) (L' := [some (.ref l0), none, some (.int (l2 + 1)), none, none]) rfl ?_
      exact hF
    · have hF := hF.2 hc
      refine z_aload_n (q := 99) dX10_carryOutMove_98 rfl rfl rfl ?_
      refine z_iconst (q := 100) (v := 3) dX10_carryOutMove_99 (by decide) rfl ?_
      obtain ⟨g32, hF⟩ := hF
      refine z_callVV (rc := 0) (rs := 0) (b := (zR h (zR h l0 2) (Int32.toNatClampNeg (zI h (zR h (zR h l0 8) 3) (Int32.toNatClampNeg l2))))) (av := [.int 3]) (ci := 1) (r := (RX1, TX1, 7)) (q := 103) hF dX10_carryOutMove_100 ml_X10_194 ok_X1_quit in_X1_quit se_X1_quit rfl rfl g32 rfl (Nat.le_of_ble_eq_true rfl) (by decide) (Nat.le_of_ble_eq_true rfl) rfl rfl rfl rfl (fun h31 hF => ?_)
      refine z_goto (q := 141) dX10_carryOutMove_103 (by decide) ?_
      refine z_iinc (q := 144) (v := (l2 + 1)) (L' := [some (.ref l0), none, some (.int (l2 + 1)), some (.ref (zR h (zR h l0 2) (Int32.toNatClampNeg (zI h (zR h (zR h l0 8) 3) (Int32.toNatClampNeg l2))))), some (.int v14)]) dX10_carryOutMove_141 rfl rfl (Nat.le_of_ble_eq_true rfl) rfl rfl rfl ?_
      refine z_goto (q := 54) dX10_carryOutMove_144 (by decide) ?_
      refine Zt.drop (i := 3) (L' := [some (.ref l0), none, some (.int (l2 + 1)), none, some (.int v14)]) rfl ?_
      refine Zt.drop (i := 4) (L' := [some (.ref l0), none, some (.int (l2 + 1)), none, none]) rfl ?_
      exact hF
set_option maxRecDepth 100000 in
set_option maxHeartbeats 4000000 in
theorem wX10_carryOutMove_2 {ψ : ZH → Prop} {l0 : Nat} {l1 : Int32} {l2 : Int32} {h : ZH} (hF : (zK h l0 = 11) ∧ (((zI h l0 13) ≤ l2 → Zt mX10_carryOutMove (zPV ψ) 0 0 54 [some (.ref l0), none, some (.int 0), none, none] [] h) ∧ (¬ (zI h l0 13) ≤ l2 → ((zR h l0 2) ≠ 0) ∧ (zK h (zR h l0 2) = 24) ∧ (vp_in l2 (zN h (zR h l0 2))) ∧ ((zR h (zR h l0 2) (Int32.toNatClampNeg l2)) ≠ 0) ∧ (zK h (zR h (zR h l0 2) (Int32.toNatClampNeg l2)) = 2) ∧ ((¬ (zI h (zR h (zR h l0 2) (Int32.toNatClampNeg l2)) 4) = l1 → Zt mX10_carryOutMove (zPV ψ) 0 0 2 [some (.ref l0), some (.int l1), some (.int (l2 + 1)), none, none] [] h) ∧ ((zI h (zR h (zR h l0 2) (Int32.toNatClampNeg l2)) 4) = l1 → ((zR h l0 8) ≠ 0) ∧ (zK h (zR h l0 8) = 8) ∧ ZcI mX7_indexOf [.ref (zR h l0 8), .int l2] h (fun x42 h40 => ((¬ x42 = (-6) → Zt mX10_carryOutMove (zPV ψ) 0 0 2 [some (.ref l0), some (.int l1), some (.int (l2 + 1)), none, none] [] h40) ∧ (x42 = (-6) → (zK h40 l0 = 11) ∧ ((zR h40 l0 2) ≠ 0) ∧ (zK h40 (zR h40 l0 2) = 24) ∧ (vp_in l2 (zN h40 (zR h40 l0 2))) ∧ ((zR h40 (zR h40 l0 2) (Int32.toNatClampNeg l2)) ≠ 0) ∧ (zK h40 (zR h40 (zR h40 l0 2) (Int32.toNatClampNeg l2)) = 2) ∧ ZcV mX1_quit [.ref (zR h40 (zR h40 l0 2) (Int32.toNatClampNeg l2)), .int 1] h40 (fun h48 => Zt mX10_carryOutMove (zPV ψ) 0 0 2 [some (.ref l0), some (.int l1), some (.int (l2 + 1)), none, none] [] h48))))))))) : Zt mX10_carryOutMove (zPV ψ) 0 0 2 [some (.ref l0), some (.int l1), some (.int l2), none, none] [] h := by
  refine z_iload_n (q := 3) dX10_carryOutMove_2 rfl rfl rfl ?_
  refine z_aload_n (q := 4) dX10_carryOutMove_3 rfl rfl rfl ?_
  obtain ⟨g33, hF⟩ := hF
  refine z_getI (c := 10) (k := 13) (r := (RX10, TX10, 15)) (q := 7) dX10_carryOutMove_4 rfl (by decide) fl_X10_164 rfl g33 rfl ?_
  refine z_icmp_ge (t := 52) (q := 10) dX10_carryOutMove_7 (by decide) rfl (fun hc => ?_) (fun hc => ?_)
  · have hF := hF.1 hc
    refine z_iconst (q := 53) (v := 0) dX10_carryOutMove_52 (by decide) rfl ?_
    refine z_istore_n (q := 54) (L' := [some (.ref l0), some (.int l1), some (.int 0), none, none]) dX10_carryOutMove_53 rfl (Nat.le_of_ble_eq_true rfl) rfl rfl rfl ?_
    refine Zt.drop (i := 1) (L' := [some (.ref l0), none, some (.int 0), none, none]) rfl ?_
    exact hF
  · have hF := hF.2 hc
    refine z_aload_n (q := 11) dX10_carryOutMove_10 rfl rfl rfl ?_
    obtain ⟨g34, hF⟩ := hF
    refine z_getR (c := 10) (k := 2) (r := (RX10, TX10, 15)) (q := 14) dX10_carryOutMove_11 rfl (by decide) fl_X10_23 rfl g33 g34 rfl ?_
    refine z_iload_n (q := 15) dX10_carryOutMove_14 rfl rfl rfl ?_
    obtain ⟨g35, hF⟩ := hF
    obtain ⟨g36, hF⟩ := hF
    obtain ⟨g37, hF⟩ := hF
    refine y_aald (kd := 24) (j := (Int32.toNatClampNeg l2)) (q := 16) dX10_carryOutMove_15 g35 (by decide) (by decide) rfl g36 rfl g37 rfl ?_
    obtain ⟨g38, hF⟩ := hF
    refine z_getI (c := 1) (k := 4) (r := (RX1, TX1, 7)) (q := 19) dX10_carryOutMove_16 rfl (by decide) fl_X10_185 rfl g38 rfl ?_
    refine z_iload_n (q := 20) dX10_carryOutMove_19 rfl rfl rfl ?_
    refine z_icmp_ne (t := 46) (q := 23) dX10_carryOutMove_20 (by decide) rfl (fun hc => ?_) (fun hc => ?_)
    · have hF := hF.1 hc
      refine z_iinc (q := 49) (v := (l2 + 1)) (L' := [some (.ref l0), some (.int l1), some (.int (l2 + 1)), none, none]) dX10_carryOutMove_46 rfl rfl (Nat.le_of_ble_eq_true rfl) rfl rfl rfl ?_
      refine z_goto (q := 2) dX10_carryOutMove_49 (by decide) ?_
      exact hF
    · have hF := hF.2 hc
      refine z_aload_n (q := 24) dX10_carryOutMove_23 rfl rfl rfl ?_
      obtain ⟨g39, hF⟩ := hF
      refine z_getR (c := 10) (k := 8) (r := (RX10, TX10, 15)) (q := 27) dX10_carryOutMove_24 rfl (by decide) fl_X10_61 rfl g33 g39 rfl ?_
      refine z_iload_n (q := 28) dX10_carryOutMove_27 rfl rfl rfl ?_
      obtain ⟨g41, hF⟩ := hF
      refine z_callVI (rc := 0) (rs := 0) (b := (zR h l0 8)) (av := [.int l2]) (ci := 7) (r := (RX7, TX7, 11)) (q := 31) hF dX10_carryOutMove_28 ml_X10_405 ok_X7_indexOf in_X7_indexOf se_X7_indexOf rfl rfl g41 rfl (Nat.le_of_ble_eq_true rfl) (by decide) (Nat.le_of_ble_eq_true rfl) rfl rfl rfl rfl (fun x42 h40 hF => ?_)
      refine z_bipush (q := 33) (v := (-6)) dX10_carryOutMove_31 (by decide) rfl ?_
      refine z_icmp_ne (t := 46) (q := 36) dX10_carryOutMove_33 (by decide) rfl (fun hc => ?_) (fun hc => ?_)
      · have hF := hF.1 hc
        refine z_iinc (q := 49) (v := (l2 + 1)) (L' := [some (.ref l0), some (.int l1), some (.int (l2 + 1)), none, none]) dX10_carryOutMove_46 rfl rfl (Nat.le_of_ble_eq_true rfl) rfl rfl rfl ?_
        refine z_goto (q := 2) dX10_carryOutMove_49 (by decide) ?_
        exact hF
      · have hF := hF.2 hc
        refine z_aload_n (q := 37) dX10_carryOutMove_36 rfl rfl rfl ?_
        obtain ⟨g43, hF⟩ := hF
        obtain ⟨g44, hF⟩ := hF
        refine z_getR (c := 10) (k := 2) (r := (RX10, TX10, 15)) (q := 40) dX10_carryOutMove_37 rfl (by decide) fl_X10_23 rfl g43 g44 rfl ?_
        refine z_iload_n (q := 41) dX10_carryOutMove_40 rfl rfl rfl ?_
        obtain ⟨g45, hF⟩ := hF
        obtain ⟨g46, hF⟩ := hF
        obtain ⟨g47, hF⟩ := hF
        refine y_aald (kd := 24) (j := (Int32.toNatClampNeg l2)) (q := 42) dX10_carryOutMove_41 g45 (by decide) (by decide) rfl g46 rfl g47 rfl ?_
        refine z_iconst (q := 43) (v := 1) dX10_carryOutMove_42 (by decide) rfl ?_
        obtain ⟨g49, hF⟩ := hF
        refine z_callVV (rc := 0) (rs := 0) (b := (zR h40 (zR h40 l0 2) (Int32.toNatClampNeg l2))) (av := [.int 1]) (ci := 1) (r := (RX1, TX1, 7)) (q := 46) hF dX10_carryOutMove_43 ml_X10_194 ok_X1_quit in_X1_quit se_X1_quit rfl rfl g49 rfl (Nat.le_of_ble_eq_true rfl) (by decide) (Nat.le_of_ble_eq_true rfl) rfl rfl rfl rfl (fun h48 hF => ?_)
        refine z_iinc (q := 49) (v := (l2 + 1)) (L' := [some (.ref l0), some (.int l1), some (.int (l2 + 1)), none, none]) dX10_carryOutMove_46 rfl rfl (Nat.le_of_ble_eq_true rfl) rfl rfl rfl ?_
        refine z_goto (q := 2) dX10_carryOutMove_49 (by decide) ?_
        exact hF
set_option maxRecDepth 100000 in
set_option maxHeartbeats 4000000 in
theorem wX10_carryOutMove {ψ : ZH → Prop} {l0 : Nat} {l1 : Int32} {h : ZH} (hF : Zt mX10_carryOutMove (zPV ψ) 0 0 2 [some (.ref l0), some (.int l1), some (.int 0), none, none] [] h) : ZcV mX10_carryOutMove [.ref l0, .int l1] h ψ := by
  refine Zc.intro (L := [some (.ref l0), some (.int l1), none, none, none]) (show plainName RX10 = true by decide) rfl (Nat.le_of_ble_eq_true rfl) ?_
  show Zt _ _ 0 0 _ _ _ _
  refine z_iconst (q := 1) (v := 0) dX10_carryOutMove_0 (by decide) rfl ?_
  refine z_istore_n (q := 2) (L' := [some (.ref l0), some (.int l1), some (.int 0), none, none]) dX10_carryOutMove_1 rfl (Nat.le_of_ble_eq_true rfl) rfl rfl rfl ?_
  exact hF
set_option maxRecDepth 100000 in
set_option maxHeartbeats 4000000 in
theorem wX10_canBe {ψ : Int32 → ZH → Prop} {l0 : Nat} {l1 : Int32} {l2 : Nat} {h : ZH} (hF : (zK h l0 = 11) ∧ ((zR h l0 1) ≠ 0) ∧ (zK h (zR h l0 1) = 25) ∧ (vp_in l1 (zN h (zR h l0 1))) ∧ ((zR h (zR h l0 1) (Int32.toNatClampNeg l1)) ≠ 0) ∧ (zK h (zR h (zR h l0 1) (Int32.toNatClampNeg l1)) = 5) ∧ ((zR h (zR h (zR h l0 1) (Int32.toNatClampNeg l1)) 0) ≠ 0) ∧ (zK h l2 = 1) ∧ ((zR h l2 0) ≠ 0) ∧ (zK h (zR h (zR h (zR h l0 1) (Int32.toNatClampNeg l1)) 0) = 6) ∧ ZcI mX5_farFrom [.ref (zR h (zR h (zR h l0 1) (Int32.toNatClampNeg l1)) 0), .ref (zR h l2 0)] h (fun x12 h10 => (zK h10 (zR h (zR h l0 1) (Int32.toNatClampNeg l1)) = 5) ∧ ((((zI h10 (zR h (zR h l0 1) (Int32.toNatClampNeg l1)) 3) / 30) < x12 → ψ 0 h10) ∧ (¬ ((zI h10 (zR h (zR h l0 1) (Int32.toNatClampNeg l1)) 3) / 30) < x12 → (zK h10 l2 = 1) ∧ (((zI h10 l2 1) < (zI h10 (zR h (zR h l0 1) (Int32.toNatClampNeg l1)) 6) → ψ 0 h10) ∧ (¬ (zI h10 l2 1) < (zI h10 (zR h (zR h l0 1) (Int32.toNatClampNeg l1)) 6) → (zK h10 l0 = 11) ∧ ((zR h10 l0 4) ≠ 0) ∧ (zK h10 (zR h10 l0 4) = 20) ∧ (6 < zN h10 (zR h10 l0 4)) ∧ (((zI h10 (zR h (zR h l0 1) (Int32.toNatClampNeg l1)) 7) < ((zI h10 l2 1) - (zI h10 (zR h10 l0 4) 6)) → ψ 0 h10) ∧ (¬ (zI h10 (zR h (zR h l0 1) (Int32.toNatClampNeg l1)) 7) < ((zI h10 l2 1) - (zI h10 (zR h10 l0 4) 6)) → ψ 1 h10)))))))) : ZcI mX10_canBe [.ref l0, .int l1, .ref l2] h ψ := by
  refine Zc.intro (L := [some (.ref l0), some (.int l1), some (.ref l2), none, none]) (show plainName RX10 = true by decide) rfl (Nat.le_of_ble_eq_true rfl) ?_
  show Zt _ _ 0 0 _ _ _ _
  refine z_aload_n (q := 1) dX10_canBe_0 rfl rfl rfl ?_
  obtain ⟨g1, hF⟩ := hF
  obtain ⟨g2, hF⟩ := hF
  refine z_getR (c := 10) (k := 1) (r := (RX10, TX10, 15)) (q := 4) dX10_canBe_1 rfl (by decide) fl_X10_17 rfl g1 g2 rfl ?_
  refine z_iload_n (q := 5) dX10_canBe_4 rfl rfl rfl ?_
  obtain ⟨g3, hF⟩ := hF
  obtain ⟨g4, hF⟩ := hF
  obtain ⟨g5, hF⟩ := hF
  refine y_aald (kd := 25) (j := (Int32.toNatClampNeg l1)) (q := 6) dX10_canBe_5 g3 (by decide) (by decide) rfl g4 rfl g5 rfl ?_
  refine z_astore_n (q := 7) (L' := [some (.ref l0), some (.int l1), some (.ref l2), some (.ref (zR h (zR h l0 1) (Int32.toNatClampNeg l1))), none]) dX10_canBe_6 rfl (Nat.le_of_ble_eq_true rfl) rfl rfl rfl ?_
  refine z_aload_n (q := 8) dX10_canBe_7 rfl rfl rfl ?_
  obtain ⟨g6, hF⟩ := hF
  obtain ⟨g7, hF⟩ := hF
  refine z_getR (c := 4) (k := 0) (r := (RX4, TX4, 8)) (q := 11) dX10_canBe_8 rfl (by decide) fl_X10_123 rfl g6 g7 rfl ?_
  refine z_aload_n (q := 12) dX10_canBe_11 rfl rfl rfl ?_
  obtain ⟨g8, hF⟩ := hF
  obtain ⟨g9, hF⟩ := hF
  refine z_getR (c := 0) (k := 0) (r := (RX0, TX0, 3)) (q := 15) dX10_canBe_12 rfl (by decide) fl_X10_411 rfl g8 g9 rfl ?_
  obtain ⟨g11, hF⟩ := hF
  refine z_callVI (rc := 0) (rs := 0) (b := (zR h (zR h (zR h l0 1) (Int32.toNatClampNeg l1)) 0)) (av := [.ref (zR h l2 0)]) (ci := 5) (r := (RX5, TX5, 2)) (q := 18) hF dX10_canBe_15 ml_X10_365 ok_X5_farFrom in_X5_farFrom se_X5_farFrom rfl rfl g11 rfl (Nat.le_of_ble_eq_true rfl) (by decide) (Nat.le_of_ble_eq_true rfl) rfl rfl rfl rfl (fun x12 h10 hF => ?_)
  refine z_aload_n (q := 19) dX10_canBe_18 rfl rfl rfl ?_
  obtain ⟨g13, hF⟩ := hF
  refine z_getI (c := 4) (k := 3) (r := (RX4, TX4, 8)) (q := 22) dX10_canBe_19 rfl (by decide) fl_X10_133 rfl g13 rfl ?_
  refine z_bipush (q := 24) (v := 30) dX10_canBe_22 (by decide) rfl ?_
  refine z_idiv (q := 25) dX10_canBe_24 (by decide) rfl ?_
  refine z_icmp_gt (t := 32) (q := 28) dX10_canBe_25 (by decide) rfl (fun hc => ?_) (fun hc => ?_)
  · have hF := hF.1 hc
    refine z_iconst (q := 33) (v := 0) dX10_canBe_32 (by decide) rfl ?_
    refine z_istore (q := 35) (L' := [some (.ref l0), some (.int l1), some (.ref l2), some (.ref (zR h (zR h l0 1) (Int32.toNatClampNeg l1))), some (.int 0)]) dX10_canBe_33 (Nat.le_of_ble_eq_true rfl) rfl rfl rfl ?_
    refine z_iload (q := 37) dX10_canBe_35 rfl rfl ?_
    refine z_if_eq (t := 74) (q := 40) dX10_canBe_37 (by decide) rfl (fun _ => ?_) (fun hc => absurd hc (by decide))
    refine z_iconst (q := 75) (v := 0) dX10_canBe_74 (by decide) rfl ?_
    exact z_zreturn dX10_canBe_75 rfl (by decide) ⟨_, rfl, hF⟩
  · have hF := hF.2 hc
    refine z_iconst (q := 29) (v := 1) dX10_canBe_28 (by decide) rfl ?_
    refine z_goto (q := 33) dX10_canBe_29 (by decide) ?_
    refine z_istore (q := 35) (L' := [some (.ref l0), some (.int l1), some (.ref l2), some (.ref (zR h (zR h l0 1) (Int32.toNatClampNeg l1))), some (.int 1)]) dX10_canBe_33 (Nat.le_of_ble_eq_true rfl) rfl rfl rfl ?_
    refine z_iload (q := 37) dX10_canBe_35 rfl rfl ?_
    refine z_if_eq (t := 74) (q := 40) dX10_canBe_37 (by decide) rfl (fun hc => absurd hc (by decide)) (fun _ => ?_)
    refine z_aload_n (q := 41) dX10_canBe_40 rfl rfl rfl ?_
    refine z_getI (c := 4) (k := 6) (r := (RX4, TX4, 8)) (q := 44) dX10_canBe_41 rfl (by decide) fl_X10_308 rfl g13 rfl ?_
    refine z_aload_n (q := 45) dX10_canBe_44 rfl rfl rfl ?_
    obtain ⟨g14, hF⟩ := hF
    refine z_getI (c := 0) (k := 1) (r := (RX0, TX0, 3)) (q := 48) dX10_canBe_45 rfl (by decide) fl_X10_412 rfl g14 rfl ?_
    refine z_icmp_gt (t := 74) (q := 51) dX10_canBe_48 (by decide) rfl (fun hc => ?_) (fun hc => ?_)
    · have hF := hF.1 hc
      refine z_iconst (q := 75) (v := 0) dX10_canBe_74 (by decide) rfl ?_
      exact z_zreturn dX10_canBe_75 rfl (by decide) ⟨_, rfl, hF⟩
    · have hF := hF.2 hc
      refine z_aload_n (q := 52) dX10_canBe_51 rfl rfl rfl ?_
      refine z_getI (c := 4) (k := 7) (r := (RX4, TX4, 8)) (q := 55) dX10_canBe_52 rfl (by decide) fl_X10_311 rfl g13 rfl ?_
      refine z_aload_n (q := 56) dX10_canBe_55 rfl rfl rfl ?_
      refine z_getI (c := 0) (k := 1) (r := (RX0, TX0, 3)) (q := 59) dX10_canBe_56 rfl (by decide) fl_X10_412 rfl g14 rfl ?_
      refine z_aload_n (q := 60) dX10_canBe_59 rfl rfl rfl ?_
      obtain ⟨g15, hF⟩ := hF
      obtain ⟨g16, hF⟩ := hF
      refine z_getR (c := 10) (k := 4) (r := (RX10, TX10, 15)) (q := 63) dX10_canBe_60 rfl (by decide) fl_X10_37 rfl g15 g16 rfl ?_
      refine z_bipush (q := 65) (v := 6) dX10_canBe_63 (by decide) rfl ?_
      obtain ⟨g17, hF⟩ := hF
      obtain ⟨g18, hF⟩ := hF
      refine y_iald (j := 6) (q := 66) dX10_canBe_65 (Or.inl g17) (zvin (by decide) (by decide) g18) (by decide) rfl ?_
      refine z_isub (q := 67) dX10_canBe_66 rfl ?_
      refine z_icmp_lt (t := 74) (q := 70) dX10_canBe_67 (by decide) rfl (fun hc => ?_) (fun hc => ?_)
      · have hF := hF.1 hc
        refine z_iconst (q := 75) (v := 0) dX10_canBe_74 (by decide) rfl ?_
        exact z_zreturn dX10_canBe_75 rfl (by decide) ⟨_, rfl, hF⟩
      · have hF := hF.2 hc
        refine z_iconst (q := 71) (v := 1) dX10_canBe_70 (by decide) rfl ?_
        refine z_goto (q := 75) dX10_canBe_71 (by decide) ?_
        exact z_zreturn dX10_canBe_75 rfl (by decide) ⟨_, rfl, hF⟩
set_option maxRecDepth 100000 in
set_option maxHeartbeats 4000000 in
theorem wX10_partOf_73 {ψ : Int32 → ZH → Prop} {l0 : Nat} {l1 : Nat} {l2 : Int32} {l3 : Int32} {l4 : Int32} {l5 : Int32} {l6 : Int32} {h : ZH} (hF : (zK h l0 = 11) ∧ (((zI h l0 12) ≤ l6 → (zK h l1 = 1) ∧ ((zR h l0 1) ≠ 0) ∧ (zK h (zR h l0 1) = 25) ∧ (vp_in l2 (zN h (zR h l0 1))) ∧ ((zR h (zR h l0 1) (Int32.toNatClampNeg l2)) ≠ 0) ∧ (zK h (zR h (zR h l0 1) (Int32.toNatClampNeg l2)) = 5) ∧ ZcI mX10_share [.int (zI h l1 2), .int ((zI h (zR h (zR h l0 1) (Int32.toNatClampNeg l2)) 1) + 1), .int l4] h (fun x9 h8 => ((¬ l2 = l3 → ψ x9 h8) ∧ (l2 = l3 → ψ (x9 + l5) h8)))) ∧ (¬ (zI h l0 12) ≤ l6 → ZcI mX10_canBe [.ref l0, .int l6, .ref l1] h (fun x11 h10 => ((x11 = 0 → Zt mX10_partOf (zPI ψ) 0 0 73 [some (.ref l0), some (.ref l1), some (.int l2), some (.int l3), some (.int l4), some (.int l5), some (.int (l6 + 1))] [] h10) ∧ (¬ x11 = 0 → (zK h10 l1 = 1) ∧ (zK h10 l0 = 11) ∧ ((zR h10 l0 1) ≠ 0) ∧ (zK h10 (zR h10 l0 1) = 25) ∧ (vp_in l6 (zN h10 (zR h10 l0 1))) ∧ ((zR h10 (zR h10 l0 1) (Int32.toNatClampNeg l6)) ≠ 0) ∧ (zK h10 (zR h10 (zR h10 l0 1) (Int32.toNatClampNeg l6)) = 5) ∧ ZcI mX10_share [.int (zI h10 l1 2), .int ((zI h10 (zR h10 (zR h10 l0 1) (Int32.toNatClampNeg l6)) 1) + 1), .int l4] h10 (fun x20 h19 => Zt mX10_partOf (zPI ψ) 0 0 73 [some (.ref l0), some (.ref l1), some (.int l2), some (.int l3), some (.int l4), some (.int (l5 - x20)), some (.int (l6 + 1))] [] h19))))))) : Zt mX10_partOf (zPI ψ) 0 0 73 [some (.ref l0), some (.ref l1), some (.int l2), some (.int l3), some (.int l4), some (.int l5), some (.int l6)] [] h := by
  refine z_iload (q := 75) dX10_partOf_73 rfl rfl ?_
  refine z_aload_n (q := 76) dX10_partOf_75 rfl rfl rfl ?_
  obtain ⟨g1, hF⟩ := hF
  refine z_getI (c := 10) (k := 12) (r := (RX10, TX10, 15)) (q := 79) dX10_partOf_76 rfl (by decide) fl_X10_110 rfl g1 rfl ?_
  refine z_icmp_ge (t := 124) (q := 82) dX10_partOf_79 (by decide) rfl (fun hc => ?_) (fun hc => ?_)
  · have hF := hF.1 hc
    refine z_aload_n (q := 125) dX10_partOf_124 rfl rfl rfl ?_
    obtain ⟨g2, hF⟩ := hF
    refine z_getI (c := 0) (k := 2) (r := (RX0, TX0, 3)) (q := 128) dX10_partOf_125 rfl (by decide) fl_X10_415 rfl g2 rfl ?_
    refine z_aload_n (q := 129) dX10_partOf_128 rfl rfl rfl ?_
    obtain ⟨g3, hF⟩ := hF
    refine z_getR (c := 10) (k := 1) (r := (RX10, TX10, 15)) (q := 132) dX10_partOf_129 rfl (by decide) fl_X10_17 rfl g1 g3 rfl ?_
    refine z_iload_n (q := 133) dX10_partOf_132 rfl rfl rfl ?_
    obtain ⟨g4, hF⟩ := hF
    obtain ⟨g5, hF⟩ := hF
    obtain ⟨g6, hF⟩ := hF
    refine y_aald (kd := 25) (j := (Int32.toNatClampNeg l2)) (q := 134) dX10_partOf_133 g4 (by decide) (by decide) rfl g5 rfl g6 rfl ?_
    obtain ⟨g7, hF⟩ := hF
    refine z_getI (c := 4) (k := 1) (r := (RX4, TX4, 8)) (q := 137) dX10_partOf_134 rfl (by decide) fl_X10_127 rfl g7 rfl ?_
    refine z_iconst (q := 138) (v := 1) dX10_partOf_137 (by decide) rfl ?_
    refine z_iadd (q := 139) dX10_partOf_138 rfl ?_
    refine z_iload (q := 141) dX10_partOf_139 rfl rfl ?_
    refine z_callSI (rc := 0) (rs := 0) (av := [.int (zI h l1 2), .int ((zI h (zR h (zR h l0 1) (Int32.toNatClampNeg l2)) 1) + 1), .int l4]) (q := 144) hF dX10_partOf_141 ml_X10_416 ok_X10_share st_X10_share rfl (Nat.le_of_ble_eq_true rfl) (by decide) (Nat.le_of_ble_eq_true rfl) rfl rfl rfl rfl (fun x9 h8 hF => ?_)
    refine z_istore (q := 146) (L' := [some (.ref l0), some (.ref l1), some (.int l2), some (.int l3), some (.int l4), some (.int l5), some (.int x9)]) dX10_partOf_144 (Nat.le_of_ble_eq_true rfl) rfl rfl rfl ?_
    refine z_iload_n (q := 147) dX10_partOf_146 rfl rfl rfl ?_
    refine z_iload_n (q := 148) dX10_partOf_147 rfl rfl rfl ?_
    refine z_icmp_ne (t := 159) (q := 151) dX10_partOf_148 (by decide) rfl (fun hc => ?_) (fun hc => ?_)
    · have hF := hF.1 hc
      refine z_iload (q := 161) dX10_partOf_159 rfl rfl ?_
      exact z_ireturn dX10_partOf_161 rfl ⟨_, rfl, hF⟩
    · have hF := hF.2 hc
      refine z_iload (q := 153) dX10_partOf_151 rfl rfl ?_
      refine z_iload (q := 155) dX10_partOf_153 rfl rfl ?_
      refine z_iadd (q := 156) dX10_partOf_155 rfl ?_
      refine z_goto (q := 161) dX10_partOf_156 (by decide) ?_
      exact z_ireturn dX10_partOf_161 rfl ⟨_, rfl, hF⟩
  · have hF := hF.2 hc
    refine z_aload_n (q := 83) dX10_partOf_82 rfl rfl rfl ?_
    refine z_iload (q := 85) dX10_partOf_83 rfl rfl ?_
    refine z_aload_n (q := 86) dX10_partOf_85 rfl rfl rfl ?_
    refine z_callVI (rc := 0) (rs := 0) (b := l0) (av := [.int l6, .ref l1]) (ci := 10) (r := (RX10, TX10, 15)) (q := 89) hF dX10_partOf_86 ml_X10_324 ok_X10_canBe in_X10_canBe se_X10_canBe rfl rfl g1 rfl (Nat.le_of_ble_eq_true rfl) (by decide) (Nat.le_of_ble_eq_true rfl) rfl rfl rfl rfl (fun x11 h10 hF => ?_)
    refine z_if_eq (t := 118) (q := 92) dX10_partOf_89 (by decide) rfl (fun hc => ?_) (fun hc => ?_)
    · have hF := hF.1 hc
      refine z_iinc (q := 121) (v := (l6 + 1)) (L' := [some (.ref l0), some (.ref l1), some (.int l2), some (.int l3), some (.int l4), some (.int l5), some (.int (l6 + 1))]) dX10_partOf_118 rfl rfl (Nat.le_of_ble_eq_true rfl) rfl rfl rfl ?_
      refine z_goto (q := 73) dX10_partOf_121 (by decide) ?_
      exact hF
    · have hF := hF.2 hc
      refine z_iload (q := 94) dX10_partOf_92 rfl rfl ?_
      refine z_aload_n (q := 95) dX10_partOf_94 rfl rfl rfl ?_
      obtain ⟨g12, hF⟩ := hF
      refine z_getI (c := 0) (k := 2) (r := (RX0, TX0, 3)) (q := 98) dX10_partOf_95 rfl (by decide) fl_X10_415 rfl g12 rfl ?_
      refine z_aload_n (q := 99) dX10_partOf_98 rfl rfl rfl ?_
      obtain ⟨g13, hF⟩ := hF
      obtain ⟨g14, hF⟩ := hF
      refine z_getR (c := 10) (k := 1) (r := (RX10, TX10, 15)) (q := 102) dX10_partOf_99 rfl (by decide) fl_X10_17 rfl g13 g14 rfl ?_
      refine z_iload (q := 104) dX10_partOf_102 rfl rfl ?_
      obtain ⟨g15, hF⟩ := hF
      obtain ⟨g16, hF⟩ := hF
      obtain ⟨g17, hF⟩ := hF
      refine y_aald (kd := 25) (j := (Int32.toNatClampNeg l6)) (q := 105) dX10_partOf_104 g15 (by decide) (by decide) rfl g16 rfl g17 rfl ?_
      obtain ⟨g18, hF⟩ := hF
      refine z_getI (c := 4) (k := 1) (r := (RX4, TX4, 8)) (q := 108) dX10_partOf_105 rfl (by decide) fl_X10_127 rfl g18 rfl ?_
      refine z_iconst (q := 109) (v := 1) dX10_partOf_108 (by decide) rfl ?_
      refine z_iadd (q := 110) dX10_partOf_109 rfl ?_
      refine z_iload (q := 112) dX10_partOf_110 rfl rfl ?_
      refine z_callSI (rc := 0) (rs := 0) (av := [.int (zI h10 l1 2), .int ((zI h10 (zR h10 (zR h10 l0 1) (Int32.toNatClampNeg l6)) 1) + 1), .int l4]) (q := 115) hF dX10_partOf_112 ml_X10_416 ok_X10_share st_X10_share rfl (Nat.le_of_ble_eq_true rfl) (by decide) (Nat.le_of_ble_eq_true rfl) rfl rfl rfl rfl (fun x20 h19 hF => ?_)
      refine z_isub (q := 116) dX10_partOf_115 rfl ?_
      refine z_istore (q := 118) (L' := [some (.ref l0), some (.ref l1), some (.int l2), some (.int l3), some (.int l4), some (.int (l5 - x20)), some (.int l6)]) dX10_partOf_116 (Nat.le_of_ble_eq_true rfl) rfl rfl rfl ?_
      refine z_iinc (q := 121) (v := (l6 + 1)) (L' := [some (.ref l0), some (.ref l1), some (.int l2), some (.int l3), some (.int l4), some (.int (l5 - x20)), some (.int (l6 + 1))]) dX10_partOf_118 rfl rfl (Nat.le_of_ble_eq_true rfl) rfl rfl rfl ?_
      refine z_goto (q := 73) dX10_partOf_121 (by decide) ?_
      exact hF
set_option maxRecDepth 100000 in
set_option maxHeartbeats 4000000 in
theorem wX10_partOf_9 {ψ : Int32 → ZH → Prop} {l0 : Nat} {l1 : Nat} {l2 : Int32} {l3 : Int32} {l4 : Int32} {l5 : Int32} {h : ZH} (hF : (zK h l0 = 11) ∧ (((zI h l0 12) ≤ l5 → (zK h l1 = 1) ∧ Zt mX10_partOf (zPI ψ) 0 0 73 [some (.ref l0), some (.ref l1), some (.int l2), some (.int l3), some (.int l4), some (.int (zI h l1 2)), some (.int 0)] [] h) ∧ (¬ (zI h l0 12) ≤ l5 → ZcI mX10_canBe [.ref l0, .int l5, .ref l1] h (fun x24 h23 => ((x24 = 0 → Zt mX10_partOf (zPI ψ) 0 0 9 [some (.ref l0), some (.ref l1), some (.int l2), some (.int l3), some (.int l4), some (.int (l5 + 1)), none] [] h23) ∧ (¬ x24 = 0 → (zK h23 l0 = 11) ∧ ((zR h23 l0 1) ≠ 0) ∧ (zK h23 (zR h23 l0 1) = 25) ∧ (vp_in l5 (zN h23 (zR h23 l0 1))) ∧ ((zR h23 (zR h23 l0 1) (Int32.toNatClampNeg l5)) ≠ 0) ∧ (zK h23 (zR h23 (zR h23 l0 1) (Int32.toNatClampNeg l5)) = 5) ∧ ∀ v31 : Int32, v31 = (l4 + ((zI h23 (zR h23 (zR h23 l0 1) (Int32.toNatClampNeg l5)) 1) + 1)) → ((¬ l3 = (-6) → Zt mX10_partOf (zPI ψ) 0 0 9 [some (.ref l0), some (.ref l1), some (.int l2), some (.int l3), some (.int v31), some (.int (l5 + 1)), none] [] h23) ∧ (l3 = (-6) → Zt mX10_partOf (zPI ψ) 0 0 9 [some (.ref l0), some (.ref l1), some (.int l2), some (.int l5), some (.int v31), some (.int (l5 + 1)), none] [] h23)))))))) : Zt mX10_partOf (zPI ψ) 0 0 9 [some (.ref l0), some (.ref l1), some (.int l2), some (.int l3), some (.int l4), some (.int l5), none] [] h := by
  refine z_iload (q := 11) dX10_partOf_9 rfl rfl ?_
  refine z_aload_n (q := 12) dX10_partOf_11 rfl rfl rfl ?_
  obtain ⟨g21, hF⟩ := hF
  refine z_getI (c := 10) (k := 12) (r := (RX10, TX10, 15)) (q := 15) dX10_partOf_12 rfl (by decide) fl_X10_110 rfl g21 rfl ?_
  refine z_icmp_ge (t := 64) (q := 18) dX10_partOf_15 (by decide) rfl (fun hc => ?_) (fun hc => ?_)
  · have hF := hF.1 hc
    refine z_aload_n (q := 65) dX10_partOf_64 rfl rfl rfl ?_
    obtain ⟨g22, hF⟩ := hF
    refine z_getI (c := 0) (k := 2) (r := (RX0, TX0, 3)) (q := 68) dX10_partOf_65 rfl (by decide) fl_X10_415 rfl g22 rfl ?_
    refine z_istore (q := 70) (L' := [some (.ref l0), some (.ref l1), some (.int l2), some (.int l3), some (.int l4), some (.int (zI h l1 2)), none]) dX10_partOf_68 (Nat.le_of_ble_eq_true rfl) rfl rfl rfl ?_
    refine z_iconst (q := 71) (v := 0) dX10_partOf_70 (by decide) rfl ?_
    refine z_istore (q := 73) (L' := [some (.ref l0), some (.ref l1), some (.int l2), some (.int l3), some (.int l4), some (.int (zI h l1 2)), some (.int 0)]) dX10_partOf_71 (Nat.le_of_ble_eq_true rfl) rfl rfl rfl ?_
    exact hF
  · have hF := hF.2 hc
    refine z_aload_n (q := 19) dX10_partOf_18 rfl rfl rfl ?_
    refine z_iload (q := 21) dX10_partOf_19 rfl rfl ?_
    refine z_aload_n (q := 22) dX10_partOf_21 rfl rfl rfl ?_
    refine z_callVI (rc := 0) (rs := 0) (b := l0) (av := [.int l5, .ref l1]) (ci := 10) (r := (RX10, TX10, 15)) (q := 25) hF dX10_partOf_22 ml_X10_324 ok_X10_canBe in_X10_canBe se_X10_canBe rfl rfl g21 rfl (Nat.le_of_ble_eq_true rfl) (by decide) (Nat.le_of_ble_eq_true rfl) rfl rfl rfl rfl (fun x24 h23 hF => ?_)
    refine z_if_eq (t := 58) (q := 28) dX10_partOf_25 (by decide) rfl (fun hc => ?_) (fun hc => ?_)
    · have hF := hF.1 hc
      refine z_iinc (q := 61) (v := (l5 + 1)) (L' := [some (.ref l0), some (.ref l1), some (.int l2), some (.int l3), some (.int l4), some (.int (l5 + 1)), none]) dX10_partOf_58 rfl rfl (Nat.le_of_ble_eq_true rfl) rfl rfl rfl ?_
      refine z_goto (q := 9) dX10_partOf_61 (by decide) ?_
      exact hF
    · have hF := hF.2 hc
      refine z_iload (q := 30) dX10_partOf_28 rfl rfl ?_
      refine z_aload_n (q := 31) dX10_partOf_30 rfl rfl rfl ?_
      obtain ⟨g25, hF⟩ := hF
      obtain ⟨g26, hF⟩ := hF
      refine z_getR (c := 10) (k := 1) (r := (RX10, TX10, 15)) (q := 34) dX10_partOf_31 rfl (by decide) fl_X10_17 rfl g25 g26 rfl ?_
      refine z_iload (q := 36) dX10_partOf_34 rfl rfl ?_
      obtain ⟨g27, hF⟩ := hF
      obtain ⟨g28, hF⟩ := hF
      obtain ⟨g29, hF⟩ := hF
      refine y_aald (kd := 25) (j := (Int32.toNatClampNeg l5)) (q := 37) dX10_partOf_36 g27 (by decide) (by decide) rfl g28 rfl g29 rfl ?_
      obtain ⟨g30, hF⟩ := hF
      refine z_getI (c := 4) (k := 1) (r := (RX4, TX4, 8)) (q := 40) dX10_partOf_37 rfl (by decide) fl_X10_127 rfl g30 rfl ?_
      refine z_iconst (q := 41) (v := 1) dX10_partOf_40 (by decide) rfl ?_
      refine z_iadd (q := 42) dX10_partOf_41 rfl ?_
      refine z_iadd (q := 43) dX10_partOf_42 rfl ?_
      refine z_nameI (fun v31 ev32 => ?_)
      have hF := hF v31 ev32
      refine z_istore (q := 45) (L' := [some (.ref l0), some (.ref l1), some (.int l2), some (.int l3), some (.int v31), some (.int l5), none]) dX10_partOf_43 (Nat.le_of_ble_eq_true rfl) rfl rfl rfl ?_
      refine z_iload_n (q := 46) dX10_partOf_45 rfl rfl rfl ?_
      refine z_bipush (q := 48) (v := (-6)) dX10_partOf_46 (by decide) rfl ?_
      refine z_icmp_ne (t := 56) (q := 51) dX10_partOf_48 (by decide) rfl (fun hc => ?_) (fun hc => ?_)
      · have hF := hF.1 hc
        refine z_iload_n (q := 57) dX10_partOf_56 rfl rfl rfl ?_
        refine z_istore_n (q := 58) (L' := [some (.ref l0), some (.ref l1), some (.int l2), some (.int l3), some (.int v31), some (.int l5), none]) dX10_partOf_57 rfl (Nat.le_of_ble_eq_true rfl) rfl rfl rfl ?_
        refine z_iinc (q := 61) (v := (l5 + 1)) (L' := [some (.ref l0), some (.ref l1), some (.int l2), some (.int l3), some (.int v31), some (.int (l5 + 1)), none]) dX10_partOf_58 rfl rfl (Nat.le_of_ble_eq_true rfl) rfl rfl rfl ?_
        refine z_goto (q := 9) dX10_partOf_61 (by decide) ?_
        exact hF
      · have hF := hF.2 hc
        refine z_iload (q := 53) dX10_partOf_51 rfl rfl ?_
        refine z_goto (q := 57) dX10_partOf_53 (by decide) ?_
        refine z_istore_n (q := 58) (L' := [some (.ref l0), some (.ref l1), some (.int l2), some (.int l5), some (.int v31), some (.int l5), none]) dX10_partOf_57 rfl (Nat.le_of_ble_eq_true rfl) rfl rfl rfl ?_
        refine z_iinc (q := 61) (v := (l5 + 1)) (L' := [some (.ref l0), some (.ref l1), some (.int l2), some (.int l5), some (.int v31), some (.int (l5 + 1)), none]) dX10_partOf_58 rfl rfl (Nat.le_of_ble_eq_true rfl) rfl rfl rfl ?_
        refine z_goto (q := 9) dX10_partOf_61 (by decide) ?_
        exact hF
set_option maxRecDepth 100000 in
set_option maxHeartbeats 4000000 in
theorem wX10_partOf {ψ : Int32 → ZH → Prop} {l0 : Nat} {l1 : Nat} {l2 : Int32} {h : ZH} (hF : Zt mX10_partOf (zPI ψ) 0 0 9 [some (.ref l0), some (.ref l1), some (.int l2), some (.int (-6)), some (.int 0), some (.int 0), none] [] h) : ZcI mX10_partOf [.ref l0, .ref l1, .int l2] h ψ := by
  refine Zc.intro (L := [some (.ref l0), some (.ref l1), some (.int l2), none, none, none, none]) (show plainName RX10 = true by decide) rfl (Nat.le_of_ble_eq_true rfl) ?_
  show Zt _ _ 0 0 _ _ _ _
  refine z_bipush (q := 2) (v := (-6)) dX10_partOf_0 (by decide) rfl ?_
  refine z_istore_n (q := 3) (L' := [some (.ref l0), some (.ref l1), some (.int l2), some (.int (-6)), none, none, none]) dX10_partOf_2 rfl (Nat.le_of_ble_eq_true rfl) rfl rfl rfl ?_
  refine z_iconst (q := 4) (v := 0) dX10_partOf_3 (by decide) rfl ?_
  refine z_istore (q := 6) (L' := [some (.ref l0), some (.ref l1), some (.int l2), some (.int (-6)), some (.int 0), none, none]) dX10_partOf_4 (Nat.le_of_ble_eq_true rfl) rfl rfl rfl ?_
  refine z_iconst (q := 7) (v := 0) dX10_partOf_6 (by decide) rfl ?_
  refine z_istore (q := 9) (L' := [some (.ref l0), some (.ref l1), some (.int l2), some (.int (-6)), some (.int 0), some (.int 0), none]) dX10_partOf_7 (Nat.le_of_ble_eq_true rfl) rfl rfl rfl ?_
  exact hF
set_option maxRecDepth 100000 in
set_option maxHeartbeats 4000000 in
theorem wX10_share {ψ : Int32 → ZH → Prop} {l0 : Int32} {l1 : Int32} {l2 : Int32} {h : ZH} (hF : ((0 < l2 → (¬ l2 = 0) ∧ ψ ((l0 * l1) / l2) h) ∧ (¬ 0 < l2 → ψ 0 h))) : ZcI mX10_share [.int l0, .int l1, .int l2] h ψ := by
  refine Zc.intro (L := [some (.int l0), some (.int l1), some (.int l2)]) (show plainName RX10 = true by decide) rfl (Nat.le_of_ble_eq_true rfl) ?_
  show Zt _ _ 0 0 _ _ _ _
  refine z_iload_n (q := 1) dX10_share_0 rfl rfl rfl ?_
  refine z_if_gt (t := 8) (q := 4) dX10_share_1 (by decide) rfl (fun hc => ?_) (fun hc => ?_)
  · have hF := hF.1 hc
    refine z_iload_n (q := 9) dX10_share_8 rfl rfl rfl ?_
    refine z_iload_n (q := 10) dX10_share_9 rfl rfl rfl ?_
    refine z_imul (q := 11) dX10_share_10 rfl ?_
    refine z_iload_n (q := 12) dX10_share_11 rfl rfl rfl ?_
    obtain ⟨g1, hF⟩ := hF
    refine z_idiv (q := 13) dX10_share_12 g1 rfl ?_
    exact z_ireturn dX10_share_13 rfl ⟨_, rfl, hF⟩
  · have hF := hF.2 hc
    refine z_iconst (q := 5) (v := 0) dX10_share_4 (by decide) rfl ?_
    refine z_goto (q := 13) dX10_share_5 (by decide) ?_
    exact z_ireturn dX10_share_13 rfl ⟨_, rfl, hF⟩
