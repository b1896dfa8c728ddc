set_option maxRecDepth 100000 in
set_option maxHeartbeats 4000000 in
theorem wX6_init_88 {ψ : ZH → Prop} {l0 : Nat} {l1 : Int32} {l2 : Int32} {rc rs : Nat} {h : ZH} (hF : ((5 ≤ l2 → Zt mX6_init (zPV ψ) rc rs 81 [some (.ref l0), some (.int (l1 + 1)), none] [] h) ∧ (¬ 5 ≤ l2 → (zK h l0 = 7) ∧ ((zR h l0 0) ≠ 0) ∧ (zK h (zR h l0 0) = 28) ∧ (vp_in l1 (zN h (zR h l0 0))) ∧ ((zR h (zR h l0 0) (Int32.toNatClampNeg l1)) ≠ 0) ∧ (zK h (zR h (zR h l0 0) (Int32.toNatClampNeg l1)) = 20) ∧ (vp_in l2 (zN h (zR h (zR h l0 0) (Int32.toNatClampNeg l1)))) ∧ Zt mX6_init (zPV ψ) rc rs 88 [some (.ref l0), some (.int l1), some (.int (l2 + 1))] [] (zsI h (zR h (zR h l0 0) (Int32.toNatClampNeg l1)) (Int32.toNatClampNeg l2) 100)))) : Zt mX6_init (zPV ψ) rc rs 88 [some (.ref l0), some (.int l1), some (.int l2)] [] h := by
  refine z_iload_n (q := 89) dX6_init_88 rfl rfl rfl ?_
  refine z_iconst (q := 90) (v := 5) dX6_init_89 (by decide) rfl ?_
  refine z_icmp_ge (t := 109) (q := 93) dX6_init_90 (by decide) rfl (fun hc => ?_) (fun hc => ?_)
  · have hF := hF.1 hc
    refine z_iinc (q := 112) (v := (l1 + 1)) (L' := [some (.ref l0), some (.int (l1 + 1)), some (.int l2)]) dX6_init_109 rfl rfl (Nat.le_of_ble_eq_true rfl) rfl rfl rfl ?_
    refine z_goto (q := 81) dX6_init_112 (by decide) ?_
    refine Zt.drop (i := 2) (L' := [some (.ref l0), some (.int (l1 + 1)), none]) rfl ?_
    exact hF
  · have hF := hF.2 hc
    refine z_aload_n (q := 94) dX6_init_93 rfl rfl rfl ?_
    obtain ⟨g1, hF⟩ := hF
    obtain ⟨g2, hF⟩ := hF
    refine z_getR (c := 6) (k := 0) (r := (RX6, TX6, 15)) (q := 97) dX6_init_94 rfl (by decide) fl_X6_11 rfl g1 g2 rfl ?_
    refine z_iload_n (q := 98) dX6_init_97 rfl rfl rfl ?_
    obtain ⟨g3, hF⟩ := hF
    obtain ⟨g4, hF⟩ := hF
    obtain ⟨g5, hF⟩ := hF
    refine y_aald (kd := 28) (j := (Int32.toNatClampNeg l1)) (q := 99) dX6_init_98 g3 (by decide) (by decide) rfl g4 rfl g5 rfl ?_
    refine z_iload_n (q := 100) dX6_init_99 rfl rfl rfl ?_
    refine z_bipush (q := 102) (v := 100) dX6_init_100 (by decide) rfl ?_
    obtain ⟨g6, hF⟩ := hF
    obtain ⟨g7, hF⟩ := hF
    refine y_iast (j := (Int32.toNatClampNeg l2)) (q := 103) dX6_init_102 g6 g7 rfl rfl ?_
    refine z_iinc (q := 106) (v := (l2 + 1)) (L' := [some (.ref l0), some (.int l1), some (.int (l2 + 1))]) dX6_init_103 rfl rfl (Nat.le_of_ble_eq_true rfl) rfl rfl rfl ?_
    refine z_goto (q := 88) dX6_init_106 (by decide) ?_
    exact hF
set_option maxRecDepth 100000 in
set_option maxHeartbeats 4000000 in
theorem wX6_init_81 {ψ : ZH → Prop} {l0 : Nat} {l1 : Int32} {rc rs : Nat} {h : ZH} (hF : ((3 ≤ l1 → ψ h) ∧ (¬ 3 ≤ l1 → Zt mX6_init (zPV ψ) rc rs 88 [some (.ref l0), some (.int l1), some (.int 0)] [] h))) : Zt mX6_init (zPV ψ) rc rs 81 [some (.ref l0), some (.int l1), none] [] h := by
  refine z_iload_n (q := 82) dX6_init_81 rfl rfl rfl ?_
  refine z_iconst (q := 83) (v := 3) dX6_init_82 (by decide) rfl ?_
  refine z_icmp_ge (t := 115) (q := 86) dX6_init_83 (by decide) rfl (fun hc => ?_) (fun hc => ?_)
  · have hF := hF.1 hc
    exact z_return dX6_init_115 rfl ⟨rfl, hF⟩
  · have hF := hF.2 hc
    refine z_iconst (q := 87) (v := 0) dX6_init_86 (by decide) rfl ?_
    refine z_istore_n (q := 88) (L' := [some (.ref l0), some (.int l1), some (.int 0)]) dX6_init_87 rfl (Nat.le_of_ble_eq_true rfl) rfl rfl rfl ?_
    exact hF
set_option maxRecDepth 100000 in
set_option maxHeartbeats 4000000 in
theorem wX6_init {ψ : ZH → Prop} {l0 : Nat} {h : ZH} (hF : ∃ a8 b9 : Nat, a8 ≠ 0 ∧ zK h a8 = 0 ∧ b9 ≠ 0 ∧ (∀ j, j < 3 → zK h (b9 + j) = 0) ∧ (a8 < b9 ∨ b9 + 3 ≤ a8) ∧ ∀ h15 : ZH, h15 = (zmM h a8 28 3 b9 20 5) → (zK h15 l0 = 7) ∧ ∃ a18 : Nat, a18 ≠ 0 ∧ zK h15 a18 = 0 ∧ ∀ h21 : ZH, h21 = (zmk (zsR h15 l0 0 a8) a18 20 8) → (zK h21 l0 = 7) ∧ ∃ a24 : Nat, a24 ≠ 0 ∧ zK h21 a24 = 0 ∧ ∀ h27 : ZH, h27 = (zmk (zsR h21 l0 1 a18) a24 21 8) → (zK h27 l0 = 7) ∧ ∃ a30 b31 : Nat, a30 ≠ 0 ∧ zK h27 a30 = 0 ∧ b31 ≠ 0 ∧ (∀ j, j < 48 → zK h27 (b31 + j) = 0) ∧ (a30 < b31 ∨ b31 + 48 ≤ a30) ∧ ∀ h37 : ZH, h37 = (zmM (zsR h27 l0 2 a24) a30 28 48 b31 20 3) → (zK h37 l0 = 7) ∧ ∃ a40 b41 : Nat, a40 ≠ 0 ∧ zK h37 a40 = 0 ∧ b41 ≠ 0 ∧ (∀ j, j < 9 → zK h37 (b41 + j) = 0) ∧ (a40 < b41 ∨ b41 + 9 ≤ a40) ∧ ∀ h47 : ZH, h47 = (zmM (zsR h37 l0 3 a30) a40 28 9 b41 20 3) → (zK h47 l0 = 7) ∧ ∃ a50 b51 : Nat, a50 ≠ 0 ∧ zK h47 a50 = 0 ∧ b51 ≠ 0 ∧ (∀ j, j < 9 → zK h47 (b51 + j) = 0) ∧ (a50 < b51 ∨ b51 + 9 ≤ a50) ∧ ∀ h57 : ZH, h57 = (zmM (zsR h47 l0 4 a40) a50 28 9 b51 20 3) → (zK h57 l0 = 7) ∧ ∃ a60 : Nat, a60 ≠ 0 ∧ zK h57 a60 = 0 ∧ ∀ h63 : ZH, h63 = (zmk (zsR h57 l0 5 a50) a60 20 8) → (zK h63 l0 = 7) ∧ ∃ a66 : Nat, a66 ≠ 0 ∧ zK h63 a66 = 0 ∧ ∀ h69 : ZH, h69 = (zmk (zsR h63 l0 6 a60) a66 20 6) → (zK h69 l0 = 7) ∧ Zt mX6_init (zPV ψ) 0 0 81 [some (.ref l0), some (.int 0), none] [] (zsR h69 l0 7 a66)) : ZcV mX6_init [.ref l0] h ψ := by
  refine Zc.intro (L := [some (.ref l0), none, none]) (show plainName RX6 = true by decide) rfl (Nat.le_of_ble_eq_true rfl) ?_
  show Zt _ _ 77 312 _ _ _ _
  refine z_aload_n (q := 1) dX6_init_0 rfl rfl rfl ?_
  refine z_objInit (q := 4) dX6_init_1 ow_X6_3 (Nat.le_of_ble_eq_true rfl) (by decide) rfl ?_
  refine z_aload_n (q := 5) dX6_init_4 rfl rfl rfl ?_
  refine z_iconst (q := 6) (v := 3) dX6_init_5 (by decide) rfl ?_
  refine z_iconst (q := 7) (v := 5) dX6_init_6 (by decide) rfl ?_
  obtain ⟨a8, b9, g10, g11, g12, g13, g14, hF⟩ := hF
  refine z_mna (rc := 73) (rs := 294) (a := a8) (g := b9) (ko := 28) (ki := 20) (n := 3) (m := 5) (ty := .int) (q := 11) dX6_init_7 cl_X6_9 ac_20 (by decide) (by decide) (by decide) (by decide) (by decide) (by decide) (by decide) g10 g11 g12 g13 g14 rfl ?_
  refine z_nameH (fun h15 eh16 => ?_)
  have hF := hF h15 eh16
  obtain ⟨g17, hF⟩ := hF
  refine z_putRF (c := 6) (k := 0) (r := (RX6, TX6, 15)) (q := 14) dX6_init_11 rfl (by decide) fw_X6_11 rfl rfl rfl rfl g17 rfl ?_
  refine z_aload_n (q := 15) dX6_init_14 rfl rfl rfl ?_
  refine z_bipush (q := 17) (v := 8) dX6_init_15 (by decide) rfl ?_
  obtain ⟨a18, g19, g20, hF⟩ := hF
  refine z_newa (rc := 72) (rs := 286) (a := a18) (kd := 20) (N := 8) (q := 19) dX6_init_17 rfl (by decide) ac_20 (by decide) (by decide) (by decide) g19 g20 rfl ?_
  refine z_nameH (fun h21 eh22 => ?_)
  have hF := hF h21 eh22
  obtain ⟨g23, hF⟩ := hF
  refine z_putRF (c := 6) (k := 1) (r := (RX6, TX6, 15)) (q := 22) dX6_init_19 rfl (by decide) fw_X6_16 rfl rfl rfl rfl g23 rfl ?_
  refine z_aload_n (q := 23) dX6_init_22 rfl rfl rfl ?_
  refine z_bipush (q := 25) (v := 8) dX6_init_23 (by decide) rfl ?_
  obtain ⟨a24, g25, g26, hF⟩ := hF
  refine z_newa (rc := 71) (rs := 278) (a := a24) (kd := 21) (N := 8) (q := 27) dX6_init_25 rfl (by decide) ac_21 (by decide) (by decide) (by decide) g25 g26 rfl ?_
  refine z_nameH (fun h27 eh28 => ?_)
  have hF := hF h27 eh28
  obtain ⟨g29, hF⟩ := hF
  refine z_putRF (c := 6) (k := 2) (r := (RX6, TX6, 15)) (q := 30) dX6_init_27 rfl (by decide) fw_X6_20 rfl rfl rfl rfl g29 rfl ?_
  refine z_aload_n (q := 31) dX6_init_30 rfl rfl rfl ?_
  refine z_bipush (q := 33) (v := 48) dX6_init_31 (by decide) rfl ?_
  refine z_iconst (q := 34) (v := 3) dX6_init_33 (by decide) rfl ?_
  obtain ⟨a30, b31, g32, g33, g34, g35, g36, hF⟩ := hF
  refine z_mna (rc := 22) (rs := 86) (a := a30) (g := b31) (ko := 28) (ki := 20) (n := 48) (m := 3) (ty := .int) (q := 38) dX6_init_34 cl_X6_9 ac_20 (by decide) (by decide) (by decide) (by decide) (by decide) (by decide) (by decide) g32 g33 g34 g35 g36 rfl ?_
  refine z_nameH (fun h37 eh38 => ?_)
  have hF := hF h37 eh38
  obtain ⟨g39, hF⟩ := hF
  refine z_putRF (c := 6) (k := 3) (r := (RX6, TX6, 15)) (q := 41) dX6_init_38 rfl (by decide) fw_X6_24 rfl rfl rfl rfl g39 rfl ?_
  refine z_aload_n (q := 42) dX6_init_41 rfl rfl rfl ?_
  refine z_bipush (q := 44) (v := 9) dX6_init_42 (by decide) rfl ?_
  refine z_iconst (q := 45) (v := 3) dX6_init_44 (by decide) rfl ?_
  obtain ⟨a40, b41, g42, g43, g44, g45, g46, hF⟩ := hF
  refine z_mna (rc := 12) (rs := 50) (a := a40) (g := b41) (ko := 28) (ki := 20) (n := 9) (m := 3) (ty := .int) (q := 49) dX6_init_45 cl_X6_9 ac_20 (by decide) (by decide) (by decide) (by decide) (by decide) (by decide) (by decide) g42 g43 g44 g45 g46 rfl ?_
  refine z_nameH (fun h47 eh48 => ?_)
  have hF := hF h47 eh48
  obtain ⟨g49, hF⟩ := hF
  refine z_putRF (c := 6) (k := 4) (r := (RX6, TX6, 15)) (q := 52) dX6_init_49 rfl (by decide) fw_X6_27 rfl rfl rfl rfl g49 rfl ?_
  refine z_aload_n (q := 53) dX6_init_52 rfl rfl rfl ?_
  refine z_bipush (q := 55) (v := 9) dX6_init_53 (by decide) rfl ?_
  refine z_iconst (q := 56) (v := 3) dX6_init_55 (by decide) rfl ?_
  obtain ⟨a50, b51, g52, g53, g54, g55, g56, hF⟩ := hF
  refine z_mna (rc := 2) (rs := 14) (a := a50) (g := b51) (ko := 28) (ki := 20) (n := 9) (m := 3) (ty := .int) (q := 60) dX6_init_56 cl_X6_9 ac_20 (by decide) (by decide) (by decide) (by decide) (by decide) (by decide) (by decide) g52 g53 g54 g55 g56 rfl ?_
  refine z_nameH (fun h57 eh58 => ?_)
  have hF := hF h57 eh58
  obtain ⟨g59, hF⟩ := hF
  refine z_putRF (c := 6) (k := 5) (r := (RX6, TX6, 15)) (q := 63) dX6_init_60 rfl (by decide) fw_X6_30 rfl rfl rfl rfl g59 rfl ?_
  refine z_aload_n (q := 64) dX6_init_63 rfl rfl rfl ?_
  refine z_bipush (q := 66) (v := 8) dX6_init_64 (by decide) rfl ?_
  obtain ⟨a60, g61, g62, hF⟩ := hF
  refine z_newa (rc := 1) (rs := 6) (a := a60) (kd := 20) (N := 8) (q := 68) dX6_init_66 rfl (by decide) ac_20 (by decide) (by decide) (by decide) g61 g62 rfl ?_
  refine z_nameH (fun h63 eh64 => ?_)
  have hF := hF h63 eh64
  obtain ⟨g65, hF⟩ := hF
  refine z_putRF (c := 6) (k := 6) (r := (RX6, TX6, 15)) (q := 71) dX6_init_68 rfl (by decide) fw_X6_33 rfl rfl rfl rfl g65 rfl ?_
  refine z_aload_n (q := 72) dX6_init_71 rfl rfl rfl ?_
  refine z_bipush (q := 74) (v := 6) dX6_init_72 (by decide) rfl ?_
  obtain ⟨a66, g67, g68, hF⟩ := hF
  refine z_newa (rc := 0) (rs := 0) (a := a66) (kd := 20) (N := 6) (q := 76) dX6_init_74 rfl (by decide) ac_20 (by decide) (by decide) (by decide) g67 g68 rfl ?_
  refine z_nameH (fun h69 eh70 => ?_)
  have hF := hF h69 eh70
  obtain ⟨g71, hF⟩ := hF
  refine z_putRF (c := 6) (k := 7) (r := (RX6, TX6, 15)) (q := 79) dX6_init_76 rfl (by decide) fw_X6_36 rfl rfl rfl rfl g71 rfl ?_
  refine z_iconst (q := 80) (v := 0) dX6_init_79 (by decide) rfl ?_
  refine z_istore_n (q := 81) (L' := [some (.ref l0), some (.int 0), none]) dX6_init_80 rfl (Nat.le_of_ble_eq_true rfl) rfl rfl rfl ?_
  exact hF
set_option maxRecDepth 100000 in
set_option maxHeartbeats 4000000 in
theorem wX6_prepare_69 {ψ : ZH → Prop} {l0 : Nat} {l1 : Nat} {l3 : Nat} {l4 : Int32} {l5 : Int32} {h : ZH} (hF : ((6 ≤ l5 → Zt mX6_prepare (zPV ψ) 0 0 29 [some (.ref l0), some (.ref l1), none, some (.ref l3), some (.int (l4 + 1)), none] [] h) ∧ (¬ 6 ≤ l5 → (zK h l0 = 7) ∧ ((zR h l0 3) ≠ 0) ∧ (zK h (zR h l0 3) = 28) ∧ (vp_in ((l4 * 6) + l5) (zN h (zR h l0 3))) ∧ ((zR h (zR h l0 3) (Int32.toNatClampNeg ((l4 * 6) + l5))) ≠ 0) ∧ (zK h l1 = 25) ∧ (vp_in l4 (zN h l1)) ∧ ((zR h l1 (Int32.toNatClampNeg l4)) ≠ 0) ∧ (zK h l3 = 20) ∧ (2 < zN h l3) ∧ ZcV mX6_fillCosts [.ref l0, .ref (zR h (zR h l0 3) (Int32.toNatClampNeg ((l4 * 6) + l5))), .ref (zR h l1 (Int32.toNatClampNeg l4)), .int l5, .int (zI h l3 2)] h (fun h11 => Zt mX6_prepare (zPV ψ) 0 0 69 [some (.ref l0), some (.ref l1), none, some (.ref l3), some (.int l4), some (.int (l5 + 1))] [] h11)))) : Zt mX6_prepare (zPV ψ) 0 0 69 [some (.ref l0), some (.ref l1), none, some (.ref l3), some (.int l4), some (.int l5)] [] h := by
  refine z_iload (q := 71) dX6_prepare_69 rfl rfl ?_
  refine z_bipush (q := 73) (v := 6) dX6_prepare_71 (by decide) rfl ?_
  refine z_icmp_ge (t := 108) (q := 76) dX6_prepare_73 (by decide) rfl (fun hc => ?_) (fun hc => ?_)
  · have hF := hF.1 hc
    refine z_iinc (q := 111) (v := (l4 + 1)) (L' := [some (.ref l0), some (.ref l1), none, some (.ref l3), some (.int (l4 + 1)), some (.int l5)]) dX6_prepare_108 rfl rfl (Nat.le_of_ble_eq_true rfl) rfl rfl rfl ?_
    refine z_goto (q := 29) dX6_prepare_111 (by decide) ?_
    refine Zt.drop (i := 5) (L' := [some (.ref l0), some (.ref l1), none, some (.ref l3), some (.int (l4 + 1)), none]) rfl ?_
    exact hF
  · have hF := hF.2 hc
    refine z_aload_n (q := 77) dX6_prepare_76 rfl rfl rfl ?_
    refine z_aload_n (q := 78) dX6_prepare_77 rfl rfl rfl ?_
    obtain ⟨g1, hF⟩ := hF
    obtain ⟨g2, hF⟩ := hF
    refine z_getR (c := 6) (k := 3) (r := (RX6, TX6, 15)) (q := 81) dX6_prepare_78 rfl (by decide) fl_X6_24 rfl g1 g2 rfl ?_
    refine z_iload (q := 83) dX6_prepare_81 rfl rfl ?_
    refine z_bipush (q := 85) (v := 6) dX6_prepare_83 (by decide) rfl ?_
    refine z_imul (q := 86) dX6_prepare_85 rfl ?_
    refine z_iload (q := 88) dX6_prepare_86 rfl rfl ?_
    refine z_iadd (q := 89) dX6_prepare_88 rfl ?_
    obtain ⟨g3, hF⟩ := hF
    obtain ⟨g4, hF⟩ := hF
    obtain ⟨g5, hF⟩ := hF
    refine y_aald (kd := 28) (j := (Int32.toNatClampNeg ((l4 * 6) + l5))) (q := 90) dX6_prepare_89 g3 (by decide) (by decide) rfl g4 rfl g5 rfl ?_
    refine z_aload_n (q := 91) dX6_prepare_90 rfl rfl rfl ?_
    refine z_iload (q := 93) dX6_prepare_91 rfl rfl ?_
    obtain ⟨g6, hF⟩ := hF
    obtain ⟨g7, hF⟩ := hF
    obtain ⟨g8, hF⟩ := hF
    refine y_aald (kd := 25) (j := (Int32.toNatClampNeg l4)) (q := 94) dX6_prepare_93 g6 (by decide) (by decide) rfl g7 rfl g8 rfl ?_
    refine z_iload (q := 96) dX6_prepare_94 rfl rfl ?_
    refine z_aload_n (q := 97) dX6_prepare_96 rfl rfl rfl ?_
    refine z_iconst (q := 98) (v := 2) dX6_prepare_97 (by decide) rfl ?_
    obtain ⟨g9, hF⟩ := hF
    obtain ⟨g10, hF⟩ := hF
    refine y_iald (j := 2) (q := 99) dX6_prepare_98 (Or.inl g9) (zvin (by decide) (by decide) g10) (by decide) rfl ?_
    refine z_callVV (rc := 0) (rs := 0) (b := l0) (av := [.ref (zR h (zR h l0 3) (Int32.toNatClampNeg ((l4 * 6) + l5))), .ref (zR h l1 (Int32.toNatClampNeg l4)), .int l5, .int (zI h l3 2)]) (ci := 6) (r := (RX6, TX6, 15)) (q := 102) hF dX6_prepare_99 ml_X6_59 ok_X6_fillCosts in_X6_fillCosts se_X6_fillCosts rfl rfl g1 rfl (Nat.le_of_ble_eq_true rfl) (by decide) (Nat.le_of_ble_eq_true rfl) rfl rfl rfl rfl (fun h11 hF => ?_)
    refine z_iinc (q := 105) (v := (l5 + 1)) (L' := [some (.ref l0), some (.ref l1), none, some (.ref l3), some (.int l4), some (.int (l5 + 1))]) dX6_prepare_102 rfl rfl (Nat.le_of_ble_eq_true rfl) rfl rfl rfl ?_
    refine z_goto (q := 69) dX6_prepare_105 (by decide) ?_
    exact hF
set_option maxRecDepth 100000 in
set_option maxHeartbeats 4000000 in
theorem wX6_prepare_29 {ψ : ZH → Prop} {l0 : Nat} {l1 : Nat} {l3 : Nat} {l4 : Int32} {h : ZH} (hF : (zK h l0 = 7) ∧ (((zI h l0 8) ≤ l4 → ψ h) ∧ (¬ (zI h l0 8) ≤ l4 → ((zR h l0 1) ≠ 0) ∧ (zK h l1 = 25) ∧ (vp_in l4 (zN h l1)) ∧ ((zR h l1 (Int32.toNatClampNeg l4)) ≠ 0) ∧ (zK h (zR h l1 (Int32.toNatClampNeg l4)) = 5) ∧ (zK h (zR h l0 1) = 20) ∧ (vp_in l4 (zN h (zR h l0 1))) ∧ ((zR h l0 2) ≠ 0) ∧ ∀ h21 : ZH, h21 = (zsI h (zR h l0 1) (Int32.toNatClampNeg l4) (zI h (zR h l1 (Int32.toNatClampNeg l4)) 1)) → (zK h21 (zR h l1 (Int32.toNatClampNeg l4)) = 5) ∧ (zK h21 (zR h l0 2) = 21) ∧ (vp_in l4 (zN h21 (zR h l0 2))) ∧ ((zI h21 (zR h l1 (Int32.toNatClampNeg l4)) 5) = 0 ∨ (zI h21 (zR h l1 (Int32.toNatClampNeg l4)) 5) = 1) ∧ Zt mX6_prepare (zPV ψ) 0 0 69 [some (.ref l0), some (.ref l1), none, some (.ref l3), some (.int l4), some (.int 0)] [] (zsI h21 (zR h l0 2) (Int32.toNatClampNeg l4) (zI h21 (zR h l1 (Int32.toNatClampNeg l4)) 5))))) : Zt mX6_prepare (zPV ψ) 0 0 29 [some (.ref l0), some (.ref l1), none, some (.ref l3), some (.int l4), none] [] h := by
  refine z_iload (q := 31) dX6_prepare_29 rfl rfl ?_
  refine z_aload_n (q := 32) dX6_prepare_31 rfl rfl rfl ?_
  obtain ⟨g12, hF⟩ := hF
  refine z_getI (c := 6) (k := 8) (r := (RX6, TX6, 15)) (q := 35) dX6_prepare_32 rfl (by decide) fl_X6_39 rfl g12 rfl ?_
  refine z_icmp_ge (t := 114) (q := 38) dX6_prepare_35 (by decide) rfl (fun hc => ?_) (fun hc => ?_)
  · have hF := hF.1 hc
    exact z_return dX6_prepare_114 rfl ⟨rfl, hF⟩
  · have hF := hF.2 hc
    refine z_aload_n (q := 39) dX6_prepare_38 rfl rfl rfl ?_
    obtain ⟨g13, hF⟩ := hF
    refine z_getR (c := 6) (k := 1) (r := (RX6, TX6, 15)) (q := 42) dX6_prepare_39 rfl (by decide) fl_X6_16 rfl g12 g13 rfl ?_
    refine z_iload (q := 44) dX6_prepare_42 rfl rfl ?_
    refine z_aload_n (q := 45) dX6_prepare_44 rfl rfl rfl ?_
    refine z_iload (q := 47) dX6_prepare_45 rfl rfl ?_
    obtain ⟨g14, hF⟩ := hF
    obtain ⟨g15, hF⟩ := hF
    obtain ⟨g16, hF⟩ := hF
    refine y_aald (kd := 25) (j := (Int32.toNatClampNeg l4)) (q := 48) dX6_prepare_47 g14 (by decide) (by decide) rfl g15 rfl g16 rfl ?_
    obtain ⟨g17, hF⟩ := hF
    refine z_getI (c := 4) (k := 1) (r := (RX4, TX4, 8)) (q := 51) dX6_prepare_48 rfl (by decide) fl_X6_52 rfl g17 rfl ?_
    obtain ⟨g18, hF⟩ := hF
    obtain ⟨g19, hF⟩ := hF
    refine y_iast (j := (Int32.toNatClampNeg l4)) (q := 52) dX6_prepare_51 g18 g19 rfl rfl ?_
    refine z_aload_n (q := 53) dX6_prepare_52 rfl rfl rfl ?_
    obtain ⟨g20, hF⟩ := hF
    refine z_getR (c := 6) (k := 2) (r := (RX6, TX6, 15)) (q := 56) dX6_prepare_53 rfl (by decide) fl_X6_20 rfl g12 g20 rfl ?_
    refine z_iload (q := 58) dX6_prepare_56 rfl rfl ?_
    refine z_aload_n (q := 59) dX6_prepare_58 rfl rfl rfl ?_
    refine z_iload (q := 61) dX6_prepare_59 rfl rfl ?_
    refine y_aald (kd := 25) (j := (Int32.toNatClampNeg l4)) (q := 62) dX6_prepare_61 g14 (by decide) (by decide) rfl g15 rfl g16 rfl ?_
    refine z_nameH (fun h21 eh22 => ?_)
    have hF := hF h21 eh22
    obtain ⟨g23, hF⟩ := hF
    refine z_getI (c := 4) (k := 5) (r := (RX4, TX4, 8)) (q := 65) dX6_prepare_62 rfl (by decide) fl_X6_56 rfl g23 rfl ?_
    obtain ⟨g24, hF⟩ := hF
    obtain ⟨g25, hF⟩ := hF
    obtain ⟨g26, hF⟩ := hF
    refine y_bast (j := (Int32.toNatClampNeg l4)) (q := 66) dX6_prepare_65 g24 g25 g26 rfl rfl ?_
    refine z_iconst (q := 67) (v := 0) dX6_prepare_66 (by decide) rfl ?_
    refine z_istore (q := 69) (L' := [some (.ref l0), some (.ref l1), none, some (.ref l3), some (.int l4), some (.int 0)]) dX6_prepare_67 (Nat.le_of_ble_eq_true rfl) rfl rfl rfl ?_
    exact hF
set_option maxRecDepth 100000 in
set_option maxHeartbeats 4000000 in
theorem wX6_prepare {ψ : ZH → Prop} {l0 : Nat} {l1 : Nat} {l2 : Int32} {l3 : Nat} {h : ZH} (hF : (zK h l0 = 7) ∧ ∀ h28 : ZH, h28 = (zsI h l0 8 l2) → (zK h28 l3 = 20) ∧ (5 < zN h28 l3) ∧ (zK h28 l0 = 7) ∧ ∀ h33 : ZH, h33 = (zsI h28 l0 9 (zI h28 l3 5)) → (zK h33 l3 = 20) ∧ (3 < zN h33 l3) ∧ (zK h33 l0 = 7) ∧ ∀ h38 : ZH, h38 = (zsI h33 l0 10 (zI h33 l3 3)) → (zK h38 l3 = 20) ∧ (4 < zN h38 l3) ∧ (zK h38 l0 = 7) ∧ Zt mX6_prepare (zPV ψ) 0 0 29 [some (.ref l0), some (.ref l1), none, some (.ref l3), some (.int 0), none] [] (zsI h38 l0 11 (zI h38 l3 4))) : ZcV mX6_prepare [.ref l0, .ref l1, .int l2, .ref l3] h ψ := by
  refine Zc.intro (L := [some (.ref l0), some (.ref l1), some (.int l2), some (.ref l3), none, none]) (show plainName RX6 = true by decide) rfl (Nat.le_of_ble_eq_true rfl) ?_
  show Zt _ _ 0 0 _ _ _ _
  refine z_aload_n (q := 1) dX6_prepare_0 rfl rfl rfl ?_
  refine z_iload_n (q := 2) dX6_prepare_1 rfl rfl rfl ?_
  obtain ⟨g27, hF⟩ := hF
  refine z_putI (c := 6) (k := 8) (r := (RX6, TX6, 15)) (q := 5) dX6_prepare_2 rfl (by decide) fl_X6_39 rfl rfl g27 rfl ?_
  refine z_aload_n (q := 6) dX6_prepare_5 rfl rfl rfl ?_
  refine z_aload_n (q := 7) dX6_prepare_6 rfl rfl rfl ?_
  refine z_iconst (q := 8) (v := 5) dX6_prepare_7 (by decide) rfl ?_
  refine z_nameH (fun h28 eh29 => ?_)
  have hF := hF h28 eh29
  obtain ⟨g30, hF⟩ := hF
  obtain ⟨g31, hF⟩ := hF
  refine y_iald (j := 5) (q := 9) dX6_prepare_8 (Or.inl g30) (zvin (by decide) (by decide) g31) (by decide) rfl ?_
  obtain ⟨g32, hF⟩ := hF
  refine z_putI (c := 6) (k := 9) (r := (RX6, TX6, 15)) (q := 12) dX6_prepare_9 rfl (by decide) fl_X6_43 rfl rfl g32 rfl ?_
  refine z_aload_n (q := 13) dX6_prepare_12 rfl rfl rfl ?_
  refine z_aload_n (q := 14) dX6_prepare_13 rfl rfl rfl ?_
  refine z_iconst (q := 15) (v := 3) dX6_prepare_14 (by decide) rfl ?_
  refine z_nameH (fun h33 eh34 => ?_)
  have hF := hF h33 eh34
  obtain ⟨g35, hF⟩ := hF
  obtain ⟨g36, hF⟩ := hF
  refine y_iald (j := 3) (q := 16) dX6_prepare_15 (Or.inl g35) (zvin (by decide) (by decide) g36) (by decide) rfl ?_
  obtain ⟨g37, hF⟩ := hF
  refine z_putI (c := 6) (k := 10) (r := (RX6, TX6, 15)) (q := 19) dX6_prepare_16 rfl (by decide) fl_X6_46 rfl rfl g37 rfl ?_
  refine z_aload_n (q := 20) dX6_prepare_19 rfl rfl rfl ?_
  refine z_aload_n (q := 21) dX6_prepare_20 rfl rfl rfl ?_
  refine z_iconst (q := 22) (v := 4) dX6_prepare_21 (by decide) rfl ?_
  refine z_nameH (fun h38 eh39 => ?_)
  have hF := hF h38 eh39
  obtain ⟨g40, hF⟩ := hF
  obtain ⟨g41, hF⟩ := hF
  refine y_iald (j := 4) (q := 23) dX6_prepare_22 (Or.inl g40) (zvin (by decide) (by decide) g41) (by decide) rfl ?_
  obtain ⟨g42, hF⟩ := hF
  refine z_putI (c := 6) (k := 11) (r := (RX6, TX6, 15)) (q := 26) dX6_prepare_23 rfl (by decide) fl_X6_49 rfl rfl g42 rfl ?_
  refine z_iconst (q := 27) (v := 0) dX6_prepare_26 (by decide) rfl ?_
  refine z_istore (q := 29) (L' := [some (.ref l0), some (.ref l1), some (.int l2), some (.ref l3), some (.int 0), none]) dX6_prepare_27 (Nat.le_of_ble_eq_true rfl) rfl rfl rfl ?_
  refine Zt.drop (i := 2) (L' := [some (.ref l0), some (.ref l1), none, some (.ref l3), some (.int 0), none]) rfl ?_
  exact hF
set_option maxRecDepth 100000 in
set_option maxHeartbeats 4000000 in
theorem wX6_fillCosts_17 {ψ : ZH → Prop} {l0 : Nat} {l1 : Nat} {l2 : Nat} {l3 : Int32} {l4 : Int32} {l5 : Int32} {l6 : Int32} {h : ZH} (hF : (zK h l0 = 7) ∧ (((zI h l0 9) ≤ l6 → Zt mX6_fillCosts (zPV ψ) 0 0 3 [some (.ref l0), some (.ref l1), some (.ref l2), some (.int l3), some (.int l4), some (.int (l5 + 1)), none] [] h) ∧ (¬ (zI h l0 9) ≤ l6 → (zK h l1 = 20) ∧ (vp_in l5 (zN h l1)) ∧ ((l3 ≤ l6 → Zt mX6_fillCosts (zPV ψ) 0 0 17 [some (.ref l0), some (.ref l1), some (.ref l2), some (.int l3), some (.int l4), some (.int l5), some (.int (l6 + 1))] [] (zsI h l1 (Int32.toNatClampNeg l5) ((zI h l1 (Int32.toNatClampNeg l5)) + l4))) ∧ (¬ l3 ≤ l6 → (zK h l2 = 5) ∧ ((zR h l0 0) ≠ 0) ∧ (zK h (zR h l0 0) = 28) ∧ (vp_in l5 (zN h (zR h l0 0))) ∧ ((zR h (zR h l0 0) (Int32.toNatClampNeg l5)) ≠ 0) ∧ (zK h (zR h (zR h l0 0) (Int32.toNatClampNeg l5)) = 20) ∧ (vp_in l6 (zN h (zR h (zR h l0 0) (Int32.toNatClampNeg l5)))) ∧ Zt mX6_fillCosts (zPV ψ) 0 0 17 [some (.ref l0), some (.ref l1), some (.ref l2), some (.int l3), some (.int l4), some (.int l5), some (.int (l6 + 1))] [] (zsI h l1 (Int32.toNatClampNeg l5) ((zI h l1 (Int32.toNatClampNeg l5)) + ((zI h l2 1) * (if 0 < ((zI h l2 2) - (zI h (zR h (zR h l0 0) (Int32.toNatClampNeg l5)) (Int32.toNatClampNeg l6))) then ((zI h l2 2) - (zI h (zR h (zR h l0 0) (Int32.toNatClampNeg l5)) (Int32.toNatClampNeg l6))) else 0))))))))) : Zt mX6_fillCosts (zPV ψ) 0 0 17 [some (.ref l0), some (.ref l1), some (.ref l2), some (.int l3), some (.int l4), some (.int l5), some (.int l6)] [] h := by
  refine z_iload (q := 19) dX6_fillCosts_17 rfl rfl ?_
  refine z_aload_n (q := 20) dX6_fillCosts_19 rfl rfl rfl ?_
  obtain ⟨g1, hF⟩ := hF
  refine z_getI (c := 6) (k := 9) (r := (RX6, TX6, 15)) (q := 23) dX6_fillCosts_20 rfl (by decide) fl_X6_43 rfl g1 rfl ?_
  refine z_icmp_ge (t := 74) (q := 26) dX6_fillCosts_23 (by decide) rfl (fun hc => ?_) (fun hc => ?_)
  · have hF := hF.1 hc
    refine z_iinc (q := 77) (v := (l5 + 1)) (L' := [some (.ref l0), some (.ref l1), some (.ref l2), some (.int l3), some (.int l4), some (.int (l5 + 1)), some (.int l6)]) dX6_fillCosts_74 rfl rfl (Nat.le_of_ble_eq_true rfl) rfl rfl rfl ?_
    refine z_goto (q := 3) dX6_fillCosts_77 (by decide) ?_
    refine Zt.drop (i := 6) (L' := [some (.ref l0), some (.ref l1), some (.ref l2), some (.int l3), some (.int l4), some (.int (l5 + 1)), none]) rfl ?_
    exact hF
  · have hF := hF.2 hc
    refine z_aload_n (q := 27) dX6_fillCosts_26 rfl rfl rfl ?_
    refine z_iload (q := 29) dX6_fillCosts_27 rfl rfl ?_
    refine z_dup2 (q := 30) dX6_fillCosts_29 rfl rfl rfl ?_
    obtain ⟨g2, hF⟩ := hF
    obtain ⟨g3, hF⟩ := hF
    refine y_iald (j := (Int32.toNatClampNeg l5)) (q := 31) dX6_fillCosts_30 (Or.inl g2) g3 rfl rfl ?_
    refine z_iload (q := 33) dX6_fillCosts_31 rfl rfl ?_
    refine z_iload_n (q := 34) dX6_fillCosts_33 rfl rfl rfl ?_
    refine z_icmp_ge (t := 64) (q := 37) dX6_fillCosts_34 (by decide) rfl (fun hc => ?_) (fun hc => ?_)
    · have hF := hF.1 hc
      refine z_iload (q := 66) dX6_fillCosts_64 rfl rfl ?_
      refine z_iadd (q := 67) dX6_fillCosts_66 rfl ?_
      refine y_iast (j := (Int32.toNatClampNeg l5)) (q := 68) dX6_fillCosts_67 g2 g3 rfl rfl ?_
      refine z_iinc (q := 71) (v := (l6 + 1)) (L' := [some (.ref l0), some (.ref l1), some (.ref l2), some (.int l3), some (.int l4), some (.int l5), some (.int (l6 + 1))]) dX6_fillCosts_68 rfl rfl (Nat.le_of_ble_eq_true rfl) rfl rfl rfl ?_
      refine z_goto (q := 17) dX6_fillCosts_71 (by decide) ?_
      exact hF
    · have hF := hF.2 hc
      refine z_aload_n (q := 38) dX6_fillCosts_37 rfl rfl rfl ?_
      obtain ⟨g4, hF⟩ := hF
      refine z_getI (c := 4) (k := 1) (r := (RX4, TX4, 8)) (q := 41) dX6_fillCosts_38 rfl (by decide) fl_X6_52 rfl g4 rfl ?_
      refine z_iconst (q := 42) (v := 0) dX6_fillCosts_41 (by decide) rfl ?_
      refine z_aload_n (q := 43) dX6_fillCosts_42 rfl rfl rfl ?_
      refine z_getI (c := 4) (k := 2) (r := (RX4, TX4, 8)) (q := 46) dX6_fillCosts_43 rfl (by decide) fl_X6_63 rfl g4 rfl ?_
      refine z_aload_n (q := 47) dX6_fillCosts_46 rfl rfl rfl ?_
      obtain ⟨g5, hF⟩ := hF
      refine z_getR (c := 6) (k := 0) (r := (RX6, TX6, 15)) (q := 50) dX6_fillCosts_47 rfl (by decide) fl_X6_11 rfl g1 g5 rfl ?_
      refine z_iload (q := 52) dX6_fillCosts_50 rfl rfl ?_
      obtain ⟨g6, hF⟩ := hF
      obtain ⟨g7, hF⟩ := hF
      obtain ⟨g8, hF⟩ := hF
      refine y_aald (kd := 28) (j := (Int32.toNatClampNeg l5)) (q := 53) dX6_fillCosts_52 g6 (by decide) (by decide) rfl g7 rfl g8 rfl ?_
      refine z_iload (q := 55) dX6_fillCosts_53 rfl rfl ?_
      obtain ⟨g9, hF⟩ := hF
      obtain ⟨g10, hF⟩ := hF
      refine y_iald (j := (Int32.toNatClampNeg l6)) (q := 56) dX6_fillCosts_55 (Or.inl g9) g10 rfl rfl ?_
      refine z_isub (q := 57) dX6_fillCosts_56 rfl ?_
      refine z_mmax (q := 60) dX6_fillCosts_57 mw_X6_66 (Nat.le_of_ble_eq_true rfl) (by decide) rfl ?_
      refine z_imul (q := 61) dX6_fillCosts_60 rfl ?_
      refine z_goto (q := 66) dX6_fillCosts_61 (by decide) ?_
      refine z_iadd (q := 67) dX6_fillCosts_66 rfl ?_
      refine y_iast (j := (Int32.toNatClampNeg l5)) (q := 68) dX6_fillCosts_67 g2 g3 rfl rfl ?_
      refine z_iinc (q := 71) (v := (l6 + 1)) (L' := [some (.ref l0), some (.ref l1), some (.ref l2), some (.int l3), some (.int l4), some (.int l5), some (.int (l6 + 1))]) dX6_fillCosts_68 rfl rfl (Nat.le_of_ble_eq_true rfl) rfl rfl rfl ?_
      refine z_goto (q := 17) dX6_fillCosts_71 (by decide) ?_
      exact hF
set_option maxRecDepth 100000 in
set_option maxHeartbeats 4000000 in
theorem wX6_fillCosts_3 {ψ : ZH → Prop} {l0 : Nat} {l1 : Nat} {l2 : Nat} {l3 : Int32} {l4 : Int32} {l5 : Int32} {h : ZH} (hF : ((3 ≤ l5 → ψ h) ∧ (¬ 3 ≤ l5 → (zK h l1 = 20) ∧ (vp_in l5 (zN h l1)) ∧ Zt mX6_fillCosts (zPV ψ) 0 0 17 [some (.ref l0), some (.ref l1), some (.ref l2), some (.int l3), some (.int l4), some (.int l5), some (.int 0)] [] (zsI h l1 (Int32.toNatClampNeg l5) 0)))) : Zt mX6_fillCosts (zPV ψ) 0 0 3 [some (.ref l0), some (.ref l1), some (.ref l2), some (.int l3), some (.int l4), some (.int l5), none] [] h := by
  refine z_iload (q := 5) dX6_fillCosts_3 rfl rfl ?_
  refine z_iconst (q := 6) (v := 3) dX6_fillCosts_5 (by decide) rfl ?_
  refine z_icmp_ge (t := 80) (q := 9) dX6_fillCosts_6 (by decide) rfl (fun hc => ?_) (fun hc => ?_)
  · have hF := hF.1 hc
    exact z_return dX6_fillCosts_80 rfl ⟨rfl, hF⟩
  · have hF := hF.2 hc
    refine z_aload_n (q := 10) dX6_fillCosts_9 rfl rfl rfl ?_
    refine z_iload (q := 12) dX6_fillCosts_10 rfl rfl ?_
    refine z_iconst (q := 13) (v := 0) dX6_fillCosts_12 (by decide) rfl ?_
    obtain ⟨g11, hF⟩ := hF
    obtain ⟨g12, hF⟩ := hF
    refine y_iast (j := (Int32.toNatClampNeg l5)) (q := 14) dX6_fillCosts_13 g11 g12 rfl rfl ?_
    refine z_iconst (q := 15) (v := 0) dX6_fillCosts_14 (by decide) rfl ?_
    refine z_istore (q := 17) (L' := [some (.ref l0), some (.ref l1), some (.ref l2), some (.int l3), some (.int l4), some (.int l5), some (.int 0)]) dX6_fillCosts_15 (Nat.le_of_ble_eq_true rfl) rfl rfl rfl ?_
    exact hF
set_option maxRecDepth 100000 in
set_option maxHeartbeats 4000000 in
theorem wX6_fillCosts {ψ : ZH → Prop} {l0 : Nat} {l1 : Nat} {l2 : Nat} {l3 : Int32} {l4 : Int32} {h : ZH} (hF : Zt mX6_fillCosts (zPV ψ) 0 0 3 [some (.ref l0), some (.ref l1), some (.ref l2), some (.int l3), some (.int l4), some (.int 0), none] [] h) : ZcV mX6_fillCosts [.ref l0, .ref l1, .ref l2, .int l3, .int l4] h ψ := by
  refine Zc.intro (L := [some (.ref l0), some (.ref l1), some (.ref l2), some (.int l3), some (.int l4), none, none]) (show plainName RX6 = true by decide) rfl (Nat.le_of_ble_eq_true rfl) ?_
  show Zt _ _ 0 0 _ _ _ _
  refine z_iconst (q := 1) (v := 0) dX6_fillCosts_0 (by decide) rfl ?_
  refine z_istore (q := 3) (L' := [some (.ref l0), some (.ref l1), some (.ref l2), some (.int l3), some (.int l4), some (.int 0), none]) dX6_fillCosts_1 (Nat.le_of_ble_eq_true rfl) rfl rfl rfl ?_
  exact hF
set_option maxRecDepth 100000 in
set_option maxHeartbeats 4000000 in
theorem wX6_readDigits_9 {ψ : Int32 → ZH → Prop} {l0 : Nat} {l2 : Int32} {l3 : Int32} {h : ZH} (hF : ((l3 < 0 → ((¬ l2 = 0 → ψ 0 h) ∧ (l2 = 0 → ψ 1 h))) ∧ (¬ l3 < 0 → (zK h l0 = 7) ∧ ((zR h l0 6) ≠ 0) ∧ (zK h (zR h l0 6) = 20) ∧ (vp_in l3 (zN h (zR h l0 6))) ∧ ∀ h5 : ZH, h5 = (zsI h (zR h l0 6) (Int32.toNatClampNeg l3) (l2 - l2 / 10 * 10)) → (zK h5 (zR h l0 6) = 20) ∧ (vp_in l3 (zN h5 (zR h l0 6))) ∧ (((zI h5 (zR h l0 6) (Int32.toNatClampNeg l3)) < 0 → ψ 0 h5) ∧ (¬ (zI h5 (zR h l0 6) (Int32.toNatClampNeg l3)) < 0 → (zK h5 l0 = 7) ∧ ((zR h5 l0 6) ≠ 0) ∧ (zK h5 (zR h5 l0 6) = 20) ∧ (vp_in l3 (zN h5 (zR h5 l0 6))) ∧ ((5 < (zI h5 (zR h5 l0 6) (Int32.toNatClampNeg l3)) → ψ 0 h5) ∧ (¬ 5 < (zI h5 (zR h5 l0 6) (Int32.toNatClampNeg l3)) → ((zR h5 l0 2) ≠ 0) ∧ (zK h5 (zR h5 l0 2) = 21) ∧ (vp_in l3 (zN h5 (zR h5 l0 2))) ∧ ((¬ (zI h5 (zR h5 l0 2) (Int32.toNatClampNeg l3)) = 0 → Zt mX6_readDigits (zPI ψ) 0 0 9 [some (.ref l0), none, some (.int (l2 / 10)), some (.int (l3 + (-1)))] [] h5) ∧ ((zI h5 (zR h5 l0 2) (Int32.toNatClampNeg l3)) = 0 → (((zI h5 (zR h5 l0 6) (Int32.toNatClampNeg l3)) = 0 → Zt mX6_readDigits (zPI ψ) 0 0 9 [some (.ref l0), none, some (.int (l2 / 10)), some (.int (l3 + (-1)))] [] h5) ∧ (¬ (zI h5 (zR h5 l0 6) (Int32.toNatClampNeg l3)) = 0 → ψ 0 h5))))))))))) : Zt mX6_readDigits (zPI ψ) 0 0 9 [some (.ref l0), none, some (.int l2), some (.int l3)] [] h := by
  refine z_iload_n (q := 10) dX6_readDigits_9 rfl rfl rfl ?_
  refine z_if_lt (t := 73) (q := 13) dX6_readDigits_10 (by decide) rfl (fun hc => ?_) (fun hc => ?_)
  · have hF := hF.1 hc
    refine z_iload_n (q := 74) dX6_readDigits_73 rfl rfl rfl ?_
    refine z_if_ne (t := 81) (q := 77) dX6_readDigits_74 (by decide) rfl (fun hc => ?_) (fun hc => ?_)
    · have hF := hF.1 hc
      refine z_iconst (q := 82) (v := 0) dX6_readDigits_81 (by decide) rfl ?_
      exact z_zreturn dX6_readDigits_82 rfl (by decide) ⟨_, rfl, hF⟩
    · have hF := hF.2 hc
      refine z_iconst (q := 78) (v := 1) dX6_readDigits_77 (by decide) rfl ?_
      refine z_goto (q := 82) dX6_readDigits_78 (by decide) ?_
      exact z_zreturn dX6_readDigits_82 rfl (by decide) ⟨_, rfl, hF⟩
  · have hF := hF.2 hc
    refine z_aload_n (q := 14) dX6_readDigits_13 rfl rfl rfl ?_
    obtain ⟨g1, hF⟩ := hF
    obtain ⟨g2, hF⟩ := hF
    refine z_getR (c := 6) (k := 6) (r := (RX6, TX6, 15)) (q := 17) dX6_readDigits_14 rfl (by decide) fl_X6_33 rfl g1 g2 rfl ?_
    refine z_iload_n (q := 18) dX6_readDigits_17 rfl rfl rfl ?_
    refine z_iload_n (q := 19) dX6_readDigits_18 rfl rfl rfl ?_
    refine z_bipush (q := 21) (v := 10) dX6_readDigits_19 (by decide) rfl ?_
    refine z_irem (q := 22) dX6_readDigits_21 (by decide) rfl ?_
    obtain ⟨g3, hF⟩ := hF
    obtain ⟨g4, hF⟩ := hF
    refine y_iast (j := (Int32.toNatClampNeg l3)) (q := 23) dX6_readDigits_22 g3 g4 rfl rfl ?_
    refine z_iload_n (q := 24) dX6_readDigits_23 rfl rfl rfl ?_
    refine z_bipush (q := 26) (v := 10) dX6_readDigits_24 (by decide) rfl ?_
    refine z_idiv (q := 27) dX6_readDigits_26 (by decide) rfl ?_
    refine z_istore_n (q := 28) (L' := [some (.ref l0), none, some (.int (l2 / 10)), some (.int l3)]) dX6_readDigits_27 rfl (Nat.le_of_ble_eq_true rfl) rfl rfl rfl ?_
    refine z_aload_n (q := 29) dX6_readDigits_28 rfl rfl rfl ?_
    refine z_getR (c := 6) (k := 6) (r := (RX6, TX6, 15)) (q := 32) dX6_readDigits_29 rfl (by decide) fl_X6_33 rfl g1 g2 rfl ?_
    refine z_iload_n (q := 33) dX6_readDigits_32 rfl rfl rfl ?_
    refine z_nameH (fun h5 eh6 => ?_)
    have hF := hF h5 eh6
    obtain ⟨g7, hF⟩ := hF
    obtain ⟨g8, hF⟩ := hF
    refine y_iald (j := (Int32.toNatClampNeg l3)) (q := 34) dX6_readDigits_33 (Or.inl g7) g8 rfl rfl ?_
    refine z_if_lt (t := 65) (q := 37) dX6_readDigits_34 (by decide) rfl (fun hc => ?_) (fun hc => ?_)
    · have hF := hF.1 hc
      refine z_iconst (q := 66) (v := 0) dX6_readDigits_65 (by decide) rfl ?_
      exact z_zreturn dX6_readDigits_66 rfl (by decide) ⟨_, rfl, hF⟩
    · have hF := hF.2 hc
      refine z_aload_n (q := 38) dX6_readDigits_37 rfl rfl rfl ?_
      obtain ⟨g9, hF⟩ := hF
      obtain ⟨g10, hF⟩ := hF
      refine z_getR (c := 6) (k := 6) (r := (RX6, TX6, 15)) (q := 41) dX6_readDigits_38 rfl (by decide) fl_X6_33 rfl g9 g10 rfl ?_
      refine z_iload_n (q := 42) dX6_readDigits_41 rfl rfl rfl ?_
      obtain ⟨g11, hF⟩ := hF
      obtain ⟨g12, hF⟩ := hF
      refine y_iald (j := (Int32.toNatClampNeg l3)) (q := 43) dX6_readDigits_42 (Or.inl g11) g12 rfl rfl ?_
      refine z_iconst (q := 44) (v := 5) dX6_readDigits_43 (by decide) rfl ?_
      refine z_icmp_gt (t := 65) (q := 47) dX6_readDigits_44 (by decide) rfl (fun hc => ?_) (fun hc => ?_)
      · have hF := hF.1 hc
        refine z_iconst (q := 66) (v := 0) dX6_readDigits_65 (by decide) rfl ?_
        exact z_zreturn dX6_readDigits_66 rfl (by decide) ⟨_, rfl, hF⟩
      · have hF := hF.2 hc
        refine z_aload_n (q := 48) dX6_readDigits_47 rfl rfl rfl ?_
        obtain ⟨g13, hF⟩ := hF
        refine z_getR (c := 6) (k := 2) (r := (RX6, TX6, 15)) (q := 51) dX6_readDigits_48 rfl (by decide) fl_X6_20 rfl g9 g13 rfl ?_
        refine z_iload_n (q := 52) dX6_readDigits_51 rfl rfl rfl ?_
        obtain ⟨g14, hF⟩ := hF
        obtain ⟨g15, hF⟩ := hF
        refine y_bald (j := (Int32.toNatClampNeg l3)) (q := 53) dX6_readDigits_52 g14 g15 rfl rfl ?_
        refine z_if_ne (t := 67) (q := 56) dX6_readDigits_53 (by decide) rfl (fun hc => ?_) (fun hc => ?_)
        · have hF := hF.1 hc
          refine z_iinc (q := 70) (v := (l3 + (-1))) (L' := [some (.ref l0), none, some (.int (l2 / 10)), some (.int (l3 + (-1)))]) dX6_readDigits_67 rfl rfl (Nat.le_of_ble_eq_true rfl) rfl rfl rfl ?_
          refine z_goto (q := 9) dX6_readDigits_70 (by decide) ?_
          exact hF
        · have hF := hF.2 hc
          refine z_aload_n (q := 57) dX6_readDigits_56 rfl rfl rfl ?_
          refine z_getR (c := 6) (k := 6) (r := (RX6, TX6, 15)) (q := 60) dX6_readDigits_57 rfl (by decide) fl_X6_33 rfl g9 g10 rfl ?_
          refine z_iload_n (q := 61) dX6_readDigits_60 rfl rfl rfl ?_
          refine y_iald (j := (Int32.toNatClampNeg l3)) (q := 62) dX6_readDigits_61 (Or.inl g11) g12 rfl rfl ?_
          refine z_if_eq (t := 67) (q := 65) dX6_readDigits_62 (by decide) rfl (fun hc => ?_) (fun hc => ?_)
          · have hF := hF.1 hc
            refine z_iinc (q := 70) (v := (l3 + (-1))) (L' := [some (.ref l0), none, some (.int (l2 / 10)), some (.int (l3 + (-1)))]) dX6_readDigits_67 rfl rfl (Nat.le_of_ble_eq_true rfl) rfl rfl rfl ?_
            refine z_goto (q := 9) dX6_readDigits_70 (by decide) ?_
            exact hF
          · have hF := hF.2 hc
            refine z_iconst (q := 66) (v := 0) dX6_readDigits_65 (by decide) rfl ?_
            exact z_zreturn dX6_readDigits_66 rfl (by decide) ⟨_, rfl, hF⟩
set_option maxRecDepth 100000 in
set_option maxHeartbeats 4000000 in
theorem wX6_readDigits {ψ : Int32 → ZH → Prop} {l0 : Nat} {l1 : Int32} {h : ZH} (hF : (zK h l0 = 7) ∧ Zt mX6_readDigits (zPI ψ) 0 0 9 [some (.ref l0), none, some (.int l1), some (.int ((zI h l0 8) - 1))] [] h) : ZcI mX6_readDigits [.ref l0, .int l1] h ψ := by
  refine Zc.intro (L := [some (.ref l0), some (.int l1), none, none]) (show plainName RX6 = true by decide) rfl (Nat.le_of_ble_eq_true rfl) ?_
  show Zt _ _ 0 0 _ _ _ _
  refine z_iload_n (q := 1) dX6_readDigits_0 rfl rfl rfl ?_
  refine z_istore_n (q := 2) (L' := [some (.ref l0), some (.int l1), some (.int l1), none]) dX6_readDigits_1 rfl (Nat.le_of_ble_eq_true rfl) rfl rfl rfl ?_
  refine z_aload_n (q := 3) dX6_readDigits_2 rfl rfl rfl ?_
  obtain ⟨g16, hF⟩ := hF
  refine z_getI (c := 6) (k := 8) (r := (RX6, TX6, 15)) (q := 6) dX6_readDigits_3 rfl (by decide) fl_X6_39 rfl g16 rfl ?_
  refine z_iconst (q := 7) (v := 1) dX6_readDigits_6 (by decide) rfl ?_
  refine z_isub (q := 8) dX6_readDigits_7 rfl ?_
  refine z_istore_n (q := 9) (L' := [some (.ref l0), some (.int l1), some (.int l1), some (.int ((zI h l0 8) - 1))]) dX6_readDigits_8 rfl (Nat.le_of_ble_eq_true rfl) rfl rfl rfl ?_
  refine Zt.drop (i := 1) (L' := [some (.ref l0), none, some (.int l1), some (.int ((zI h l0 8) - 1))]) rfl ?_
  exact hF
set_option maxRecDepth 100000 in
set_option maxHeartbeats 4000000 in
theorem wX6_isKept_6 {ψ : Int32 → ZH → Prop} {l0 : Nat} {l1 : Int32} {h : ZH} (hF : (zK h l0 = 7) ∧ (((zI h l0 8) ≤ l1 → (((zI h l0 12) < (zI h l0 10) → ψ 0 h) ∧ (¬ (zI h l0 12) < (zI h l0 10) → ψ 1 h))) ∧ (¬ (zI h l0 8) ≤ l1 → ((zR h l0 6) ≠ 0) ∧ (zK h (zR h l0 6) = 20) ∧ (vp_in l1 (zN h (zR h l0 6))) ∧ ZcI mX6_mayClose [.ref l0, .int l1, .int (zI h (zR h l0 6) (Int32.toNatClampNeg l1))] h (fun x6 h5 => ((¬ x6 = 0 → (zK h5 l0 = 7) ∧ ((zR h5 l0 6) ≠ 0) ∧ (zK h5 (zR h5 l0 6) = 20) ∧ (vp_in l1 (zN h5 (zR h5 l0 6))) ∧ ZcV mX6_closeFrom [.ref l0, .int l1, .int (zI h5 (zR h5 l0 6) (Int32.toNatClampNeg l1))] h5 (fun h11 => Zt mX6_isKept (zPI ψ) 0 0 6 [some (.ref l0), some (.int (l1 + 1))] [] h11)) ∧ (x6 = 0 → ψ 0 h5)))))) : Zt mX6_isKept (zPI ψ) 0 0 6 [some (.ref l0), some (.int l1)] [] h := by
  refine z_iload_n (q := 7) dX6_isKept_6 rfl rfl rfl ?_
  refine z_aload_n (q := 8) dX6_isKept_7 rfl rfl rfl ?_
  obtain ⟨g1, hF⟩ := hF
  refine z_getI (c := 6) (k := 8) (r := (RX6, TX6, 15)) (q := 11) dX6_isKept_8 rfl (by decide) fl_X6_39 rfl g1 rfl ?_
  refine z_icmp_ge (t := 47) (q := 14) dX6_isKept_11 (by decide) rfl (fun hc => ?_) (fun hc => ?_)
  · have hF := hF.1 hc
    refine z_aload_n (q := 48) dX6_isKept_47 rfl rfl rfl ?_
    refine z_getI (c := 6) (k := 12) (r := (RX6, TX6, 15)) (q := 51) dX6_isKept_48 rfl (by decide) fl_X6_83 rfl g1 rfl ?_
    refine z_aload_n (q := 52) dX6_isKept_51 rfl rfl rfl ?_
    refine z_getI (c := 6) (k := 10) (r := (RX6, TX6, 15)) (q := 55) dX6_isKept_52 rfl (by decide) fl_X6_46 rfl g1 rfl ?_
    refine z_icmp_lt (t := 62) (q := 58) dX6_isKept_55 (by decide) rfl (fun hc => ?_) (fun hc => ?_)
    · have hF := hF.1 hc
      refine z_iconst (q := 63) (v := 0) dX6_isKept_62 (by decide) rfl ?_
      exact z_zreturn dX6_isKept_63 rfl (by decide) ⟨_, rfl, hF⟩
    · have hF := hF.2 hc
      refine z_iconst (q := 59) (v := 1) dX6_isKept_58 (by decide) rfl ?_
      refine z_goto (q := 63) dX6_isKept_59 (by decide) ?_
      exact z_zreturn dX6_isKept_63 rfl (by decide) ⟨_, rfl, hF⟩
  · have hF := hF.2 hc
    refine z_aload_n (q := 15) dX6_isKept_14 rfl rfl rfl ?_
    refine z_iload_n (q := 16) dX6_isKept_15 rfl rfl rfl ?_
    refine z_aload_n (q := 17) dX6_isKept_16 rfl rfl rfl ?_
    obtain ⟨g2, hF⟩ := hF
    refine z_getR (c := 6) (k := 6) (r := (RX6, TX6, 15)) (q := 20) dX6_isKept_17 rfl (by decide) fl_X6_33 rfl g1 g2 rfl ?_
    refine z_iload_n (q := 21) dX6_isKept_20 rfl rfl rfl ?_
    obtain ⟨g3, hF⟩ := hF
    obtain ⟨g4, hF⟩ := hF
    refine y_iald (j := (Int32.toNatClampNeg l1)) (q := 22) dX6_isKept_21 (Or.inl g3) g4 rfl rfl ?_
    refine z_callVI (rc := 0) (rs := 0) (b := l0) (av := [.int l1, .int (zI h (zR h l0 6) (Int32.toNatClampNeg l1))]) (ci := 6) (r := (RX6, TX6, 15)) (q := 25) hF dX6_isKept_22 ml_X6_75 ok_X6_mayClose in_X6_mayClose se_X6_mayClose rfl rfl g1 rfl (Nat.le_of_ble_eq_true rfl) (by decide) (Nat.le_of_ble_eq_true rfl) rfl rfl rfl rfl (fun x6 h5 hF => ?_)
    refine z_if_ne (t := 30) (q := 28) dX6_isKept_25 (by decide) rfl (fun hc => ?_) (fun hc => ?_)
    · have hF := hF.1 hc
      refine z_aload_n (q := 31) dX6_isKept_30 rfl rfl rfl ?_
      refine z_iload_n (q := 32) dX6_isKept_31 rfl rfl rfl ?_
      refine z_aload_n (q := 33) dX6_isKept_32 rfl rfl rfl ?_
      obtain ⟨g7, hF⟩ := hF
      obtain ⟨g8, hF⟩ := hF
      refine z_getR (c := 6) (k := 6) (r := (RX6, TX6, 15)) (q := 36) dX6_isKept_33 rfl (by decide) fl_X6_33 rfl g7 g8 rfl ?_
      refine z_iload_n (q := 37) dX6_isKept_36 rfl rfl rfl ?_
      obtain ⟨g9, hF⟩ := hF
      obtain ⟨g10, hF⟩ := hF
      refine y_iald (j := (Int32.toNatClampNeg l1)) (q := 38) dX6_isKept_37 (Or.inl g9) g10 rfl rfl ?_
      refine z_callVV (rc := 0) (rs := 0) (b := l0) (av := [.int l1, .int (zI h5 (zR h5 l0 6) (Int32.toNatClampNeg l1))]) (ci := 6) (r := (RX6, TX6, 15)) (q := 41) hF dX6_isKept_38 ml_X6_79 ok_X6_closeFrom in_X6_closeFrom se_X6_closeFrom rfl rfl g7 rfl (Nat.le_of_ble_eq_true rfl) (by decide) (Nat.le_of_ble_eq_true rfl) rfl rfl rfl rfl (fun h11 hF => ?_)
      refine z_iinc (q := 44) (v := (l1 + 1)) (L' := [some (.ref l0), some (.int (l1 + 1))]) dX6_isKept_41 rfl rfl (Nat.le_of_ble_eq_true rfl) rfl rfl rfl ?_
      refine z_goto (q := 6) dX6_isKept_44 (by decide) ?_
      exact hF
    · have hF := hF.2 hc
      refine z_iconst (q := 29) (v := 0) dX6_isKept_28 (by decide) rfl ?_
      exact z_zreturn dX6_isKept_29 rfl (by decide) ⟨_, rfl, hF⟩
set_option maxRecDepth 100000 in
set_option maxHeartbeats 4000000 in
theorem wX6_isKept {ψ : Int32 → ZH → Prop} {l0 : Nat} {h : ZH} (hF : (zK h l0 = 7) ∧ ZcV mX6_startClosings [.ref l0] h (fun h12 => Zt mX6_isKept (zPI ψ) 0 0 6 [some (.ref l0), some (.int 0)] [] h12)) : ZcI mX6_isKept [.ref l0] h ψ := by
  refine Zc.intro (L := [some (.ref l0), none]) (show plainName RX6 = true by decide) rfl (Nat.le_of_ble_eq_true rfl) ?_
  show Zt _ _ 0 0 _ _ _ _
  refine z_aload_n (q := 1) dX6_isKept_0 rfl rfl rfl ?_
  obtain ⟨g13, hF⟩ := hF
  refine z_callVV (rc := 0) (rs := 0) (b := l0) (av := []) (ci := 6) (r := (RX6, TX6, 15)) (q := 4) hF dX6_isKept_1 ml_X6_72 ok_X6_startClosings in_X6_startClosings se_X6_startClosings rfl rfl g13 rfl (Nat.le_of_ble_eq_true rfl) (by decide) (Nat.le_of_ble_eq_true rfl) rfl rfl rfl rfl (fun h12 hF => ?_)
  refine z_iconst (q := 5) (v := 0) dX6_isKept_4 (by decide) rfl ?_
  refine z_istore_n (q := 6) (L' := [some (.ref l0), some (.int 0)]) dX6_isKept_5 rfl (Nat.le_of_ble_eq_true rfl) rfl rfl rfl ?_
  exact hF
set_option maxRecDepth 100000 in
set_option maxHeartbeats 4000000 in
theorem wX6_costByRow_4 {ψ : Int32 → ZH → Prop} {l0 : Nat} {l1 : Int32} {l2 : Int32} {l3 : Int32} {h : ZH} (hF : (zK h l0 = 7) ∧ (((zI h l0 8) ≤ l3 → ψ l2 h) ∧ (¬ (zI h l0 8) ≤ l3 → ((zR h l0 3) ≠ 0) ∧ ((zR h l0 6) ≠ 0) ∧ (zK h (zR h l0 6) = 20) ∧ (vp_in l3 (zN h (zR h l0 6))) ∧ (zK h (zR h l0 3) = 28) ∧ (vp_in ((l3 * 6) + (zI h (zR h l0 6) (Int32.toNatClampNeg l3))) (zN h (zR h l0 3))) ∧ ((zR h (zR h l0 3) (Int32.toNatClampNeg ((l3 * 6) + (zI h (zR h l0 6) (Int32.toNatClampNeg l3))))) ≠ 0) ∧ (zK h (zR h (zR h l0 3) (Int32.toNatClampNeg ((l3 * 6) + (zI h (zR h l0 6) (Int32.toNatClampNeg l3))))) = 20) ∧ (vp_in l1 (zN h (zR h (zR h l0 3) (Int32.toNatClampNeg ((l3 * 6) + (zI h (zR h l0 6) (Int32.toNatClampNeg l3))))))) ∧ ∀ v11 : Int32, v11 = (l2 + (zI h (zR h (zR h l0 3) (Int32.toNatClampNeg ((l3 * 6) + (zI h (zR h l0 6) (Int32.toNatClampNeg l3))))) (Int32.toNatClampNeg l1))) → Zt mX6_costByRow (zPI ψ) 0 0 4 [some (.ref l0), some (.int l1), some (.int v11), some (.int (l3 + 1))] [] h))) : Zt mX6_costByRow (zPI ψ) 0 0 4 [some (.ref l0), some (.int l1), some (.int l2), some (.int l3)] [] h := by
  refine z_iload_n (q := 5) dX6_costByRow_4 rfl rfl rfl ?_
  refine z_aload_n (q := 6) dX6_costByRow_5 rfl rfl rfl ?_
  obtain ⟨g1, hF⟩ := hF
  refine z_getI (c := 6) (k := 8) (r := (RX6, TX6, 15)) (q := 9) dX6_costByRow_6 rfl (by decide) fl_X6_39 rfl g1 rfl ?_
  refine z_icmp_ge (t := 39) (q := 12) dX6_costByRow_9 (by decide) rfl (fun hc => ?_) (fun hc => ?_)
  · have hF := hF.1 hc
    refine z_iload_n (q := 40) dX6_costByRow_39 rfl rfl rfl ?_
    exact z_ireturn dX6_costByRow_40 rfl ⟨_, rfl, hF⟩
  · have hF := hF.2 hc
    refine z_iload_n (q := 13) dX6_costByRow_12 rfl rfl rfl ?_
    refine z_aload_n (q := 14) dX6_costByRow_13 rfl rfl rfl ?_
    obtain ⟨g2, hF⟩ := hF
    refine z_getR (c := 6) (k := 3) (r := (RX6, TX6, 15)) (q := 17) dX6_costByRow_14 rfl (by decide) fl_X6_24 rfl g1 g2 rfl ?_
    refine z_iload_n (q := 18) dX6_costByRow_17 rfl rfl rfl ?_
    refine z_bipush (q := 20) (v := 6) dX6_costByRow_18 (by decide) rfl ?_
    refine z_imul (q := 21) dX6_costByRow_20 rfl ?_
    refine z_aload_n (q := 22) dX6_costByRow_21 rfl rfl rfl ?_
    obtain ⟨g3, hF⟩ := hF
    refine z_getR (c := 6) (k := 6) (r := (RX6, TX6, 15)) (q := 25) dX6_costByRow_22 rfl (by decide) fl_X6_33 rfl g1 g3 rfl ?_
    refine z_iload_n (q := 26) dX6_costByRow_25 rfl rfl rfl ?_
    obtain ⟨g4, hF⟩ := hF
    obtain ⟨g5, hF⟩ := hF
    refine y_iald (j := (Int32.toNatClampNeg l3)) (q := 27) dX6_costByRow_26 (Or.inl g4) g5 rfl rfl ?_
    refine z_iadd (q := 28) dX6_costByRow_27 rfl ?_
    obtain ⟨g6, hF⟩ := hF
    obtain ⟨g7, hF⟩ := hF
    obtain ⟨g8, hF⟩ := hF
    refine y_aald (kd := 28) (j := (Int32.toNatClampNeg ((l3 * 6) + (zI h (zR h l0 6) (Int32.toNatClampNeg l3))))) (q := 29) dX6_costByRow_28 g6 (by decide) (by decide) rfl g7 rfl g8 rfl ?_
    refine z_iload_n (q := 30) dX6_costByRow_29 rfl rfl rfl ?_
    obtain ⟨g9, hF⟩ := hF
    obtain ⟨g10, hF⟩ := hF
    refine y_iald (j := (Int32.toNatClampNeg l1)) (q := 31) dX6_costByRow_30 (Or.inl g9) g10 rfl rfl ?_
    refine z_iadd (q := 32) dX6_costByRow_31 rfl ?_
    refine z_nameI (fun v11 ev12 => ?_)
    have hF := hF v11 ev12
    refine z_istore_n (q := 33) (L' := [some (.ref l0), some (.int l1), some (.int v11), some (.int l3)]) dX6_costByRow_32 rfl (Nat.le_of_ble_eq_true rfl) rfl rfl rfl ?_
    refine z_iinc (q := 36) (v := (l3 + 1)) (L' := [some (.ref l0), some (.int l1), some (.int v11), some (.int (l3 + 1))]) dX6_costByRow_33 rfl rfl (Nat.le_of_ble_eq_true rfl) rfl rfl rfl ?_
    refine z_goto (q := 4) dX6_costByRow_36 (by decide) ?_
    exact hF
set_option maxRecDepth 100000 in
set_option maxHeartbeats 4000000 in
theorem wX6_costByRow {ψ : Int32 → ZH → Prop} {l0 : Nat} {l1 : Int32} {h : ZH} (hF : Zt mX6_costByRow (zPI ψ) 0 0 4 [some (.ref l0), some (.int l1), some (.int 0), some (.int 0)] [] h) : ZcI mX6_costByRow [.ref l0, .int l1] h ψ := by
  refine Zc.intro (L := [some (.ref l0), some (.int l1), none, none]) (show plainName RX6 = true by decide) rfl (Nat.le_of_ble_eq_true rfl) ?_
  show Zt _ _ 0 0 _ _ _ _
  refine z_iconst (q := 1) (v := 0) dX6_costByRow_0 (by decide) rfl ?_
  refine z_istore_n (q := 2) (L' := [some (.ref l0), some (.int l1), some (.int 0), none]) dX6_costByRow_1 rfl (Nat.le_of_ble_eq_true rfl) rfl rfl rfl ?_
  refine z_iconst (q := 3) (v := 0) dX6_costByRow_2 (by decide) rfl ?_
  refine z_istore_n (q := 4) (L' := [some (.ref l0), some (.int l1), some (.int 0), some (.int 0)]) dX6_costByRow_3 rfl (Nat.le_of_ble_eq_true rfl) rfl rfl rfl ?_
  exact hF
set_option maxRecDepth 100000 in
set_option maxHeartbeats 4000000 in
theorem wX6_worstRow_4 {ψ : Int32 → ZH → Prop} {l0 : Nat} {l1 : Int32} {l2 : Int32} {h : ZH} (hF : ((3 ≤ l2 → ψ l1 h) ∧ (¬ 3 ≤ l2 → (zK h l0 = 7) ∧ ZcI mX6_costByRow [.ref l0, .int l2] h (fun x3 h1 => (zK h1 l0 = 7) ∧ ZcI mX6_costByRow [.ref l0, .int l1] h1 (fun x6 h4 => ((x3 ≤ x6 → Zt mX6_worstRow (zPI ψ) 0 0 4 [some (.ref l0), some (.int l1), some (.int (l2 + 1))] [] h4) ∧ (¬ x3 ≤ x6 → Zt mX6_worstRow (zPI ψ) 0 0 4 [some (.ref l0), some (.int l2), some (.int (l2 + 1))] [] h4))))))) : Zt mX6_worstRow (zPI ψ) 0 0 4 [some (.ref l0), some (.int l1), some (.int l2)] [] h := by
  refine z_iload_n (q := 5) dX6_worstRow_4 rfl rfl rfl ?_
  refine z_iconst (q := 6) (v := 3) dX6_worstRow_5 (by decide) rfl ?_
  refine z_icmp_ge (t := 30) (q := 9) dX6_worstRow_6 (by decide) rfl (fun hc => ?_) (fun hc => ?_)
  · have hF := hF.1 hc
    refine z_iload_n (q := 31) dX6_worstRow_30 rfl rfl rfl ?_
    exact z_ireturn dX6_worstRow_31 rfl ⟨_, rfl, hF⟩
  · have hF := hF.2 hc
    refine z_aload_n (q := 10) dX6_worstRow_9 rfl rfl rfl ?_
    refine z_iload_n (q := 11) dX6_worstRow_10 rfl rfl rfl ?_
    obtain ⟨g2, hF⟩ := hF
    refine z_callVI (rc := 0) (rs := 0) (b := l0) (av := [.int l2]) (ci := 6) (r := (RX6, TX6, 15)) (q := 14) hF dX6_worstRow_11 ml_X6_86 ok_X6_costByRow in_X6_costByRow se_X6_costByRow rfl rfl g2 rfl (Nat.le_of_ble_eq_true rfl) (by decide) (Nat.le_of_ble_eq_true rfl) rfl rfl rfl rfl (fun x3 h1 hF => ?_)
    refine z_aload_n (q := 15) dX6_worstRow_14 rfl rfl rfl ?_
    refine z_iload_n (q := 16) dX6_worstRow_15 rfl rfl rfl ?_
    obtain ⟨g5, hF⟩ := hF
    refine z_callVI (rc := 0) (rs := 0) (b := l0) (av := [.int l1]) (ci := 6) (r := (RX6, TX6, 15)) (q := 19) hF dX6_worstRow_16 ml_X6_86 ok_X6_costByRow in_X6_costByRow se_X6_costByRow rfl rfl g5 rfl (Nat.le_of_ble_eq_true rfl) (by decide) (Nat.le_of_ble_eq_true rfl) rfl rfl rfl rfl (fun x6 h4 hF => ?_)
    refine z_icmp_le (t := 24) (q := 22) dX6_worstRow_19 (by decide) rfl (fun hc => ?_) (fun hc => ?_)
    · have hF := hF.1 hc
      refine z_iinc (q := 27) (v := (l2 + 1)) (L' := [some (.ref l0), some (.int l1), some (.int (l2 + 1))]) dX6_worstRow_24 rfl rfl (Nat.le_of_ble_eq_true rfl) rfl rfl rfl ?_
      refine z_goto (q := 4) dX6_worstRow_27 (by decide) ?_
      exact hF
    · have hF := hF.2 hc
      refine z_iload_n (q := 23) dX6_worstRow_22 rfl rfl rfl ?_
      refine z_istore_n (q := 24) (L' := [some (.ref l0), some (.int l2), some (.int l2)]) dX6_worstRow_23 rfl (Nat.le_of_ble_eq_true rfl) rfl rfl rfl ?_
      refine z_iinc (q := 27) (v := (l2 + 1)) (L' := [some (.ref l0), some (.int l2), some (.int (l2 + 1))]) dX6_worstRow_24 rfl rfl (Nat.le_of_ble_eq_true rfl) rfl rfl rfl ?_
      refine z_goto (q := 4) dX6_worstRow_27 (by decide) ?_
      exact hF
set_option maxRecDepth 100000 in
set_option maxHeartbeats 4000000 in
theorem wX6_worstRow {ψ : Int32 → ZH → Prop} {l0 : Nat} {h : ZH} (hF : Zt mX6_worstRow (zPI ψ) 0 0 4 [some (.ref l0), some (.int 0), some (.int 1)] [] h) : ZcI mX6_worstRow [.ref l0] h ψ := by
  refine Zc.intro (L := [some (.ref l0), none, none]) (show plainName RX6 = true by decide) rfl (Nat.le_of_ble_eq_true rfl) ?_
  show Zt _ _ 0 0 _ _ _ _
  refine z_iconst (q := 1) (v := 0) dX6_worstRow_0 (by decide) rfl ?_
  refine z_istore_n (q := 2) (L' := [some (.ref l0), some (.int 0), none]) dX6_worstRow_1 rfl (Nat.le_of_ble_eq_true rfl) rfl rfl rfl ?_
  refine z_iconst (q := 3) (v := 1) dX6_worstRow_2 (by decide) rfl ?_
  refine z_istore_n (q := 4) (L' := [some (.ref l0), some (.int 0), some (.int 1)]) dX6_worstRow_3 rfl (Nat.le_of_ble_eq_true rfl) rfl rfl rfl ?_
  exact hF
set_option maxRecDepth 100000 in
set_option maxHeartbeats 4000000 in
theorem wX6_startClosings_51 {ψ : ZH → Prop} {l0 : Nat} {l1 : Int32} {h : ZH} (hF : ((6 ≤ l1 → ψ h) ∧ (¬ 6 ≤ l1 → (zK h l0 = 7) ∧ ((zR h l0 7) ≠ 0) ∧ (zK h (zR h l0 7) = 20) ∧ (vp_in l1 (zN h (zR h l0 7))) ∧ Zt mX6_startClosings (zPV ψ) 0 0 51 [some (.ref l0), some (.int (l1 + 1))] [] (zsI h (zR h l0 7) (Int32.toNatClampNeg l1) 0)))) : Zt mX6_startClosings (zPV ψ) 0 0 51 [some (.ref l0), some (.int l1)] [] h := by
  refine z_iload_n (q := 52) dX6_startClosings_51 rfl rfl rfl ?_
  refine z_bipush (q := 54) (v := 6) dX6_startClosings_52 (by decide) rfl ?_
  refine z_icmp_ge (t := 70) (q := 57) dX6_startClosings_54 (by decide) rfl (fun hc => ?_) (fun hc => ?_)
  · have hF := hF.1 hc
    exact z_return dX6_startClosings_70 rfl ⟨rfl, hF⟩
  · have hF := hF.2 hc
    refine z_aload_n (q := 58) dX6_startClosings_57 rfl rfl rfl ?_
    obtain ⟨g1, hF⟩ := hF
    obtain ⟨g2, hF⟩ := hF
    refine z_getR (c := 6) (k := 7) (r := (RX6, TX6, 15)) (q := 61) dX6_startClosings_58 rfl (by decide) fl_X6_36 rfl g1 g2 rfl ?_
    refine z_iload_n (q := 62) dX6_startClosings_61 rfl rfl rfl ?_
    refine z_iconst (q := 63) (v := 0) dX6_startClosings_62 (by decide) rfl ?_
    obtain ⟨g3, hF⟩ := hF
    obtain ⟨g4, hF⟩ := hF
    refine y_iast (j := (Int32.toNatClampNeg l1)) (q := 64) dX6_startClosings_63 g3 g4 rfl rfl ?_
    refine z_iinc (q := 67) (v := (l1 + 1)) (L' := [some (.ref l0), some (.int (l1 + 1))]) dX6_startClosings_64 rfl rfl (Nat.le_of_ble_eq_true rfl) rfl rfl rfl ?_
    refine z_goto (q := 51) dX6_startClosings_67 (by decide) ?_
    exact hF
set_option maxRecDepth 100000 in
set_option maxHeartbeats 4000000 in
theorem wX6_startClosings_7 {ψ : ZH → Prop} {l0 : Nat} {l1 : Int32} {h : ZH} (hF : (zK h l0 = 7) ∧ (((zI h l0 8) ≤ l1 → Zt mX6_startClosings (zPV ψ) 0 0 51 [some (.ref l0), some (.int 0)] [] h) ∧ (¬ (zI h l0 8) ≤ l1 → ((zR h l0 2) ≠ 0) ∧ (zK h (zR h l0 2) = 21) ∧ (vp_in l1 (zN h (zR h l0 2))) ∧ (((zI h (zR h l0 2) (Int32.toNatClampNeg l1)) = 0 → Zt mX6_startClosings (zPV ψ) 0 0 7 [some (.ref l0), some (.int (l1 + 1))] [] (zsI h l0 12 ((zI h l0 12) + 0))) ∧ (¬ (zI h (zR h l0 2) (Int32.toNatClampNeg l1)) = 0 → ((zR h l0 1) ≠ 0) ∧ (zK h (zR h l0 1) = 20) ∧ (vp_in l1 (zN h (zR h l0 1))) ∧ Zt mX6_startClosings (zPV ψ) 0 0 7 [some (.ref l0), some (.int (l1 + 1))] [] (zsI h l0 12 ((zI h l0 12) + (zI h (zR h l0 1) (Int32.toNatClampNeg l1))))))))) : Zt mX6_startClosings (zPV ψ) 0 0 7 [some (.ref l0), some (.int l1)] [] h := by
  refine z_iload_n (q := 8) dX6_startClosings_7 rfl rfl rfl ?_
  refine z_aload_n (q := 9) dX6_startClosings_8 rfl rfl rfl ?_
  obtain ⟨g5, hF⟩ := hF
  refine z_getI (c := 6) (k := 8) (r := (RX6, TX6, 15)) (q := 12) dX6_startClosings_9 rfl (by decide) fl_X6_39 rfl g5 rfl ?_
  refine z_icmp_ge (t := 49) (q := 15) dX6_startClosings_12 (by decide) rfl (fun hc => ?_) (fun hc => ?_)
  · have hF := hF.1 hc
    refine z_iconst (q := 50) (v := 0) dX6_startClosings_49 (by decide) rfl ?_
    refine z_istore_n (q := 51) (L' := [some (.ref l0), some (.int 0)]) dX6_startClosings_50 rfl (Nat.le_of_ble_eq_true rfl) rfl rfl rfl ?_
    exact hF
  · have hF := hF.2 hc
    refine z_aload_n (q := 16) dX6_startClosings_15 rfl rfl rfl ?_
    refine z_dup (q := 17) dX6_startClosings_16 rfl rfl ?_
    refine z_getI (c := 6) (k := 12) (r := (RX6, TX6, 15)) (q := 20) dX6_startClosings_17 rfl (by decide) fl_X6_83 rfl g5 rfl ?_
    refine z_aload_n (q := 21) dX6_startClosings_20 rfl rfl rfl ?_
    obtain ⟨g6, hF⟩ := hF
    refine z_getR (c := 6) (k := 2) (r := (RX6, TX6, 15)) (q := 24) dX6_startClosings_21 rfl (by decide) fl_X6_20 rfl g5 g6 rfl ?_
    refine z_iload_n (q := 25) dX6_startClosings_24 rfl rfl rfl ?_
    obtain ⟨g7, hF⟩ := hF
    obtain ⟨g8, hF⟩ := hF
    refine y_bald (j := (Int32.toNatClampNeg l1)) (q := 26) dX6_startClosings_25 g7 g8 rfl rfl ?_
    refine z_if_eq (t := 38) (q := 29) dX6_startClosings_26 (by decide) rfl (fun hc => ?_) (fun hc => ?_)
    · have hF := hF.1 hc
      refine z_iconst (q := 39) (v := 0) dX6_startClosings_38 (by decide) rfl ?_
      refine z_iadd (q := 40) dX6_startClosings_39 rfl ?_
      refine z_putI (c := 6) (k := 12) (r := (RX6, TX6, 15)) (q := 43) dX6_startClosings_40 rfl (by decide) fl_X6_83 rfl rfl g5 rfl ?_
      refine z_iinc (q := 46) (v := (l1 + 1)) (L' := [some (.ref l0), some (.int (l1 + 1))]) dX6_startClosings_43 rfl rfl (Nat.le_of_ble_eq_true rfl) rfl rfl rfl ?_
      refine z_goto (q := 7) dX6_startClosings_46 (by decide) ?_
      exact hF
    · have hF := hF.2 hc
      refine z_aload_n (q := 30) dX6_startClosings_29 rfl rfl rfl ?_
      obtain ⟨g9, hF⟩ := hF
      refine z_getR (c := 6) (k := 1) (r := (RX6, TX6, 15)) (q := 33) dX6_startClosings_30 rfl (by decide) fl_X6_16 rfl g5 g9 rfl ?_
      refine z_iload_n (q := 34) dX6_startClosings_33 rfl rfl rfl ?_
      obtain ⟨g10, hF⟩ := hF
      obtain ⟨g11, hF⟩ := hF
      refine y_iald (j := (Int32.toNatClampNeg l1)) (q := 35) dX6_startClosings_34 (Or.inl g10) g11 rfl rfl ?_
      refine z_goto (q := 39) dX6_startClosings_35 (by decide) ?_
      refine z_iadd (q := 40) dX6_startClosings_39 rfl ?_
      refine z_putI (c := 6) (k := 12) (r := (RX6, TX6, 15)) (q := 43) dX6_startClosings_40 rfl (by decide) fl_X6_83 rfl rfl g5 rfl ?_
      refine z_iinc (q := 46) (v := (l1 + 1)) (L' := [some (.ref l0), some (.int (l1 + 1))]) dX6_startClosings_43 rfl rfl (Nat.le_of_ble_eq_true rfl) rfl rfl rfl ?_
      refine z_goto (q := 7) dX6_startClosings_46 (by decide) ?_
      exact hF
set_option maxRecDepth 100000 in
set_option maxHeartbeats 4000000 in
theorem wX6_startClosings {ψ : ZH → Prop} {l0 : Nat} {h : ZH} (hF : (zK h l0 = 7) ∧ Zt mX6_startClosings (zPV ψ) 0 0 7 [some (.ref l0), some (.int 0)] [] (zsI h l0 12 0)) : ZcV mX6_startClosings [.ref l0] h ψ := by
  refine Zc.intro (L := [some (.ref l0), none]) (show plainName RX6 = true by decide) rfl (Nat.le_of_ble_eq_true rfl) ?_
  show Zt _ _ 0 0 _ _ _ _
  refine z_aload_n (q := 1) dX6_startClosings_0 rfl rfl rfl ?_
  refine z_iconst (q := 2) (v := 0) dX6_startClosings_1 (by decide) rfl ?_
  obtain ⟨g12, hF⟩ := hF
  refine z_putI (c := 6) (k := 12) (r := (RX6, TX6, 15)) (q := 5) dX6_startClosings_2 rfl (by decide) fl_X6_83 rfl rfl g12 rfl ?_
  refine z_iconst (q := 6) (v := 0) dX6_startClosings_5 (by decide) rfl ?_
  refine z_istore_n (q := 7) (L' := [some (.ref l0), some (.int 0)]) dX6_startClosings_6 rfl (Nat.le_of_ble_eq_true rfl) rfl rfl rfl ?_
  exact hF
set_option maxRecDepth 100000 in
set_option maxHeartbeats 4000000 in
theorem wX6_closesWithin {ψ : Int32 → ZH → Prop} {l0 : Nat} {l1 : Int32} {l2 : Int32} {h : ZH} (hF : (zK h l0 = 7) ∧ ((zR h l0 2) ≠ 0) ∧ (zK h (zR h l0 2) = 21) ∧ (vp_in l1 (zN h (zR h l0 2))) ∧ (((zI h (zR h l0 2) (Int32.toNatClampNeg l1)) = 0 → ψ 0 h) ∧ (¬ (zI h (zR h l0 2) (Int32.toNatClampNeg l1)) = 0 → (((zI h l0 9) ≤ l2 → ψ 0 h) ∧ (¬ (zI h l0 9) ≤ l2 → ψ 1 h))))) : ZcI mX6_closesWithin [.ref l0, .int l1, .int l2] h ψ := by
  refine Zc.intro (L := [some (.ref l0), some (.int l1), some (.int l2)]) (show plainName RX6 = true by decide) rfl (Nat.le_of_ble_eq_true rfl) ?_
  show Zt _ _ 0 0 _ _ _ _
  refine z_aload_n (q := 1) dX6_closesWithin_0 rfl rfl rfl ?_
  obtain ⟨g1, hF⟩ := hF
  obtain ⟨g2, hF⟩ := hF
  refine z_getR (c := 6) (k := 2) (r := (RX6, TX6, 15)) (q := 4) dX6_closesWithin_1 rfl (by decide) fl_X6_20 rfl g1 g2 rfl ?_
  refine z_iload_n (q := 5) dX6_closesWithin_4 rfl rfl rfl ?_
  obtain ⟨g3, hF⟩ := hF
  obtain ⟨g4, hF⟩ := hF
  refine y_bald (j := (Int32.toNatClampNeg l1)) (q := 6) dX6_closesWithin_5 g3 g4 rfl rfl ?_
  refine z_if_eq (t := 21) (q := 9) dX6_closesWithin_6 (by decide) rfl (fun hc => ?_) (fun hc => ?_)
  · have hF := hF.1 hc
    refine z_iconst (q := 22) (v := 0) dX6_closesWithin_21 (by decide) rfl ?_
    exact z_zreturn dX6_closesWithin_22 rfl (by decide) ⟨_, rfl, hF⟩
  · have hF := hF.2 hc
    refine z_iload_n (q := 10) dX6_closesWithin_9 rfl rfl rfl ?_
    refine z_aload_n (q := 11) dX6_closesWithin_10 rfl rfl rfl ?_
    refine z_getI (c := 6) (k := 9) (r := (RX6, TX6, 15)) (q := 14) dX6_closesWithin_11 rfl (by decide) fl_X6_43 rfl g1 rfl ?_
    refine z_icmp_ge (t := 21) (q := 17) dX6_closesWithin_14 (by decide) rfl (fun hc => ?_) (fun hc => ?_)
    · have hF := hF.1 hc
      refine z_iconst (q := 22) (v := 0) dX6_closesWithin_21 (by decide) rfl ?_
      exact z_zreturn dX6_closesWithin_22 rfl (by decide) ⟨_, rfl, hF⟩
    · have hF := hF.2 hc
      refine z_iconst (q := 18) (v := 1) dX6_closesWithin_17 (by decide) rfl ?_
      refine z_goto (q := 22) dX6_closesWithin_18 (by decide) ?_
      exact z_zreturn dX6_closesWithin_22 rfl (by decide) ⟨_, rfl, hF⟩
set_option maxRecDepth 100000 in
set_option maxHeartbeats 4000000 in
theorem wX6_mayClose {ψ : Int32 → ZH → Prop} {l0 : Nat} {l1 : Int32} {l2 : Int32} {h : ZH} (hF : (zK h l0 = 7) ∧ ZcI mX6_closesWithin [.ref l0, .int l1, .int l2] h (fun x3 h1 => ((x3 = 0 → ψ 1 h1) ∧ (¬ x3 = 0 → (zK h1 l0 = 7) ∧ ((zR h1 l0 7) ≠ 0) ∧ (zK h1 (zR h1 l0 7) = 20) ∧ (vp_in l2 (zN h1 (zR h1 l0 7))) ∧ (((zI h1 l0 11) ≤ (zI h1 (zR h1 l0 7) (Int32.toNatClampNeg l2)) → ψ 0 h1) ∧ (¬ (zI h1 l0 11) ≤ (zI h1 (zR h1 l0 7) (Int32.toNatClampNeg l2)) → ((zR h1 l0 1) ≠ 0) ∧ (zK h1 (zR h1 l0 1) = 20) ∧ (vp_in l1 (zN h1 (zR h1 l0 1))) ∧ ((((zI h1 l0 12) - (zI h1 (zR h1 l0 1) (Int32.toNatClampNeg l1))) < (zI h1 l0 10) → ψ 0 h1) ∧ (¬ ((zI h1 l0 12) - (zI h1 (zR h1 l0 1) (Int32.toNatClampNeg l1))) < (zI h1 l0 10) → ψ 1 h1)))))))) : ZcI mX6_mayClose [.ref l0, .int l1, .int l2] h ψ := by
  refine Zc.intro (L := [some (.ref l0), some (.int l1), some (.int l2)]) (show plainName RX6 = true by decide) rfl (Nat.le_of_ble_eq_true rfl) ?_
  show Zt _ _ 0 0 _ _ _ _
  refine z_aload_n (q := 1) dX6_mayClose_0 rfl rfl rfl ?_
  refine z_iload_n (q := 2) dX6_mayClose_1 rfl rfl rfl ?_
  refine z_iload_n (q := 3) dX6_mayClose_2 rfl rfl rfl ?_
  obtain ⟨g2, hF⟩ := hF
  refine z_callVI (rc := 0) (rs := 0) (b := l0) (av := [.int l1, .int l2]) (ci := 6) (r := (RX6, TX6, 15)) (q := 6) hF dX6_mayClose_3 ml_X6_90 ok_X6_closesWithin in_X6_closesWithin se_X6_closesWithin rfl rfl g2 rfl (Nat.le_of_ble_eq_true rfl) (by decide) (Nat.le_of_ble_eq_true rfl) rfl rfl rfl rfl (fun x3 h1 hF => ?_)
  refine z_if_eq (t := 40) (q := 9) dX6_mayClose_6 (by decide) rfl (fun hc => ?_) (fun hc => ?_)
  · have hF := hF.1 hc
    refine z_iconst (q := 41) (v := 1) dX6_mayClose_40 (by decide) rfl ?_
    refine z_goto (q := 45) dX6_mayClose_41 (by decide) ?_
    exact z_zreturn dX6_mayClose_45 rfl (by decide) ⟨_, rfl, hF⟩
  · have hF := hF.2 hc
    refine z_aload_n (q := 10) dX6_mayClose_9 rfl rfl rfl ?_
    obtain ⟨g4, hF⟩ := hF
    obtain ⟨g5, hF⟩ := hF
    refine z_getR (c := 6) (k := 7) (r := (RX6, TX6, 15)) (q := 13) dX6_mayClose_10 rfl (by decide) fl_X6_36 rfl g4 g5 rfl ?_
    refine z_iload_n (q := 14) dX6_mayClose_13 rfl rfl rfl ?_
    obtain ⟨g6, hF⟩ := hF
    obtain ⟨g7, hF⟩ := hF
    refine y_iald (j := (Int32.toNatClampNeg l2)) (q := 15) dX6_mayClose_14 (Or.inl g6) g7 rfl rfl ?_
    refine z_aload_n (q := 16) dX6_mayClose_15 rfl rfl rfl ?_
    refine z_getI (c := 6) (k := 11) (r := (RX6, TX6, 15)) (q := 19) dX6_mayClose_16 rfl (by decide) fl_X6_49 rfl g4 rfl ?_
    refine z_icmp_ge (t := 44) (q := 22) dX6_mayClose_19 (by decide) rfl (fun hc => ?_) (fun hc => ?_)
    · have hF := hF.1 hc
      refine z_iconst (q := 45) (v := 0) dX6_mayClose_44 (by decide) rfl ?_
      exact z_zreturn dX6_mayClose_45 rfl (by decide) ⟨_, rfl, hF⟩
    · have hF := hF.2 hc
      refine z_aload_n (q := 23) dX6_mayClose_22 rfl rfl rfl ?_
      refine z_getI (c := 6) (k := 12) (r := (RX6, TX6, 15)) (q := 26) dX6_mayClose_23 rfl (by decide) fl_X6_83 rfl g4 rfl ?_
      refine z_aload_n (q := 27) dX6_mayClose_26 rfl rfl rfl ?_
      obtain ⟨g8, hF⟩ := hF
      refine z_getR (c := 6) (k := 1) (r := (RX6, TX6, 15)) (q := 30) dX6_mayClose_27 rfl (by decide) fl_X6_16 rfl g4 g8 rfl ?_
      refine z_iload_n (q := 31) dX6_mayClose_30 rfl rfl rfl ?_
      obtain ⟨g9, hF⟩ := hF
      obtain ⟨g10, hF⟩ := hF
      refine y_iald (j := (Int32.toNatClampNeg l1)) (q := 32) dX6_mayClose_31 (Or.inl g9) g10 rfl rfl ?_
      refine z_isub (q := 33) dX6_mayClose_32 rfl ?_
      refine z_aload_n (q := 34) dX6_mayClose_33 rfl rfl rfl ?_
      refine z_getI (c := 6) (k := 10) (r := (RX6, TX6, 15)) (q := 37) dX6_mayClose_34 rfl (by decide) fl_X6_46 rfl g4 rfl ?_
      refine z_icmp_lt (t := 44) (q := 40) dX6_mayClose_37 (by decide) rfl (fun hc => ?_) (fun hc => ?_)
      · have hF := hF.1 hc
        refine z_iconst (q := 45) (v := 0) dX6_mayClose_44 (by decide) rfl ?_
        exact z_zreturn dX6_mayClose_45 rfl (by decide) ⟨_, rfl, hF⟩
      · have hF := hF.2 hc
        refine z_iconst (q := 41) (v := 1) dX6_mayClose_40 (by decide) rfl ?_
        refine z_goto (q := 45) dX6_mayClose_41 (by decide) ?_
        exact z_zreturn dX6_mayClose_45 rfl (by decide) ⟨_, rfl, hF⟩
set_option maxRecDepth 100000 in
set_option maxHeartbeats 4000000 in
theorem wX6_closeFrom {ψ : ZH → Prop} {l0 : Nat} {l1 : Int32} {l2 : Int32} {h : ZH} (hF : (zK h l0 = 7) ∧ ZcI mX6_closesWithin [.ref l0, .int l1, .int l2] h (fun x3 h1 => ((x3 = 0 → ψ h1) ∧ (¬ x3 = 0 → (zK h1 l0 = 7) ∧ ((zR h1 l0 7) ≠ 0) ∧ (zK h1 (zR h1 l0 7) = 20) ∧ (vp_in l2 (zN h1 (zR h1 l0 7))) ∧ ∀ h8 : ZH, h8 = (zsI h1 (zR h1 l0 7) (Int32.toNatClampNeg l2) ((zI h1 (zR h1 l0 7) (Int32.toNatClampNeg l2)) + 1)) → (zK h8 l0 = 7) ∧ ((zR h8 l0 1) ≠ 0) ∧ (zK h8 (zR h8 l0 1) = 20) ∧ (vp_in l1 (zN h8 (zR h8 l0 1))) ∧ ψ (zsI h8 l0 12 ((zI h8 l0 12) - (zI h8 (zR h8 l0 1) (Int32.toNatClampNeg l1)))))))) : ZcV mX6_closeFrom [.ref l0, .int l1, .int l2] h ψ := by
  refine Zc.intro (L := [some (.ref l0), some (.int l1), some (.int l2)]) (show plainName RX6 = true by decide) rfl (Nat.le_of_ble_eq_true rfl) ?_
  show Zt _ _ 0 0 _ _ _ _
  refine z_aload_n (q := 1) dX6_closeFrom_0 rfl rfl rfl ?_
  refine z_iload_n (q := 2) dX6_closeFrom_1 rfl rfl rfl ?_
  refine z_iload_n (q := 3) dX6_closeFrom_2 rfl rfl rfl ?_
  obtain ⟨g2, hF⟩ := hF
  refine z_callVI (rc := 0) (rs := 0) (b := l0) (av := [.int l1, .int l2]) (ci := 6) (r := (RX6, TX6, 15)) (q := 6) hF dX6_closeFrom_3 ml_X6_90 ok_X6_closesWithin in_X6_closesWithin se_X6_closesWithin rfl rfl g2 rfl (Nat.le_of_ble_eq_true rfl) (by decide) (Nat.le_of_ble_eq_true rfl) rfl rfl rfl rfl (fun x3 h1 hF => ?_)
  refine z_if_eq (t := 34) (q := 9) dX6_closeFrom_6 (by decide) rfl (fun hc => ?_) (fun hc => ?_)
  · have hF := hF.1 hc
    exact z_return dX6_closeFrom_34 rfl ⟨rfl, hF⟩
  · have hF := hF.2 hc
    refine z_aload_n (q := 10) dX6_closeFrom_9 rfl rfl rfl ?_
    obtain ⟨g4, hF⟩ := hF
    obtain ⟨g5, hF⟩ := hF
    refine z_getR (c := 6) (k := 7) (r := (RX6, TX6, 15)) (q := 13) dX6_closeFrom_10 rfl (by decide) fl_X6_36 rfl g4 g5 rfl ?_
    refine z_iload_n (q := 14) dX6_closeFrom_13 rfl rfl rfl ?_
    refine z_dup2 (q := 15) dX6_closeFrom_14 rfl rfl rfl ?_
    obtain ⟨g6, hF⟩ := hF
    obtain ⟨g7, hF⟩ := hF
    refine y_iald (j := (Int32.toNatClampNeg l2)) (q := 16) dX6_closeFrom_15 (Or.inl g6) g7 rfl rfl ?_
    refine z_iconst (q := 17) (v := 1) dX6_closeFrom_16 (by decide) rfl ?_
    refine z_iadd (q := 18) dX6_closeFrom_17 rfl ?_
    refine y_iast (j := (Int32.toNatClampNeg l2)) (q := 19) dX6_closeFrom_18 g6 g7 rfl rfl ?_
    refine z_aload_n (q := 20) dX6_closeFrom_19 rfl rfl rfl ?_
    refine z_dup (q := 21) dX6_closeFrom_20 rfl rfl ?_
    refine z_nameH (fun h8 eh9 => ?_)
    have hF := hF h8 eh9
    obtain ⟨g10, hF⟩ := hF
    refine z_getI (c := 6) (k := 12) (r := (RX6, TX6, 15)) (q := 24) dX6_closeFrom_21 rfl (by decide) fl_X6_83 rfl g10 rfl ?_
    refine z_aload_n (q := 25) dX6_closeFrom_24 rfl rfl rfl ?_
    obtain ⟨g11, hF⟩ := hF
    refine z_getR (c := 6) (k := 1) (r := (RX6, TX6, 15)) (q := 28) dX6_closeFrom_25 rfl (by decide) fl_X6_16 rfl g10 g11 rfl ?_
    refine z_iload_n (q := 29) dX6_closeFrom_28 rfl rfl rfl ?_
    obtain ⟨g12, hF⟩ := hF
    obtain ⟨g13, hF⟩ := hF
    refine y_iald (j := (Int32.toNatClampNeg l1)) (q := 30) dX6_closeFrom_29 (Or.inl g12) g13 rfl rfl ?_
    refine z_isub (q := 31) dX6_closeFrom_30 rfl ?_
    refine z_putI (c := 6) (k := 12) (r := (RX6, TX6, 15)) (q := 34) dX6_closeFrom_31 rfl (by decide) fl_X6_83 rfl rfl g10 rfl ?_
    exact z_return dX6_closeFrom_34 rfl ⟨rfl, hF⟩
set_option maxRecDepth 100000 in
set_option maxHeartbeats 4000000 in
theorem wX6_openAgain {ψ : ZH → Prop} {l0 : Nat} {l1 : Int32} {l2 : Int32} {h : ZH} (hF : (zK h l0 = 7) ∧ ZcI mX6_closesWithin [.ref l0, .int l1, .int l2] h (fun x3 h1 => ((x3 = 0 → ψ h1) ∧ (¬ x3 = 0 → (zK h1 l0 = 7) ∧ ((zR h1 l0 7) ≠ 0) ∧ (zK h1 (zR h1 l0 7) = 20) ∧ (vp_in l2 (zN h1 (zR h1 l0 7))) ∧ ∀ h8 : ZH, h8 = (zsI h1 (zR h1 l0 7) (Int32.toNatClampNeg l2) ((zI h1 (zR h1 l0 7) (Int32.toNatClampNeg l2)) - 1)) → (zK h8 l0 = 7) ∧ ((zR h8 l0 1) ≠ 0) ∧ (zK h8 (zR h8 l0 1) = 20) ∧ (vp_in l1 (zN h8 (zR h8 l0 1))) ∧ ψ (zsI h8 l0 12 ((zI h8 l0 12) + (zI h8 (zR h8 l0 1) (Int32.toNatClampNeg l1)))))))) : ZcV mX6_openAgain [.ref l0, .int l1, .int l2] h ψ := by
  refine Zc.intro (L := [some (.ref l0), some (.int l1), some (.int l2)]) (show plainName RX6 = true by decide) rfl (Nat.le_of_ble_eq_true rfl) ?_
  show Zt _ _ 0 0 _ _ _ _
  refine z_aload_n (q := 1) dX6_openAgain_0 rfl rfl rfl ?_
  refine z_iload_n (q := 2) dX6_openAgain_1 rfl rfl rfl ?_
  refine z_iload_n (q := 3) dX6_openAgain_2 rfl rfl rfl ?_
  obtain ⟨g2, hF⟩ := hF
  refine z_callVI (rc := 0) (rs := 0) (b := l0) (av := [.int l1, .int l2]) (ci := 6) (r := (RX6, TX6, 15)) (q := 6) hF dX6_openAgain_3 ml_X6_90 ok_X6_closesWithin in_X6_closesWithin se_X6_closesWithin rfl rfl g2 rfl (Nat.le_of_ble_eq_true rfl) (by decide) (Nat.le_of_ble_eq_true rfl) rfl rfl rfl rfl (fun x3 h1 hF => ?_)
  refine z_if_eq (t := 34) (q := 9) dX6_openAgain_6 (by decide) rfl (fun hc => ?_) (fun hc => ?_)
  · have hF := hF.1 hc
    exact z_return dX6_openAgain_34 rfl ⟨rfl, hF⟩
  · have hF := hF.2 hc
    refine z_aload_n (q := 10) dX6_openAgain_9 rfl rfl rfl ?_
    obtain ⟨g4, hF⟩ := hF
    obtain ⟨g5, hF⟩ := hF
    refine z_getR (c := 6) (k := 7) (r := (RX6, TX6, 15)) (q := 13) dX6_openAgain_10 rfl (by decide) fl_X6_36 rfl g4 g5 rfl ?_
    refine z_iload_n (q := 14) dX6_openAgain_13 rfl rfl rfl ?_
    refine z_dup2 (q := 15) dX6_openAgain_14 rfl rfl rfl ?_
    obtain ⟨g6, hF⟩ := hF
    obtain ⟨g7, hF⟩ := hF
    refine y_iald (j := (Int32.toNatClampNeg l2)) (q := 16) dX6_openAgain_15 (Or.inl g6) g7 rfl rfl ?_
    refine z_iconst (q := 17) (v := 1) dX6_openAgain_16 (by decide) rfl ?_
    refine z_isub (q := 18) dX6_openAgain_17 rfl ?_
    refine y_iast (j := (Int32.toNatClampNeg l2)) (q := 19) dX6_openAgain_18 g6 g7 rfl rfl ?_
    refine z_aload_n (q := 20) dX6_openAgain_19 rfl rfl rfl ?_
    refine z_dup (q := 21) dX6_openAgain_20 rfl rfl ?_
    refine z_nameH (fun h8 eh9 => ?_)
    have hF := hF h8 eh9
    obtain ⟨g10, hF⟩ := hF
    refine z_getI (c := 6) (k := 12) (r := (RX6, TX6, 15)) (q := 24) dX6_openAgain_21 rfl (by decide) fl_X6_83 rfl g10 rfl ?_
    refine z_aload_n (q := 25) dX6_openAgain_24 rfl rfl rfl ?_
    obtain ⟨g11, hF⟩ := hF
    refine z_getR (c := 6) (k := 1) (r := (RX6, TX6, 15)) (q := 28) dX6_openAgain_25 rfl (by decide) fl_X6_16 rfl g10 g11 rfl ?_
    refine z_iload_n (q := 29) dX6_openAgain_28 rfl rfl rfl ?_
    obtain ⟨g12, hF⟩ := hF
    obtain ⟨g13, hF⟩ := hF
    refine y_iald (j := (Int32.toNatClampNeg l1)) (q := 30) dX6_openAgain_29 (Or.inl g12) g13 rfl rfl ?_
    refine z_iadd (q := 31) dX6_openAgain_30 rfl ?_
    refine z_putI (c := 6) (k := 12) (r := (RX6, TX6, 15)) (q := 34) dX6_openAgain_31 rfl (by decide) fl_X6_83 rfl rfl g10 rfl ?_
    exact z_return dX6_openAgain_34 rfl ⟨rfl, hF⟩
set_option maxRecDepth 100000 in
set_option maxHeartbeats 4000000 in
theorem wX6_findBest_29 {ψ : Int32 → ZH → Prop} {l0 : Nat} {l1 : Int32} {h : ZH} (hF : ((3 ≤ l1 → ZcV (mX6_choose 9) [.ref l0, .int 0] h (fun h1 => ψ 1 h1)) ∧ (¬ 3 ≤ l1 → (zK h l0 = 7) ∧ ((zR h l0 5) ≠ 0) ∧ (zK h (zR h l0 5) = 28) ∧ (0 < zN h (zR h l0 5)) ∧ ((zR h (zR h l0 5) 0) ≠ 0) ∧ (zK h (zR h (zR h l0 5) 0) = 20) ∧ (vp_in l1 (zN h (zR h (zR h l0 5) 0))) ∧ Zt mX6_findBest (zPI ψ) 0 0 29 [some (.ref l0), some (.int (l1 + 1))] [] (zsI h (zR h (zR h l0 5) 0) (Int32.toNatClampNeg l1) 0)))) : Zt mX6_findBest (zPI ψ) 0 0 29 [some (.ref l0), some (.int l1)] [] h := by
  refine z_iload_n (q := 30) dX6_findBest_29 rfl rfl rfl ?_
  refine z_iconst (q := 31) (v := 3) dX6_findBest_30 (by decide) rfl ?_
  refine z_icmp_ge (t := 49) (q := 34) dX6_findBest_31 (by decide) rfl (fun hc => ?_) (fun hc => ?_)
  · have hF := hF.1 hc
    refine z_aload_n (q := 50) dX6_findBest_49 rfl rfl rfl ?_
    refine z_iconst (q := 51) (v := 0) dX6_findBest_50 (by decide) rfl ?_
    refine z_callSV (rc := 0) (rs := 0) (av := [.ref l0, .int 0]) (q := 54) hF dX6_findBest_51 ml_X6_100 ok_X6_choose st_X6_choose rfl (Nat.le_of_ble_eq_true rfl) (by decide) (Nat.le_of_ble_eq_true rfl) rfl rfl rfl rfl (fun h1 hF => ?_)
    refine z_iconst (q := 55) (v := 1) dX6_findBest_54 (by decide) rfl ?_
    exact z_zreturn dX6_findBest_55 rfl (by decide) ⟨_, rfl, hF⟩
  · have hF := hF.2 hc
    refine z_aload_n (q := 35) dX6_findBest_34 rfl rfl rfl ?_
    obtain ⟨g2, hF⟩ := hF
    obtain ⟨g3, hF⟩ := hF
    refine z_getR (c := 6) (k := 5) (r := (RX6, TX6, 15)) (q := 38) dX6_findBest_35 rfl (by decide) fl_X6_30 rfl g2 g3 rfl ?_
    refine z_iconst (q := 39) (v := 0) dX6_findBest_38 (by decide) rfl ?_
    obtain ⟨g4, hF⟩ := hF
    obtain ⟨g5, hF⟩ := hF
    obtain ⟨g6, hF⟩ := hF
    refine y_aald (kd := 28) (j := 0) (q := 40) dX6_findBest_39 g4 (by decide) (by decide) rfl (zvin (by decide) (by decide) g5) (by decide) g6 rfl ?_
    refine z_iload_n (q := 41) dX6_findBest_40 rfl rfl rfl ?_
    refine z_iconst (q := 42) (v := 0) dX6_findBest_41 (by decide) rfl ?_
    obtain ⟨g7, hF⟩ := hF
    obtain ⟨g8, hF⟩ := hF
    refine y_iast (j := (Int32.toNatClampNeg l1)) (q := 43) dX6_findBest_42 g7 g8 rfl rfl ?_
    refine z_iinc (q := 46) (v := (l1 + 1)) (L' := [some (.ref l0), some (.int (l1 + 1))]) dX6_findBest_43 rfl rfl (Nat.le_of_ble_eq_true rfl) rfl rfl rfl ?_
    refine z_goto (q := 29) dX6_findBest_46 (by decide) ?_
    exact hF
set_option maxRecDepth 100000 in
set_option maxHeartbeats 4000000 in
theorem wX6_findBest {ψ : Int32 → ZH → Prop} {l0 : Nat} {h : ZH} (hF : (zK h l0 = 7) ∧ ZcV mX6_startClosings [.ref l0] h (fun h9 => (zK h9 l0 = 7) ∧ (((zI h9 l0 10) ≤ (zI h9 l0 12) → ZcV mX6_fillLeast [.ref l0] (zsI h9 l0 13 1000000000) (fun h12 => Zt mX6_findBest (zPI ψ) 0 0 29 [some (.ref l0), some (.int 0)] [] h12)) ∧ (¬ (zI h9 l0 10) ≤ (zI h9 l0 12) → ψ 0 h9)))) : ZcI mX6_findBest [.ref l0] h ψ := by
  refine Zc.intro (L := [some (.ref l0), none]) (show plainName RX6 = true by decide) rfl (Nat.le_of_ble_eq_true rfl) ?_
  show Zt _ _ 0 0 _ _ _ _
  refine z_aload_n (q := 1) dX6_findBest_0 rfl rfl rfl ?_
  obtain ⟨g10, hF⟩ := hF
  refine z_callVV (rc := 0) (rs := 0) (b := l0) (av := []) (ci := 6) (r := (RX6, TX6, 15)) (q := 4) hF dX6_findBest_1 ml_X6_72 ok_X6_startClosings in_X6_startClosings se_X6_startClosings rfl rfl g10 rfl (Nat.le_of_ble_eq_true rfl) (by decide) (Nat.le_of_ble_eq_true rfl) rfl rfl rfl rfl (fun h9 hF => ?_)
  refine z_aload_n (q := 5) dX6_findBest_4 rfl rfl rfl ?_
  obtain ⟨g11, hF⟩ := hF
  refine z_getI (c := 6) (k := 12) (r := (RX6, TX6, 15)) (q := 8) dX6_findBest_5 rfl (by decide) fl_X6_83 rfl g11 rfl ?_
  refine z_aload_n (q := 9) dX6_findBest_8 rfl rfl rfl ?_
  refine z_getI (c := 6) (k := 10) (r := (RX6, TX6, 15)) (q := 12) dX6_findBest_9 rfl (by decide) fl_X6_46 rfl g11 rfl ?_
  refine z_icmp_ge (t := 17) (q := 15) dX6_findBest_12 (by decide) rfl (fun hc => ?_) (fun hc => ?_)
  · have hF := hF.1 hc
    refine z_aload_n (q := 18) dX6_findBest_17 rfl rfl rfl ?_
    refine z_ldc (q := 20) (v := 1000000000) dX6_findBest_18 cw_X6_93 rfl ?_
    refine z_putI (c := 6) (k := 13) (r := (RX6, TX6, 15)) (q := 23) dX6_findBest_20 rfl (by decide) fl_X6_94 rfl rfl g11 rfl ?_
    refine z_aload_n (q := 24) dX6_findBest_23 rfl rfl rfl ?_
    refine z_callVV (rc := 0) (rs := 0) (b := l0) (av := []) (ci := 6) (r := (RX6, TX6, 15)) (q := 27) hF dX6_findBest_24 ml_X6_97 ok_X6_fillLeast in_X6_fillLeast se_X6_fillLeast rfl rfl g11 rfl (Nat.le_of_ble_eq_true rfl) (by decide) (Nat.le_of_ble_eq_true rfl) rfl rfl rfl rfl (fun h12 hF => ?_)
    refine z_iconst (q := 28) (v := 0) dX6_findBest_27 (by decide) rfl ?_
    refine z_istore_n (q := 29) (L' := [some (.ref l0), some (.int 0)]) dX6_findBest_28 rfl (Nat.le_of_ble_eq_true rfl) rfl rfl rfl ?_
    exact hF
  · have hF := hF.2 hc
    refine z_iconst (q := 16) (v := 0) dX6_findBest_15 (by decide) rfl ?_
    exact z_zreturn dX6_findBest_16 rfl (by decide) ⟨_, rfl, hF⟩
set_option maxRecDepth 100000 in
set_option maxHeartbeats 4000000 in
theorem wX6_fillLeast_45 {ψ : ZH → Prop} {l0 : Nat} {l1 : Int32} {l2 : Int32} {l3 : Int32} {l4 : Int32} {h : ZH} (hF : (zK h l0 = 7) ∧ ZcI mX6_lastChoice [.ref l0, .int l2] h (fun x3 h1 => ((x3 < l4 → (zK h1 l0 = 7) ∧ ((zR h1 l0 4) ≠ 0) ∧ (zK h1 (zR h1 l0 4) = 28) ∧ (vp_in l2 (zN h1 (zR h1 l0 4))) ∧ ((zR h1 (zR h1 l0 4) (Int32.toNatClampNeg l2)) ≠ 0) ∧ (vp_in (l2 + 1) (zN h1 (zR h1 l0 4))) ∧ ((zR h1 (zR h1 l0 4) (Int32.toNatClampNeg (l2 + 1))) ≠ 0) ∧ (zK h1 (zR h1 (zR h1 l0 4) (Int32.toNatClampNeg (l2 + 1))) = 20) ∧ (vp_in l1 (zN h1 (zR h1 (zR h1 l0 4) (Int32.toNatClampNeg (l2 + 1))))) ∧ (zK h1 (zR h1 (zR h1 l0 4) (Int32.toNatClampNeg l2)) = 20) ∧ (vp_in l1 (zN h1 (zR h1 (zR h1 l0 4) (Int32.toNatClampNeg l2)))) ∧ Zt mX6_fillLeast (zPV ψ) 0 0 26 [some (.ref l0), some (.int l1), some (.int (l2 + (-1))), none, none] [] (zsI h1 (zR h1 (zR h1 l0 4) (Int32.toNatClampNeg l2)) (Int32.toNatClampNeg l1) ((zI h1 (zR h1 (zR h1 l0 4) (Int32.toNatClampNeg (l2 + 1))) (Int32.toNatClampNeg l1)) + l3))) ∧ (¬ x3 < l4 → (zK h1 l0 = 7) ∧ ((zR h1 l0 3) ≠ 0) ∧ (zK h1 (zR h1 l0 3) = 28) ∧ (vp_in ((l2 * 6) + l4) (zN h1 (zR h1 l0 3))) ∧ ((zR h1 (zR h1 l0 3) (Int32.toNatClampNeg ((l2 * 6) + l4))) ≠ 0) ∧ (zK h1 (zR h1 (zR h1 l0 3) (Int32.toNatClampNeg ((l2 * 6) + l4))) = 20) ∧ (vp_in l1 (zN h1 (zR h1 (zR h1 l0 3) (Int32.toNatClampNeg ((l2 * 6) + l4))))) ∧ ∀ v22 : Int32, v22 = (if (zI h1 (zR h1 (zR h1 l0 3) (Int32.toNatClampNeg ((l2 * 6) + l4))) (Int32.toNatClampNeg l1)) < l3 then (zI h1 (zR h1 (zR h1 l0 3) (Int32.toNatClampNeg ((l2 * 6) + l4))) (Int32.toNatClampNeg l1)) else l3) → Zt mX6_fillLeast (zPV ψ) 0 0 45 [some (.ref l0), some (.int l1), some (.int l2), some (.int v22), some (.int (l4 + 1))] [] h1)))) : Zt mX6_fillLeast (zPV ψ) 0 0 45 [some (.ref l0), some (.int l1), some (.int l2), some (.int l3), some (.int l4)] [] h := by
  refine z_iload (q := 47) dX6_fillLeast_45 rfl rfl ?_
  refine z_aload_n (q := 48) dX6_fillLeast_47 rfl rfl rfl ?_
  refine z_iload_n (q := 49) dX6_fillLeast_48 rfl rfl rfl ?_
  obtain ⟨g2, hF⟩ := hF
  refine z_callVI (rc := 0) (rs := 0) (b := l0) (av := [.int l2]) (ci := 6) (r := (RX6, TX6, 15)) (q := 52) hF dX6_fillLeast_49 ml_X6_104 ok_X6_lastChoice in_X6_lastChoice se_X6_lastChoice rfl rfl g2 rfl (Nat.le_of_ble_eq_true rfl) (by decide) (Nat.le_of_ble_eq_true rfl) rfl rfl rfl rfl (fun x3 h1 hF => ?_)
  refine z_icmp_gt (t := 80) (q := 55) dX6_fillLeast_52 (by decide) rfl (fun hc => ?_) (fun hc => ?_)
  · have hF := hF.1 hc
    refine z_aload_n (q := 81) dX6_fillLeast_80 rfl rfl rfl ?_
    obtain ⟨g4, hF⟩ := hF
    obtain ⟨g5, hF⟩ := hF
    refine z_getR (c := 6) (k := 4) (r := (RX6, TX6, 15)) (q := 84) dX6_fillLeast_81 rfl (by decide) fl_X6_27 rfl g4 g5 rfl ?_
    refine z_iload_n (q := 85) dX6_fillLeast_84 rfl rfl rfl ?_
    obtain ⟨g6, hF⟩ := hF
    obtain ⟨g7, hF⟩ := hF
    obtain ⟨g8, hF⟩ := hF
    refine y_aald (kd := 28) (j := (Int32.toNatClampNeg l2)) (q := 86) dX6_fillLeast_85 g6 (by decide) (by decide) rfl g7 rfl g8 rfl ?_
    refine z_iload_n (q := 87) dX6_fillLeast_86 rfl rfl rfl ?_
    refine z_aload_n (q := 88) dX6_fillLeast_87 rfl rfl rfl ?_
    refine z_getR (c := 6) (k := 4) (r := (RX6, TX6, 15)) (q := 91) dX6_fillLeast_88 rfl (by decide) fl_X6_27 rfl g4 g5 rfl ?_
    refine z_iload_n (q := 92) dX6_fillLeast_91 rfl rfl rfl ?_
    refine z_iconst (q := 93) (v := 1) dX6_fillLeast_92 (by decide) rfl ?_
    refine z_iadd (q := 94) dX6_fillLeast_93 rfl ?_
    obtain ⟨g9, hF⟩ := hF
    obtain ⟨g10, hF⟩ := hF
    refine y_aald (kd := 28) (j := (Int32.toNatClampNeg (l2 + 1))) (q := 95) dX6_fillLeast_94 g6 (by decide) (by decide) rfl g9 rfl g10 rfl ?_
    refine z_iload_n (q := 96) dX6_fillLeast_95 rfl rfl rfl ?_
    obtain ⟨g11, hF⟩ := hF
    obtain ⟨g12, hF⟩ := hF
    refine y_iald (j := (Int32.toNatClampNeg l1)) (q := 97) dX6_fillLeast_96 (Or.inl g11) g12 rfl rfl ?_
    refine z_iload_n (q := 98) dX6_fillLeast_97 rfl rfl rfl ?_
    refine z_iadd (q := 99) dX6_fillLeast_98 rfl ?_
    obtain ⟨g13, hF⟩ := hF
    obtain ⟨g14, hF⟩ := hF
    refine y_iast (j := (Int32.toNatClampNeg l1)) (q := 100) dX6_fillLeast_99 g13 g14 rfl rfl ?_
    refine z_iinc (q := 103) (v := (l2 + (-1))) (L' := [some (.ref l0), some (.int l1), some (.int (l2 + (-1))), some (.int l3), some (.int l4)]) dX6_fillLeast_100 rfl rfl (Nat.le_of_ble_eq_true rfl) rfl rfl rfl ?_
    refine z_goto (q := 26) dX6_fillLeast_103 (by decide) ?_
    refine Zt.drop (i := 3) (L' := [some (.ref l0), some (.int l1), some (.int (l2 + (-1))), none, some (.int l4)]) rfl ?_
    refine Zt.drop (i := 4) (L' := [some (.ref l0), some (.int l1), some (.int (l2 + (-1))), none, none]) rfl ?_
    exact hF
  · have hF := hF.2 hc
    refine z_iload_n (q := 56) dX6_fillLeast_55 rfl rfl rfl ?_
    refine z_aload_n (q := 57) dX6_fillLeast_56 rfl rfl rfl ?_
    obtain ⟨g15, hF⟩ := hF
    obtain ⟨g16, hF⟩ := hF
    refine z_getR (c := 6) (k := 3) (r := (RX6, TX6, 15)) (q := 60) dX6_fillLeast_57 rfl (by decide) fl_X6_24 rfl g15 g16 rfl ?_
    refine z_iload_n (q := 61) dX6_fillLeast_60 rfl rfl rfl ?_
    refine z_bipush (q := 63) (v := 6) dX6_fillLeast_61 (by decide) rfl ?_
    refine z_imul (q := 64) dX6_fillLeast_63 rfl ?_
    refine z_iload (q := 66) dX6_fillLeast_64 rfl rfl ?_
    refine z_iadd (q := 67) dX6_fillLeast_66 rfl ?_
    obtain ⟨g17, hF⟩ := hF
    obtain ⟨g18, hF⟩ := hF
    obtain ⟨g19, hF⟩ := hF
    refine y_aald (kd := 28) (j := (Int32.toNatClampNeg ((l2 * 6) + l4))) (q := 68) dX6_fillLeast_67 g17 (by decide) (by decide) rfl g18 rfl g19 rfl ?_
    refine z_iload_n (q := 69) dX6_fillLeast_68 rfl rfl rfl ?_
    obtain ⟨g20, hF⟩ := hF
    obtain ⟨g21, hF⟩ := hF
    refine y_iald (j := (Int32.toNatClampNeg l1)) (q := 70) dX6_fillLeast_69 (Or.inl g20) g21 rfl rfl ?_
    refine z_mmin (q := 73) dX6_fillLeast_70 mw_X6_107 (Nat.le_of_ble_eq_true rfl) (by decide) rfl ?_
    refine z_nameI (fun v22 ev23 => ?_)
    have hF := hF v22 ev23
    refine z_istore_n (q := 74) (L' := [some (.ref l0), some (.int l1), some (.int l2), some (.int v22), some (.int l4)]) dX6_fillLeast_73 rfl (Nat.le_of_ble_eq_true rfl) rfl rfl rfl ?_
    refine z_iinc (q := 77) (v := (l4 + 1)) (L' := [some (.ref l0), some (.int l1), some (.int l2), some (.int v22), some (.int (l4 + 1))]) dX6_fillLeast_74 rfl rfl (Nat.le_of_ble_eq_true rfl) rfl rfl rfl ?_
    refine z_goto (q := 45) dX6_fillLeast_77 (by decide) ?_
    exact hF
set_option maxRecDepth 100000 in
set_option maxHeartbeats 4000000 in
theorem wX6_fillLeast_26 {ψ : ZH → Prop} {l0 : Nat} {l1 : Int32} {l2 : Int32} {h : ZH} (hF : ((l2 < 0 → Zt mX6_fillLeast (zPV ψ) 0 0 2 [some (.ref l0), some (.int (l1 + 1)), none, none, none] [] h) ∧ (¬ l2 < 0 → (zK h l0 = 7) ∧ ((zR h l0 3) ≠ 0) ∧ (zK h (zR h l0 3) = 28) ∧ (vp_in (l2 * 6) (zN h (zR h l0 3))) ∧ ((zR h (zR h l0 3) (Int32.toNatClampNeg (l2 * 6))) ≠ 0) ∧ (zK h (zR h (zR h l0 3) (Int32.toNatClampNeg (l2 * 6))) = 20) ∧ (vp_in l1 (zN h (zR h (zR h l0 3) (Int32.toNatClampNeg (l2 * 6))))) ∧ ∀ v31 : Int32, v31 = (zI h (zR h (zR h l0 3) (Int32.toNatClampNeg (l2 * 6))) (Int32.toNatClampNeg l1)) → Zt mX6_fillLeast (zPV ψ) 0 0 45 [some (.ref l0), some (.int l1), some (.int l2), some (.int v31), some (.int 1)] [] h))) : Zt mX6_fillLeast (zPV ψ) 0 0 26 [some (.ref l0), some (.int l1), some (.int l2), none, none] [] h := by
  refine z_iload_n (q := 27) dX6_fillLeast_26 rfl rfl rfl ?_
  refine z_if_lt (t := 106) (q := 30) dX6_fillLeast_27 (by decide) rfl (fun hc => ?_) (fun hc => ?_)
  · have hF := hF.1 hc
    refine z_iinc (q := 109) (v := (l1 + 1)) (L' := [some (.ref l0), some (.int (l1 + 1)), some (.int l2), none, none]) dX6_fillLeast_106 rfl rfl (Nat.le_of_ble_eq_true rfl) rfl rfl rfl ?_
    refine z_goto (q := 2) dX6_fillLeast_109 (by decide) ?_
    refine Zt.drop (i := 2) (L' := [some (.ref l0), some (.int (l1 + 1)), none, none, none]) rfl ?_
    exact hF
  · have hF := hF.2 hc
    refine z_aload_n (q := 31) dX6_fillLeast_30 rfl rfl rfl ?_
    obtain ⟨g24, hF⟩ := hF
    obtain ⟨g25, hF⟩ := hF
    refine z_getR (c := 6) (k := 3) (r := (RX6, TX6, 15)) (q := 34) dX6_fillLeast_31 rfl (by decide) fl_X6_24 rfl g24 g25 rfl ?_
    refine z_iload_n (q := 35) dX6_fillLeast_34 rfl rfl rfl ?_
    refine z_bipush (q := 37) (v := 6) dX6_fillLeast_35 (by decide) rfl ?_
    refine z_imul (q := 38) dX6_fillLeast_37 rfl ?_
    obtain ⟨g26, hF⟩ := hF
    obtain ⟨g27, hF⟩ := hF
    obtain ⟨g28, hF⟩ := hF
    refine y_aald (kd := 28) (j := (Int32.toNatClampNeg (l2 * 6))) (q := 39) dX6_fillLeast_38 g26 (by decide) (by decide) rfl g27 rfl g28 rfl ?_
    refine z_iload_n (q := 40) dX6_fillLeast_39 rfl rfl rfl ?_
    obtain ⟨g29, hF⟩ := hF
    obtain ⟨g30, hF⟩ := hF
    refine y_iald (j := (Int32.toNatClampNeg l1)) (q := 41) dX6_fillLeast_40 (Or.inl g29) g30 rfl rfl ?_
    refine z_nameI (fun v31 ev32 => ?_)
    have hF := hF v31 ev32
    refine z_istore_n (q := 42) (L' := [some (.ref l0), some (.int l1), some (.int l2), some (.int v31), none]) dX6_fillLeast_41 rfl (Nat.le_of_ble_eq_true rfl) rfl rfl rfl ?_
    refine z_iconst (q := 43) (v := 1) dX6_fillLeast_42 (by decide) rfl ?_
    refine z_istore (q := 45) (L' := [some (.ref l0), some (.int l1), some (.int l2), some (.int v31), some (.int 1)]) dX6_fillLeast_43 (Nat.le_of_ble_eq_true rfl) rfl rfl rfl ?_
    exact hF
set_option maxRecDepth 100000 in
set_option maxHeartbeats 4000000 in
theorem wX6_fillLeast_2 {ψ : ZH → Prop} {l0 : Nat} {l1 : Int32} {h : ZH} (hF : ((3 ≤ l1 → ψ h) ∧ (¬ 3 ≤ l1 → (zK h l0 = 7) ∧ ((zR h l0 4) ≠ 0) ∧ (zK h (zR h l0 4) = 28) ∧ (vp_in (zI h l0 8) (zN h (zR h l0 4))) ∧ ((zR h (zR h l0 4) (Int32.toNatClampNeg (zI h l0 8))) ≠ 0) ∧ (zK h (zR h (zR h l0 4) (Int32.toNatClampNeg (zI h l0 8))) = 20) ∧ (vp_in l1 (zN h (zR h (zR h l0 4) (Int32.toNatClampNeg (zI h l0 8))))) ∧ ∀ h40 : ZH, h40 = (zsI h (zR h (zR h l0 4) (Int32.toNatClampNeg (zI h l0 8))) (Int32.toNatClampNeg l1) 0) → (zK h40 l0 = 7) ∧ Zt mX6_fillLeast (zPV ψ) 0 0 26 [some (.ref l0), some (.int l1), some (.int ((zI h40 l0 8) - 1)), none, none] [] h40))) : Zt mX6_fillLeast (zPV ψ) 0 0 2 [some (.ref l0), some (.int l1), none, none, none] [] h := by
  refine z_iload_n (q := 3) dX6_fillLeast_2 rfl rfl rfl ?_
  refine z_iconst (q := 4) (v := 3) dX6_fillLeast_3 (by decide) rfl ?_
  refine z_icmp_ge (t := 112) (q := 7) dX6_fillLeast_4 (by decide) rfl (fun hc => ?_) (fun hc => ?_)
  · have hF := hF.1 hc
    exact z_return dX6_fillLeast_112 rfl ⟨rfl, hF⟩
  · have hF := hF.2 hc
    refine z_aload_n (q := 8) dX6_fillLeast_7 rfl rfl rfl ?_
    obtain ⟨g33, hF⟩ := hF
    obtain ⟨g34, hF⟩ := hF
    refine z_getR (c := 6) (k := 4) (r := (RX6, TX6, 15)) (q := 11) dX6_fillLeast_8 rfl (by decide) fl_X6_27 rfl g33 g34 rfl ?_
    refine z_aload_n (q := 12) dX6_fillLeast_11 rfl rfl rfl ?_
    refine z_getI (c := 6) (k := 8) (r := (RX6, TX6, 15)) (q := 15) dX6_fillLeast_12 rfl (by decide) fl_X6_39 rfl g33 rfl ?_
    obtain ⟨g35, hF⟩ := hF
    obtain ⟨g36, hF⟩ := hF
    obtain ⟨g37, hF⟩ := hF
    refine y_aald (kd := 28) (j := (Int32.toNatClampNeg (zI h l0 8))) (q := 16) dX6_fillLeast_15 g35 (by decide) (by decide) rfl g36 rfl g37 rfl ?_
    refine z_iload_n (q := 17) dX6_fillLeast_16 rfl rfl rfl ?_
    refine z_iconst (q := 18) (v := 0) dX6_fillLeast_17 (by decide) rfl ?_
    obtain ⟨g38, hF⟩ := hF
    obtain ⟨g39, hF⟩ := hF
    refine y_iast (j := (Int32.toNatClampNeg l1)) (q := 19) dX6_fillLeast_18 g38 g39 rfl rfl ?_
    refine z_aload_n (q := 20) dX6_fillLeast_19 rfl rfl rfl ?_
    refine z_nameH (fun h40 eh41 => ?_)
    have hF := hF h40 eh41
    obtain ⟨g42, hF⟩ := hF
    refine z_getI (c := 6) (k := 8) (r := (RX6, TX6, 15)) (q := 23) dX6_fillLeast_20 rfl (by decide) fl_X6_39 rfl g42 rfl ?_
    refine z_iconst (q := 24) (v := 1) dX6_fillLeast_23 (by decide) rfl ?_
    refine z_isub (q := 25) dX6_fillLeast_24 rfl ?_
    refine z_istore_n (q := 26) (L' := [some (.ref l0), some (.int l1), some (.int ((zI h40 l0 8) - 1)), none, none]) dX6_fillLeast_25 rfl (Nat.le_of_ble_eq_true rfl) rfl rfl rfl ?_
    exact hF
set_option maxRecDepth 100000 in
set_option maxHeartbeats 4000000 in
theorem wX6_fillLeast {ψ : ZH → Prop} {l0 : Nat} {h : ZH} (hF : Zt mX6_fillLeast (zPV ψ) 0 0 2 [some (.ref l0), some (.int 0), none, none, none] [] h) : ZcV mX6_fillLeast [.ref l0] h ψ := by
  refine Zc.intro (L := [some (.ref l0), none, none, none, none]) (show plainName RX6 = true by decide) rfl (Nat.le_of_ble_eq_true rfl) ?_
  show Zt _ _ 0 0 _ _ _ _
  refine z_iconst (q := 1) (v := 0) dX6_fillLeast_0 (by decide) rfl ?_
  refine z_istore_n (q := 2) (L' := [some (.ref l0), some (.int 0), none, none, none]) dX6_fillLeast_1 rfl (Nat.le_of_ble_eq_true rfl) rfl rfl rfl ?_
  exact hF
set_option maxRecDepth 100000 in
set_option maxHeartbeats 4000000 in
theorem wX6_lastChoice {ψ : Int32 → ZH → Prop} {l0 : Nat} {l1 : Int32} {h : ZH} (hF : (zK h l0 = 7) ∧ ((zR h l0 2) ≠ 0) ∧ (zK h (zR h l0 2) = 21) ∧ (vp_in l1 (zN h (zR h l0 2))) ∧ (((zI h (zR h l0 2) (Int32.toNatClampNeg l1)) = 0 → ψ 0 h) ∧ (¬ (zI h (zR h l0 2) (Int32.toNatClampNeg l1)) = 0 → ψ (if 5 < (zI h l0 9) then 5 else (zI h l0 9)) h))) : ZcI mX6_lastChoice [.ref l0, .int l1] h ψ := by
  refine Zc.intro (L := [some (.ref l0), some (.int l1)]) (show plainName RX6 = true by decide) rfl (Nat.le_of_ble_eq_true rfl) ?_
  show Zt _ _ 0 0 _ _ _ _
  refine z_aload_n (q := 1) dX6_lastChoice_0 rfl rfl rfl ?_
  obtain ⟨g1, hF⟩ := hF
  obtain ⟨g2, hF⟩ := hF
  refine z_getR (c := 6) (k := 2) (r := (RX6, TX6, 15)) (q := 4) dX6_lastChoice_1 rfl (by decide) fl_X6_20 rfl g1 g2 rfl ?_
  refine z_iload_n (q := 5) dX6_lastChoice_4 rfl rfl rfl ?_
  obtain ⟨g3, hF⟩ := hF
  obtain ⟨g4, hF⟩ := hF
  refine y_bald (j := (Int32.toNatClampNeg l1)) (q := 6) dX6_lastChoice_5 g3 g4 rfl rfl ?_
  refine z_if_eq (t := 20) (q := 9) dX6_lastChoice_6 (by decide) rfl (fun hc => ?_) (fun hc => ?_)
  · have hF := hF.1 hc
    refine z_iconst (q := 21) (v := 0) dX6_lastChoice_20 (by decide) rfl ?_
    exact z_ireturn dX6_lastChoice_21 rfl ⟨_, rfl, hF⟩
  · have hF := hF.2 hc
    refine z_aload_n (q := 10) dX6_lastChoice_9 rfl rfl rfl ?_
    refine z_getI (c := 6) (k := 9) (r := (RX6, TX6, 15)) (q := 13) dX6_lastChoice_10 rfl (by decide) fl_X6_43 rfl g1 rfl ?_
    refine z_iconst (q := 14) (v := 5) dX6_lastChoice_13 (by decide) rfl ?_
    refine z_mmin (q := 17) dX6_lastChoice_14 mw_X6_107 (Nat.le_of_ble_eq_true rfl) (by decide) rfl ?_
    refine z_goto (q := 21) dX6_lastChoice_17 (by decide) ?_
    exact z_ireturn dX6_lastChoice_21 rfl ⟨_, rfl, hF⟩
set_option maxRecDepth 100000 in
set_option maxHeartbeats 4000000 in
theorem wX6_choose_15 {ψ : ZH → Prop} {l0 : Nat} {l1 : Int32} {l2 : Int32} {dk : Nat} {h : ZH} (hF : (zK h l0 = 7) ∧ ZcI mX6_lastChoice [.ref l0, .int l1] h (fun x3 h1 => ((x3 < l2 → ψ h1) ∧ (¬ x3 < l2 → (zK h1 l0 = 7) ∧ ZcI mX6_mayClose [.ref l0, .int l1, .int l2] h1 (fun x6 h4 => ((x6 = 0 → Zt (mX6_choose dk) (zPV ψ) 0 0 15 [some (.ref l0), some (.int l1), some (.int (l2 + 1))] [] h4) ∧ (¬ x6 = 0 → (zK h4 l0 = 7) ∧ ZcV mX6_pay [.ref l0, .int l1, .int l2] h4 (fun h7 => (zK h7 l0 = 7) ∧ ZcI mX6_mayBeBetter [.ref l0, .int (l1 + 1)] h7 (fun x11 h9 => ((x11 = 0 → Zt (mX6_choose dk) (zPV ψ) 0 0 15 [some (.ref l0), some (.int l1), some (.int (l2 + 1))] [] h9) ∧ (¬ x11 = 0 → (zK h9 l0 = 7) ∧ ZcV mX6_closeFrom [.ref l0, .int l1, .int l2] h9 (fun h12 => ∃ dk14 : Nat, dk14 + 1 ≤ dk ∧ ZcV (mX6_choose dk14) [.ref l0, .int (l1 + 1)] h12 (fun h16 => (zK h16 l0 = 7) ∧ ZcV mX6_openAgain [.ref l0, .int l1, .int l2] h16 (fun h17 => Zt (mX6_choose dk) (zPV ψ) 0 0 15 [some (.ref l0), some (.int l1), some (.int (l2 + 1))] [] h17)))))))))))))) : Zt (mX6_choose dk) (zPV ψ) 0 0 15 [some (.ref l0), some (.int l1), some (.int l2)] [] h := by
  refine z_iload_n (q := 16) dX6_choose_15 rfl rfl rfl ?_
  refine z_aload_n (q := 17) dX6_choose_16 rfl rfl rfl ?_
  refine z_iload_n (q := 18) dX6_choose_17 rfl rfl rfl ?_
  obtain ⟨g2, hF⟩ := hF
  refine z_callVI (rc := 0) (rs := 0) (b := l0) (av := [.int l1]) (ci := 6) (r := (RX6, TX6, 15)) (q := 21) hF dX6_choose_18 ml_X6_104 ok_X6_lastChoice in_X6_lastChoice se_X6_lastChoice rfl rfl g2 rfl (Nat.le_of_ble_eq_true rfl) (show 1 + 1 ≤ 3 + dk by omega) (Nat.le_of_ble_eq_true rfl) rfl rfl rfl rfl (fun x3 h1 hF => ?_)
  refine z_icmp_gt (t := 74) (q := 24) dX6_choose_21 (by decide) rfl (fun hc => ?_) (fun hc => ?_)
  · have hF := hF.1 hc
    exact z_return dX6_choose_74 rfl ⟨rfl, hF⟩
  · have hF := hF.2 hc
    refine z_aload_n (q := 25) dX6_choose_24 rfl rfl rfl ?_
    refine z_iload_n (q := 26) dX6_choose_25 rfl rfl rfl ?_
    refine z_iload_n (q := 27) dX6_choose_26 rfl rfl rfl ?_
    obtain ⟨g5, hF⟩ := hF
    refine z_callVI (rc := 0) (rs := 0) (b := l0) (av := [.int l1, .int l2]) (ci := 6) (r := (RX6, TX6, 15)) (q := 30) hF dX6_choose_27 ml_X6_75 ok_X6_mayClose in_X6_mayClose se_X6_mayClose rfl rfl g5 rfl (Nat.le_of_ble_eq_true rfl) (show 1 + 1 ≤ 3 + dk by omega) (Nat.le_of_ble_eq_true rfl) rfl rfl rfl rfl (fun x6 h4 hF => ?_)
    refine z_if_eq (t := 68) (q := 33) dX6_choose_30 (by decide) rfl (fun hc => ?_) (fun hc => ?_)
    · have hF := hF.1 hc
      refine z_iinc (q := 71) (v := (l2 + 1)) (L' := [some (.ref l0), some (.int l1), some (.int (l2 + 1))]) dX6_choose_68 rfl rfl (Nat.le_of_ble_eq_true rfl) rfl rfl rfl ?_
      refine z_goto (q := 15) dX6_choose_71 (by decide) ?_
      exact hF
    · have hF := hF.2 hc
      refine z_aload_n (q := 34) dX6_choose_33 rfl rfl rfl ?_
      refine z_iload_n (q := 35) dX6_choose_34 rfl rfl rfl ?_
      refine z_iload_n (q := 36) dX6_choose_35 rfl rfl rfl ?_
      obtain ⟨g8, hF⟩ := hF
      refine z_callVV (rc := 0) (rs := 0) (b := l0) (av := [.int l1, .int l2]) (ci := 6) (r := (RX6, TX6, 15)) (q := 39) hF dX6_choose_36 ml_X6_113 ok_X6_pay in_X6_pay se_X6_pay rfl rfl g8 rfl (Nat.le_of_ble_eq_true rfl) (show 0 + 1 ≤ 3 + dk by omega) (Nat.le_of_ble_eq_true rfl) rfl rfl rfl rfl (fun h7 hF => ?_)
      refine z_aload_n (q := 40) dX6_choose_39 rfl rfl rfl ?_
      refine z_iload_n (q := 41) dX6_choose_40 rfl rfl rfl ?_
      refine z_iconst (q := 42) (v := 1) dX6_choose_41 (by decide) rfl ?_
      refine z_iadd (q := 43) dX6_choose_42 rfl ?_
      obtain ⟨g10, hF⟩ := hF
      refine z_callVI (rc := 0) (rs := 0) (b := l0) (av := [.int (l1 + 1)]) (ci := 6) (r := (RX6, TX6, 15)) (q := 46) hF dX6_choose_43 ml_X6_116 ok_X6_mayBeBetter in_X6_mayBeBetter se_X6_mayBeBetter rfl rfl g10 rfl (Nat.le_of_ble_eq_true rfl) (show 0 + 1 ≤ 3 + dk by omega) (Nat.le_of_ble_eq_true rfl) rfl rfl rfl rfl (fun x11 h9 hF => ?_)
      refine z_if_eq (t := 68) (q := 49) dX6_choose_46 (by decide) rfl (fun hc => ?_) (fun hc => ?_)
      · have hF := hF.1 hc
        refine z_iinc (q := 71) (v := (l2 + 1)) (L' := [some (.ref l0), some (.int l1), some (.int (l2 + 1))]) dX6_choose_68 rfl rfl (Nat.le_of_ble_eq_true rfl) rfl rfl rfl ?_
        refine z_goto (q := 15) dX6_choose_71 (by decide) ?_
        exact hF
      · have hF := hF.2 hc
        refine z_aload_n (q := 50) dX6_choose_49 rfl rfl rfl ?_
        refine z_iload_n (q := 51) dX6_choose_50 rfl rfl rfl ?_
        refine z_iload_n (q := 52) dX6_choose_51 rfl rfl rfl ?_
        obtain ⟨g13, hF⟩ := hF
        refine z_callVV (rc := 0) (rs := 0) (b := l0) (av := [.int l1, .int l2]) (ci := 6) (r := (RX6, TX6, 15)) (q := 55) hF dX6_choose_52 ml_X6_79 ok_X6_closeFrom in_X6_closeFrom se_X6_closeFrom rfl rfl g13 rfl (Nat.le_of_ble_eq_true rfl) (show 1 + 1 ≤ 3 + dk by omega) (Nat.le_of_ble_eq_true rfl) rfl rfl rfl rfl (fun h12 hF => ?_)
        refine z_aload_n (q := 56) dX6_choose_55 rfl rfl rfl ?_
        refine z_iload_n (q := 57) dX6_choose_56 rfl rfl rfl ?_
        refine z_iconst (q := 58) (v := 1) dX6_choose_57 (by decide) rfl ?_
        refine z_iadd (q := 59) dX6_choose_58 rfl ?_
        obtain ⟨dk14, e15, hF⟩ := hF
        refine z_callSV (rc := 0) (rs := 0) (av := [.ref l0, .int (l1 + 1)]) (q := 62) hF dX6_choose_59 ml_X6_100 ok_X6_choose st_X6_choose rfl (Nat.le_of_ble_eq_true rfl) (show 3 + dk14 + 1 ≤ 3 + dk by omega) (Nat.le_of_ble_eq_true rfl) rfl rfl rfl rfl (fun h16 hF => ?_)
        refine z_aload_n (q := 63) dX6_choose_62 rfl rfl rfl ?_
        refine z_iload_n (q := 64) dX6_choose_63 rfl rfl rfl ?_
        refine z_iload_n (q := 65) dX6_choose_64 rfl rfl rfl ?_
        obtain ⟨g18, hF⟩ := hF
        refine z_callVV (rc := 0) (rs := 0) (b := l0) (av := [.int l1, .int l2]) (ci := 6) (r := (RX6, TX6, 15)) (q := 68) hF dX6_choose_65 ml_X6_120 ok_X6_openAgain in_X6_openAgain se_X6_openAgain rfl rfl g18 rfl (Nat.le_of_ble_eq_true rfl) (show 1 + 1 ≤ 3 + dk by omega) (Nat.le_of_ble_eq_true rfl) rfl rfl rfl rfl (fun h17 hF => ?_)
        refine z_iinc (q := 71) (v := (l2 + 1)) (L' := [some (.ref l0), some (.int l1), some (.int (l2 + 1))]) dX6_choose_68 rfl rfl (Nat.le_of_ble_eq_true rfl) rfl rfl rfl ?_
        refine z_goto (q := 15) dX6_choose_71 (by decide) ?_
        exact hF
set_option maxRecDepth 100000 in
set_option maxHeartbeats 4000000 in
theorem wX6_choose {ψ : ZH → Prop} {l0 : Nat} {l1 : Int32} {dk : Nat} {h : ZH} (hF : (zK h l0 = 7) ∧ ((l1 < (zI h l0 8) → Zt (mX6_choose dk) (zPV ψ) 0 0 15 [some (.ref l0), some (.int l1), some (.int 0)] [] h) ∧ (¬ l1 < (zI h l0 8) → ZcV mX6_keepAsBest [.ref l0] h (fun h20 => ψ h20)))) : ZcV (mX6_choose dk) [.ref l0, .int l1] h ψ := by
  refine Zc.intro (L := [some (.ref l0), some (.int l1), none]) (show plainName RX6 = true by decide) rfl (Nat.le_of_ble_eq_true rfl) ?_
  show Zt _ _ 0 0 _ _ _ _
  refine z_iload_n (q := 1) dX6_choose_0 rfl rfl rfl ?_
  refine z_aload_n (q := 2) dX6_choose_1 rfl rfl rfl ?_
  obtain ⟨g19, hF⟩ := hF
  refine z_getI (c := 6) (k := 8) (r := (RX6, TX6, 15)) (q := 5) dX6_choose_2 rfl (by decide) fl_X6_39 rfl g19 rfl ?_
  refine z_icmp_lt (t := 13) (q := 8) dX6_choose_5 (by decide) rfl (fun hc => ?_) (fun hc => ?_)
  · have hF := hF.1 hc
    refine z_iconst (q := 14) (v := 0) dX6_choose_13 (by decide) rfl ?_
    refine z_istore_n (q := 15) (L' := [some (.ref l0), some (.int l1), some (.int 0)]) dX6_choose_14 rfl (Nat.le_of_ble_eq_true rfl) rfl rfl rfl ?_
    exact hF
  · have hF := hF.2 hc
    refine z_aload_n (q := 9) dX6_choose_8 rfl rfl rfl ?_
    refine z_callVV (rc := 0) (rs := 0) (b := l0) (av := []) (ci := 6) (r := (RX6, TX6, 15)) (q := 12) hF dX6_choose_9 ml_X6_110 ok_X6_keepAsBest in_X6_keepAsBest se_X6_keepAsBest rfl rfl g19 rfl (Nat.le_of_ble_eq_true rfl) (show 2 + 1 ≤ 3 + dk by omega) (Nat.le_of_ble_eq_true rfl) rfl rfl rfl rfl (fun h20 hF => ?_)
    exact z_return dX6_choose_12 rfl ⟨rfl, hF⟩
set_option maxRecDepth 100000 in
set_option maxHeartbeats 4000000 in
theorem wX6_pay_9 {ψ : ZH → Prop} {l0 : Nat} {l1 : Int32} {l2 : Int32} {l3 : Int32} {h : ZH} (hF : ((3 ≤ l3 → ψ h) ∧ (¬ 3 ≤ l3 → (zK h l0 = 7) ∧ ((zR h l0 5) ≠ 0) ∧ (zK h (zR h l0 5) = 28) ∧ (vp_in (l1 + 1) (zN h (zR h l0 5))) ∧ ((zR h (zR h l0 5) (Int32.toNatClampNeg (l1 + 1))) ≠ 0) ∧ (vp_in l1 (zN h (zR h l0 5))) ∧ ((zR h (zR h l0 5) (Int32.toNatClampNeg l1)) ≠ 0) ∧ (zK h (zR h (zR h l0 5) (Int32.toNatClampNeg l1)) = 20) ∧ (vp_in l3 (zN h (zR h (zR h l0 5) (Int32.toNatClampNeg l1)))) ∧ ((zR h l0 3) ≠ 0) ∧ (zK h (zR h l0 3) = 28) ∧ (vp_in ((l1 * 6) + l2) (zN h (zR h l0 3))) ∧ ((zR h (zR h l0 3) (Int32.toNatClampNeg ((l1 * 6) + l2))) ≠ 0) ∧ (zK h (zR h (zR h l0 3) (Int32.toNatClampNeg ((l1 * 6) + l2))) = 20) ∧ (vp_in l3 (zN h (zR h (zR h l0 3) (Int32.toNatClampNeg ((l1 * 6) + l2))))) ∧ (zK h (zR h (zR h l0 5) (Int32.toNatClampNeg (l1 + 1))) = 20) ∧ (vp_in l3 (zN h (zR h (zR h l0 5) (Int32.toNatClampNeg (l1 + 1))))) ∧ Zt mX6_pay (zPV ψ) 0 0 9 [some (.ref l0), some (.int l1), some (.int l2), some (.int (l3 + 1))] [] (zsI h (zR h (zR h l0 5) (Int32.toNatClampNeg (l1 + 1))) (Int32.toNatClampNeg l3) ((zI h (zR h (zR h l0 5) (Int32.toNatClampNeg l1)) (Int32.toNatClampNeg l3)) + (zI h (zR h (zR h l0 3) (Int32.toNatClampNeg ((l1 * 6) + l2))) (Int32.toNatClampNeg l3))))))) : Zt mX6_pay (zPV ψ) 0 0 9 [some (.ref l0), some (.int l1), some (.int l2), some (.int l3)] [] h := by
  refine z_iload_n (q := 10) dX6_pay_9 rfl rfl rfl ?_
  refine z_iconst (q := 11) (v := 3) dX6_pay_10 (by decide) rfl ?_
  refine z_icmp_ge (t := 52) (q := 14) dX6_pay_11 (by decide) rfl (fun hc => ?_) (fun hc => ?_)
  · have hF := hF.1 hc
    exact z_return dX6_pay_52 rfl ⟨rfl, hF⟩
  · have hF := hF.2 hc
    refine z_aload_n (q := 15) dX6_pay_14 rfl rfl rfl ?_
    obtain ⟨g1, hF⟩ := hF
    obtain ⟨g2, hF⟩ := hF
    refine z_getR (c := 6) (k := 5) (r := (RX6, TX6, 15)) (q := 18) dX6_pay_15 rfl (by decide) fl_X6_30 rfl g1 g2 rfl ?_
    refine z_iload_n (q := 19) dX6_pay_18 rfl rfl rfl ?_
    refine z_iconst (q := 20) (v := 1) dX6_pay_19 (by decide) rfl ?_
    refine z_iadd (q := 21) dX6_pay_20 rfl ?_
    obtain ⟨g3, hF⟩ := hF
    obtain ⟨g4, hF⟩ := hF
    obtain ⟨g5, hF⟩ := hF
    refine y_aald (kd := 28) (j := (Int32.toNatClampNeg (l1 + 1))) (q := 22) dX6_pay_21 g3 (by decide) (by decide) rfl g4 rfl g5 rfl ?_
    refine z_iload_n (q := 23) dX6_pay_22 rfl rfl rfl ?_
    refine z_aload_n (q := 24) dX6_pay_23 rfl rfl rfl ?_
    refine z_getR (c := 6) (k := 5) (r := (RX6, TX6, 15)) (q := 27) dX6_pay_24 rfl (by decide) fl_X6_30 rfl g1 g2 rfl ?_
    refine z_iload_n (q := 28) dX6_pay_27 rfl rfl rfl ?_
    obtain ⟨g6, hF⟩ := hF
    obtain ⟨g7, hF⟩ := hF
    refine y_aald (kd := 28) (j := (Int32.toNatClampNeg l1)) (q := 29) dX6_pay_28 g3 (by decide) (by decide) rfl g6 rfl g7 rfl ?_
    refine z_iload_n (q := 30) dX6_pay_29 rfl rfl rfl ?_
    obtain ⟨g8, hF⟩ := hF
    obtain ⟨g9, hF⟩ := hF
    refine y_iald (j := (Int32.toNatClampNeg l3)) (q := 31) dX6_pay_30 (Or.inl g8) g9 rfl rfl ?_
    refine z_aload_n (q := 32) dX6_pay_31 rfl rfl rfl ?_
    obtain ⟨g10, hF⟩ := hF
    refine z_getR (c := 6) (k := 3) (r := (RX6, TX6, 15)) (q := 35) dX6_pay_32 rfl (by decide) fl_X6_24 rfl g1 g10 rfl ?_
    refine z_iload_n (q := 36) dX6_pay_35 rfl rfl rfl ?_
    refine z_bipush (q := 38) (v := 6) dX6_pay_36 (by decide) rfl ?_
    refine z_imul (q := 39) dX6_pay_38 rfl ?_
    refine z_iload_n (q := 40) dX6_pay_39 rfl rfl rfl ?_
    refine z_iadd (q := 41) dX6_pay_40 rfl ?_
    obtain ⟨g11, hF⟩ := hF
    obtain ⟨g12, hF⟩ := hF
    obtain ⟨g13, hF⟩ := hF
    refine y_aald (kd := 28) (j := (Int32.toNatClampNeg ((l1 * 6) + l2))) (q := 42) dX6_pay_41 g11 (by decide) (by decide) rfl g12 rfl g13 rfl ?_
    refine z_iload_n (q := 43) dX6_pay_42 rfl rfl rfl ?_
    obtain ⟨g14, hF⟩ := hF
    obtain ⟨g15, hF⟩ := hF
    refine y_iald (j := (Int32.toNatClampNeg l3)) (q := 44) dX6_pay_43 (Or.inl g14) g15 rfl rfl ?_
    refine z_iadd (q := 45) dX6_pay_44 rfl ?_
    obtain ⟨g16, hF⟩ := hF
    obtain ⟨g17, hF⟩ := hF
    refine y_iast (j := (Int32.toNatClampNeg l3)) (q := 46) dX6_pay_45 g16 g17 rfl rfl ?_
    refine z_iinc (q := 49) (v := (l3 + 1)) (L' := [some (.ref l0), some (.int l1), some (.int l2), some (.int (l3 + 1))]) dX6_pay_46 rfl rfl (Nat.le_of_ble_eq_true rfl) rfl rfl rfl ?_
    refine z_goto (q := 9) dX6_pay_49 (by decide) ?_
    exact hF
set_option maxRecDepth 100000 in
set_option maxHeartbeats 4000000 in
theorem wX6_pay {ψ : ZH → Prop} {l0 : Nat} {l1 : Int32} {l2 : Int32} {h : ZH} (hF : (zK h l0 = 7) ∧ ((zR h l0 6) ≠ 0) ∧ (zK h (zR h l0 6) = 20) ∧ (vp_in l1 (zN h (zR h l0 6))) ∧ Zt mX6_pay (zPV ψ) 0 0 9 [some (.ref l0), some (.int l1), some (.int l2), some (.int 0)] [] (zsI h (zR h l0 6) (Int32.toNatClampNeg l1) l2)) : ZcV mX6_pay [.ref l0, .int l1, .int l2] h ψ := by
  refine Zc.intro (L := [some (.ref l0), some (.int l1), some (.int l2), none]) (show plainName RX6 = true by decide) rfl (Nat.le_of_ble_eq_true rfl) ?_
  show Zt _ _ 0 0 _ _ _ _
  refine z_aload_n (q := 1) dX6_pay_0 rfl rfl rfl ?_
  obtain ⟨g18, hF⟩ := hF
  obtain ⟨g19, hF⟩ := hF
  refine z_getR (c := 6) (k := 6) (r := (RX6, TX6, 15)) (q := 4) dX6_pay_1 rfl (by decide) fl_X6_33 rfl g18 g19 rfl ?_
  refine z_iload_n (q := 5) dX6_pay_4 rfl rfl rfl ?_
  refine z_iload_n (q := 6) dX6_pay_5 rfl rfl rfl ?_
  obtain ⟨g20, hF⟩ := hF
  obtain ⟨g21, hF⟩ := hF
  refine y_iast (j := (Int32.toNatClampNeg l1)) (q := 7) dX6_pay_6 g20 g21 rfl rfl ?_
  refine z_iconst (q := 8) (v := 0) dX6_pay_7 (by decide) rfl ?_
  refine z_istore_n (q := 9) (L' := [some (.ref l0), some (.int l1), some (.int l2), some (.int 0)]) dX6_pay_8 rfl (Nat.le_of_ble_eq_true rfl) rfl rfl rfl ?_
  exact hF
set_option maxRecDepth 100000 in
set_option maxHeartbeats 4000000 in
theorem wX6_mayBeBetter_2 {ψ : Int32 → ZH → Prop} {l0 : Nat} {l1 : Int32} {l2 : Int32} {h : ZH} (hF : ((3 ≤ l2 → ψ 1 h) ∧ (¬ 3 ≤ l2 → (zK h l0 = 7) ∧ ((zR h l0 5) ≠ 0) ∧ (zK h (zR h l0 5) = 28) ∧ (vp_in l1 (zN h (zR h l0 5))) ∧ ((zR h (zR h l0 5) (Int32.toNatClampNeg l1)) ≠ 0) ∧ (zK h (zR h (zR h l0 5) (Int32.toNatClampNeg l1)) = 20) ∧ (vp_in l2 (zN h (zR h (zR h l0 5) (Int32.toNatClampNeg l1)))) ∧ ((zR h l0 4) ≠ 0) ∧ (zK h (zR h l0 4) = 28) ∧ (vp_in l1 (zN h (zR h l0 4))) ∧ ((zR h (zR h l0 4) (Int32.toNatClampNeg l1)) ≠ 0) ∧ (zK h (zR h (zR h l0 4) (Int32.toNatClampNeg l1)) = 20) ∧ (vp_in l2 (zN h (zR h (zR h l0 4) (Int32.toNatClampNeg l1)))) ∧ ((((zI h (zR h (zR h l0 5) (Int32.toNatClampNeg l1)) (Int32.toNatClampNeg l2)) + (zI h (zR h (zR h l0 4) (Int32.toNatClampNeg l1)) (Int32.toNatClampNeg l2))) < (zI h l0 13) → Zt mX6_mayBeBetter (zPI ψ) 0 0 2 [some (.ref l0), some (.int l1), some (.int (l2 + 1))] [] h) ∧ (¬ ((zI h (zR h (zR h l0 5) (Int32.toNatClampNeg l1)) (Int32.toNatClampNeg l2)) + (zI h (zR h (zR h l0 4) (Int32.toNatClampNeg l1)) (Int32.toNatClampNeg l2))) < (zI h l0 13) → ψ 0 h))))) : Zt mX6_mayBeBetter (zPI ψ) 0 0 2 [some (.ref l0), some (.int l1), some (.int l2)] [] h := by
  refine z_iload_n (q := 3) dX6_mayBeBetter_2 rfl rfl rfl ?_
  refine z_iconst (q := 4) (v := 3) dX6_mayBeBetter_3 (by decide) rfl ?_
  refine z_icmp_ge (t := 39) (q := 7) dX6_mayBeBetter_4 (by decide) rfl (fun hc => ?_) (fun hc => ?_)
  · have hF := hF.1 hc
    refine z_iconst (q := 40) (v := 1) dX6_mayBeBetter_39 (by decide) rfl ?_
    exact z_zreturn dX6_mayBeBetter_40 rfl (by decide) ⟨_, rfl, hF⟩
  · have hF := hF.2 hc
    refine z_aload_n (q := 8) dX6_mayBeBetter_7 rfl rfl rfl ?_
    obtain ⟨g1, hF⟩ := hF
    obtain ⟨g2, hF⟩ := hF
    refine z_getR (c := 6) (k := 5) (r := (RX6, TX6, 15)) (q := 11) dX6_mayBeBetter_8 rfl (by decide) fl_X6_30 rfl g1 g2 rfl ?_
    refine z_iload_n (q := 12) dX6_mayBeBetter_11 rfl rfl rfl ?_
    obtain ⟨g3, hF⟩ := hF
    obtain ⟨g4, hF⟩ := hF
    obtain ⟨g5, hF⟩ := hF
    refine y_aald (kd := 28) (j := (Int32.toNatClampNeg l1)) (q := 13) dX6_mayBeBetter_12 g3 (by decide) (by decide) rfl g4 rfl g5 rfl ?_
    refine z_iload_n (q := 14) dX6_mayBeBetter_13 rfl rfl rfl ?_
    obtain ⟨g6, hF⟩ := hF
    obtain ⟨g7, hF⟩ := hF
    refine y_iald (j := (Int32.toNatClampNeg l2)) (q := 15) dX6_mayBeBetter_14 (Or.inl g6) g7 rfl rfl ?_
    refine z_aload_n (q := 16) dX6_mayBeBetter_15 rfl rfl rfl ?_
    obtain ⟨g8, hF⟩ := hF
    refine z_getR (c := 6) (k := 4) (r := (RX6, TX6, 15)) (q := 19) dX6_mayBeBetter_16 rfl (by decide) fl_X6_27 rfl g1 g8 rfl ?_
    refine z_iload_n (q := 20) dX6_mayBeBetter_19 rfl rfl rfl ?_
    obtain ⟨g9, hF⟩ := hF
    obtain ⟨g10, hF⟩ := hF
    obtain ⟨g11, hF⟩ := hF
    refine y_aald (kd := 28) (j := (Int32.toNatClampNeg l1)) (q := 21) dX6_mayBeBetter_20 g9 (by decide) (by decide) rfl g10 rfl g11 rfl ?_
    refine z_iload_n (q := 22) dX6_mayBeBetter_21 rfl rfl rfl ?_
    obtain ⟨g12, hF⟩ := hF
    obtain ⟨g13, hF⟩ := hF
    refine y_iald (j := (Int32.toNatClampNeg l2)) (q := 23) dX6_mayBeBetter_22 (Or.inl g12) g13 rfl rfl ?_
    refine z_iadd (q := 24) dX6_mayBeBetter_23 rfl ?_
    refine z_aload_n (q := 25) dX6_mayBeBetter_24 rfl rfl rfl ?_
    refine z_getI (c := 6) (k := 13) (r := (RX6, TX6, 15)) (q := 28) dX6_mayBeBetter_25 rfl (by decide) fl_X6_94 rfl g1 rfl ?_
    refine z_icmp_lt (t := 33) (q := 31) dX6_mayBeBetter_28 (by decide) rfl (fun hc => ?_) (fun hc => ?_)
    · have hF := hF.1 hc
      refine z_iinc (q := 36) (v := (l2 + 1)) (L' := [some (.ref l0), some (.int l1), some (.int (l2 + 1))]) dX6_mayBeBetter_33 rfl rfl (Nat.le_of_ble_eq_true rfl) rfl rfl rfl ?_
      refine z_goto (q := 2) dX6_mayBeBetter_36 (by decide) ?_
      exact hF
    · have hF := hF.2 hc
      refine z_iconst (q := 32) (v := 0) dX6_mayBeBetter_31 (by decide) rfl ?_
      exact z_zreturn dX6_mayBeBetter_32 rfl (by decide) ⟨_, rfl, hF⟩
set_option maxRecDepth 100000 in
set_option maxHeartbeats 4000000 in
theorem wX6_mayBeBetter {ψ : Int32 → ZH → Prop} {l0 : Nat} {l1 : Int32} {h : ZH} (hF : Zt mX6_mayBeBetter (zPI ψ) 0 0 2 [some (.ref l0), some (.int l1), some (.int 0)] [] h) : ZcI mX6_mayBeBetter [.ref l0, .int l1] h ψ := by
  refine Zc.intro (L := [some (.ref l0), some (.int l1), none]) (show plainName RX6 = true by decide) rfl (Nat.le_of_ble_eq_true rfl) ?_
  show Zt _ _ 0 0 _ _ _ _
  refine z_iconst (q := 1) (v := 0) dX6_mayBeBetter_0 (by decide) rfl ?_
  refine z_istore_n (q := 2) (L' := [some (.ref l0), some (.int l1), some (.int 0)]) dX6_mayBeBetter_1 rfl (Nat.le_of_ble_eq_true rfl) rfl rfl rfl ?_
  exact hF
set_option maxRecDepth 100000 in
set_option maxHeartbeats 4000000 in
theorem wX6_keepAsBest_19 {ψ : ZH → Prop} {l0 : Nat} {l1 : Int32} {h : ZH} (hF : (zK h l0 = 7) ∧ (((zI h l0 8) ≤ l1 → ψ h) ∧ (¬ (zI h l0 8) ≤ l1 → ((zR h l0 6) ≠ 0) ∧ (zK h (zR h l0 6) = 20) ∧ (vp_in l1 (zN h (zR h l0 6))) ∧ Zt mX6_keepAsBest (zPV ψ) 0 0 19 [some (.ref l0), some (.int (l1 + 1))] [] (zsI h l0 14 (((zI h l0 14) * 10) + (zI h (zR h l0 6) (Int32.toNatClampNeg l1))))))) : Zt mX6_keepAsBest (zPV ψ) 0 0 19 [some (.ref l0), some (.int l1)] [] h := by
  refine z_iload_n (q := 20) dX6_keepAsBest_19 rfl rfl rfl ?_
  refine z_aload_n (q := 21) dX6_keepAsBest_20 rfl rfl rfl ?_
  obtain ⟨g1, hF⟩ := hF
  refine z_getI (c := 6) (k := 8) (r := (RX6, TX6, 15)) (q := 24) dX6_keepAsBest_21 rfl (by decide) fl_X6_39 rfl g1 rfl ?_
  refine z_icmp_ge (t := 51) (q := 27) dX6_keepAsBest_24 (by decide) rfl (fun hc => ?_) (fun hc => ?_)
  · have hF := hF.1 hc
    exact z_return dX6_keepAsBest_51 rfl ⟨rfl, hF⟩
  · have hF := hF.2 hc
    refine z_aload_n (q := 28) dX6_keepAsBest_27 rfl rfl rfl ?_
    refine z_aload_n (q := 29) dX6_keepAsBest_28 rfl rfl rfl ?_
    refine z_getI (c := 6) (k := 14) (r := (RX6, TX6, 15)) (q := 32) dX6_keepAsBest_29 rfl (by decide) fl_X6_127 rfl g1 rfl ?_
    refine z_bipush (q := 34) (v := 10) dX6_keepAsBest_32 (by decide) rfl ?_
    refine z_imul (q := 35) dX6_keepAsBest_34 rfl ?_
    refine z_aload_n (q := 36) dX6_keepAsBest_35 rfl rfl rfl ?_
    obtain ⟨g2, hF⟩ := hF
    refine z_getR (c := 6) (k := 6) (r := (RX6, TX6, 15)) (q := 39) dX6_keepAsBest_36 rfl (by decide) fl_X6_33 rfl g1 g2 rfl ?_
    refine z_iload_n (q := 40) dX6_keepAsBest_39 rfl rfl rfl ?_
    obtain ⟨g3, hF⟩ := hF
    obtain ⟨g4, hF⟩ := hF
    refine y_iald (j := (Int32.toNatClampNeg l1)) (q := 41) dX6_keepAsBest_40 (Or.inl g3) g4 rfl rfl ?_
    refine z_iadd (q := 42) dX6_keepAsBest_41 rfl ?_
    refine z_putI (c := 6) (k := 14) (r := (RX6, TX6, 15)) (q := 45) dX6_keepAsBest_42 rfl (by decide) fl_X6_127 rfl rfl g1 rfl ?_
    refine z_iinc (q := 48) (v := (l1 + 1)) (L' := [some (.ref l0), some (.int (l1 + 1))]) dX6_keepAsBest_45 rfl rfl (Nat.le_of_ble_eq_true rfl) rfl rfl rfl ?_
    refine z_goto (q := 19) dX6_keepAsBest_48 (by decide) ?_
    exact hF
set_option maxRecDepth 100000 in
set_option maxHeartbeats 4000000 in
theorem wX6_keepAsBest {ψ : ZH → Prop} {l0 : Nat} {h : ZH} (hF : (zK h l0 = 7) ∧ ZcI mX6_worstRow [.ref l0] h (fun x7 h5 => (zK h5 l0 = 7) ∧ ZcI mX6_costByRow [.ref l0, .int x7] h5 (fun x10 h8 => (zK h8 l0 = 7) ∧ Zt mX6_keepAsBest (zPV ψ) 0 0 19 [some (.ref l0), some (.int 0)] [] (zsI (zsI h8 l0 13 x10) l0 14 0)))) : ZcV mX6_keepAsBest [.ref l0] h ψ := by
  refine Zc.intro (L := [some (.ref l0), none]) (show plainName RX6 = true by decide) rfl (Nat.le_of_ble_eq_true rfl) ?_
  show Zt _ _ 0 0 _ _ _ _
  refine z_aload_n (q := 1) dX6_keepAsBest_0 rfl rfl rfl ?_
  refine z_aload_n (q := 2) dX6_keepAsBest_1 rfl rfl rfl ?_
  refine z_aload_n (q := 3) dX6_keepAsBest_2 rfl rfl rfl ?_
  obtain ⟨g6, hF⟩ := hF
  refine z_callVI (rc := 0) (rs := 0) (b := l0) (av := []) (ci := 6) (r := (RX6, TX6, 15)) (q := 6) hF dX6_keepAsBest_3 ml_X6_123 ok_X6_worstRow in_X6_worstRow se_X6_worstRow rfl rfl g6 rfl (Nat.le_of_ble_eq_true rfl) (by decide) (Nat.le_of_ble_eq_true rfl) rfl rfl rfl rfl (fun x7 h5 hF => ?_)
  obtain ⟨g9, hF⟩ := hF
  refine z_callVI (rc := 0) (rs := 0) (b := l0) (av := [.int x7]) (ci := 6) (r := (RX6, TX6, 15)) (q := 9) hF dX6_keepAsBest_6 ml_X6_86 ok_X6_costByRow in_X6_costByRow se_X6_costByRow rfl rfl g9 rfl (Nat.le_of_ble_eq_true rfl) (by decide) (Nat.le_of_ble_eq_true rfl) rfl rfl rfl rfl (fun x10 h8 hF => ?_)
  obtain ⟨g11, hF⟩ := hF
  refine z_putI (c := 6) (k := 13) (r := (RX6, TX6, 15)) (q := 12) dX6_keepAsBest_9 rfl (by decide) fl_X6_94 rfl rfl g11 rfl ?_
  refine z_aload_n (q := 13) dX6_keepAsBest_12 rfl rfl rfl ?_
  refine z_iconst (q := 14) (v := 0) dX6_keepAsBest_13 (by decide) rfl ?_
  refine z_putI (c := 6) (k := 14) (r := (RX6, TX6, 15)) (q := 17) dX6_keepAsBest_14 rfl (by decide) fl_X6_127 rfl rfl g11 rfl ?_
  refine z_iconst (q := 18) (v := 0) dX6_keepAsBest_17 (by decide) rfl ?_
  refine z_istore_n (q := 19) (L' := [some (.ref l0), some (.int 0)]) dX6_keepAsBest_18 rfl (Nat.le_of_ble_eq_true rfl) rfl rfl rfl ?_
  exact hF
