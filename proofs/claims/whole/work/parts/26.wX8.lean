set_option maxRecDepth 100000 in
set_option maxHeartbeats 4000000 in
theorem wX8_init {ψ : ZH → Prop} {l0 : Nat} {h : ZH} (hF : ∃ a1 : Nat, a1 ≠ 0 ∧ zK h a1 = 0 ∧ ∀ h4 : ZH, h4 = (zmk h a1 20 40) → (zK h4 l0 = 9) ∧ ψ (zsR h4 l0 0 a1)) : ZcV mX8_init [.ref l0] h ψ := by
  refine Zc.intro (L := [some (.ref l0)]) (show plainName RX8 = true by decide) rfl (Nat.le_of_ble_eq_true rfl) ?_
  show Zt _ _ 1 40 _ _ _ _
  refine z_aload_n (q := 1) dX8_init_0 rfl rfl rfl ?_
  refine z_objInit (q := 4) dX8_init_1 ow_X8_3 (Nat.le_of_ble_eq_true rfl) (by decide) rfl ?_
  refine z_aload_n (q := 5) dX8_init_4 rfl rfl rfl ?_
  refine z_bipush (q := 7) (v := 40) dX8_init_5 (by decide) rfl ?_
  obtain ⟨a1, g2, g3, hF⟩ := hF
  refine z_newa (rc := 0) (rs := 0) (a := a1) (kd := 20) (N := 40) (q := 9) dX8_init_7 rfl (by decide) ac_20 (by decide) (by decide) (by decide) g2 g3 rfl ?_
  refine z_nameH (fun h4 eh5 => ?_)
  have hF := hF h4 eh5
  obtain ⟨g6, hF⟩ := hF
  refine z_putRF (c := 8) (k := 0) (r := (RX8, TX8, 2)) (q := 12) dX8_init_9 rfl (by decide) fw_X8_9 rfl rfl rfl rfl g6 rfl ?_
  exact z_return dX8_init_12 rfl ⟨rfl, hF⟩
set_option maxRecDepth 100000 in
set_option maxHeartbeats 4000000 in
theorem wX8_add {ψ : Int32 → ZH → Prop} {l0 : Nat} {l1 : Int32} {h : ZH} (hF : (zK h l0 = 9) ∧ (((zI h l0 1) < 40 → ((zR h l0 0) ≠ 0) ∧ (zK h (zR h l0 0) = 20) ∧ (vp_in (zI h l0 1) (zN h (zR h l0 0))) ∧ ∀ h5 : ZH, h5 = (zsI h (zR h l0 0) (Int32.toNatClampNeg (zI h l0 1)) l1) → (zK h5 l0 = 9) ∧ ψ 1 (zsI h5 l0 1 ((zI h5 l0 1) + 1))) ∧ (¬ (zI h l0 1) < 40 → ψ 0 h))) : ZcI mX8_add [.ref l0, .int l1] h ψ := by
  refine Zc.intro (L := [some (.ref l0), some (.int l1)]) (show plainName RX8 = true by decide) rfl (Nat.le_of_ble_eq_true rfl) ?_
  show Zt _ _ 0 0 _ _ _ _
  refine z_aload_n (q := 1) dX8_add_0 rfl rfl rfl ?_
  obtain ⟨g1, hF⟩ := hF
  refine z_getI (c := 8) (k := 1) (r := (RX8, TX8, 2)) (q := 4) dX8_add_1 rfl (by decide) fl_X8_15 rfl g1 rfl ?_
  refine z_bipush (q := 6) (v := 40) dX8_add_4 (by decide) rfl ?_
  refine z_icmp_lt (t := 11) (q := 9) dX8_add_6 (by decide) rfl (fun hc => ?_) (fun hc => ?_)
  · have hF := hF.1 hc
    refine z_aload_n (q := 12) dX8_add_11 rfl rfl rfl ?_
    obtain ⟨g2, hF⟩ := hF
    refine z_getR (c := 8) (k := 0) (r := (RX8, TX8, 2)) (q := 15) dX8_add_12 rfl (by decide) fl_X8_9 rfl g1 g2 rfl ?_
    refine z_aload_n (q := 16) dX8_add_15 rfl rfl rfl ?_
    refine z_getI (c := 8) (k := 1) (r := (RX8, TX8, 2)) (q := 19) dX8_add_16 rfl (by decide) fl_X8_15 rfl g1 rfl ?_
    refine z_iload_n (q := 20) dX8_add_19 rfl rfl rfl ?_
    obtain ⟨g3, hF⟩ := hF
    obtain ⟨g4, hF⟩ := hF
    refine y_iast (j := (Int32.toNatClampNeg (zI h l0 1))) (q := 21) dX8_add_20 g3 g4 rfl rfl ?_
    refine z_aload_n (q := 22) dX8_add_21 rfl rfl rfl ?_
    refine z_dup (q := 23) dX8_add_22 rfl rfl ?_
    refine z_nameH (fun h5 eh6 => ?_)
    have hF := hF h5 eh6
    obtain ⟨g7, hF⟩ := hF
    refine z_getI (c := 8) (k := 1) (r := (RX8, TX8, 2)) (q := 26) dX8_add_23 rfl (by decide) fl_X8_15 rfl g7 rfl ?_
    refine z_iconst (q := 27) (v := 1) dX8_add_26 (by decide) rfl ?_
    refine z_iadd (q := 28) dX8_add_27 rfl ?_
    refine z_putI (c := 8) (k := 1) (r := (RX8, TX8, 2)) (q := 31) dX8_add_28 rfl (by decide) fl_X8_15 rfl rfl g7 rfl ?_
    refine z_iconst (q := 32) (v := 1) dX8_add_31 (by decide) rfl ?_
    exact z_zreturn dX8_add_32 rfl (by decide) ⟨_, rfl, hF⟩
  · have hF := hF.2 hc
    refine z_iconst (q := 10) (v := 0) dX8_add_9 (by decide) rfl ?_
    exact z_zreturn dX8_add_10 rfl (by decide) ⟨_, rfl, hF⟩
set_option maxRecDepth 100000 in
set_option maxHeartbeats 4000000 in
theorem wX8_copyFrom {ψ : ZH → Prop} {l0 : Nat} {l1 : Nat} {h : ZH} (hF : (zK h l1 = 9) ∧ ((zR h l1 0) ≠ 0) ∧ (zK h l0 = 9) ∧ ((zR h l0 0) ≠ 0) ∧ (zK h (zR h l0 0) = 20) ∧ (zK h (zR h l1 0) = 20) ∧ ((zR h l0 0) ≠ (zR h l1 0)) ∧ (40 ≤ zN h (zR h l1 0)) ∧ (40 ≤ zN h (zR h l0 0)) ∧ ∀ h10 : ZH, h10 = (zcp h (zR h l1 0) 0 (zR h l0 0) 0 40) → (zK h10 l1 = 9) ∧ (zK h10 l0 = 9) ∧ ψ (zsI h10 l0 1 (zI h10 l1 1))) : ZcV mX8_copyFrom [.ref l0, .ref l1] h ψ := by
  refine Zc.intro (L := [some (.ref l0), some (.ref l1)]) (show plainName RX8 = true by decide) rfl (Nat.le_of_ble_eq_true rfl) ?_
  show Zt _ _ 0 0 _ _ _ _
  refine z_aload_n (q := 1) dX8_copyFrom_0 rfl rfl rfl ?_
  obtain ⟨g1, hF⟩ := hF
  obtain ⟨g2, hF⟩ := hF
  refine z_getR (c := 8) (k := 0) (r := (RX8, TX8, 2)) (q := 4) dX8_copyFrom_1 rfl (by decide) fl_X8_9 rfl g1 g2 rfl ?_
  refine z_iconst (q := 5) (v := 0) dX8_copyFrom_4 (by decide) rfl ?_
  refine z_aload_n (q := 6) dX8_copyFrom_5 rfl rfl rfl ?_
  obtain ⟨g3, hF⟩ := hF
  obtain ⟨g4, hF⟩ := hF
  refine z_getR (c := 8) (k := 0) (r := (RX8, TX8, 2)) (q := 9) dX8_copyFrom_6 rfl (by decide) fl_X8_9 rfl g3 g4 rfl ?_
  refine z_iconst (q := 10) (v := 0) dX8_copyFrom_9 (by decide) rfl ?_
  refine z_bipush (q := 12) (v := 40) dX8_copyFrom_10 (by decide) rfl ?_
  obtain ⟨g5, hF⟩ := hF
  obtain ⟨g6, hF⟩ := hF
  obtain ⟨g7, hF⟩ := hF
  obtain ⟨g8, hF⟩ := hF
  obtain ⟨g9, hF⟩ := hF
  refine z_acp (a := (zR h l0 0)) (b := (zR h l1 0)) (kd := 20) (sp := 0) (dp := 0) (n := 40) (q := 15) dX8_copyFrom_12 aw_X8_19 g5 (Or.inl g6) (by decide) g7 (by decide) (by decide) (by decide) (zadd0 (by decide) (by decide) g8) (zadd0 (by decide) (by decide) g9) (fun e => absurd e (by decide)) (Nat.le_of_ble_eq_true rfl) (by decide) rfl ?_
  refine z_nameH (fun h10 eh11 => ?_)
  have hF := hF h10 eh11
  refine z_aload_n (q := 16) dX8_copyFrom_15 rfl rfl rfl ?_
  refine z_aload_n (q := 17) dX8_copyFrom_16 rfl rfl rfl ?_
  obtain ⟨g12, hF⟩ := hF
  refine z_getI (c := 8) (k := 1) (r := (RX8, TX8, 2)) (q := 20) dX8_copyFrom_17 rfl (by decide) fl_X8_15 rfl g12 rfl ?_
  obtain ⟨g13, hF⟩ := hF
  refine z_putI (c := 8) (k := 1) (r := (RX8, TX8, 2)) (q := 23) dX8_copyFrom_20 rfl (by decide) fl_X8_15 rfl rfl g13 rfl ?_
  exact z_return dX8_copyFrom_23 rfl ⟨rfl, hF⟩
set_option maxRecDepth 100000 in
set_option maxHeartbeats 4000000 in
theorem wX8_firstFault_74 {ψ : Int32 → ZH → Prop} {l0 : Nat} {l1 : Int32} {l3 : Int32} {s0 : Int32} {h : ZH} (hF : ((s0 = 0 → ψ l3 h) ∧ (¬ s0 = 0 → (zK h l0 = 9) ∧ ((zR h l0 0) ≠ 0) ∧ (zK h (zR h l0 0) = 20) ∧ (vp_in l3 (zN h (zR h l0 0))) ∧ ZcI mX8_heightBehind [.int (zI h (zR h l0 0) (Int32.toNatClampNeg l3)), .int l1] h (fun x6 h5 => ((¬ x6 = (-6) → Zt mX8_firstFault (zPI ψ) 0 0 6 [some (.ref l0), some (.int x6), some (.int 0), some (.int (l3 + 1)), none] [] h5) ∧ (x6 = (-6) → ψ l3 h5)))))) : Zt mX8_firstFault (zPI ψ) 0 0 74 [some (.ref l0), some (.int l1), none, some (.int l3), none] [.int s0] h := by
  refine z_istore (q := 76) (L' := [some (.ref l0), some (.int l1), none, some (.int l3), some (.int s0)]) dX8_firstFault_74 (Nat.le_of_ble_eq_true rfl) rfl rfl rfl ?_
  refine z_iload (q := 78) dX8_firstFault_76 rfl rfl ?_
  refine z_if_eq (t := 94) (q := 81) dX8_firstFault_78 (by decide) rfl (fun hc => ?_) (fun hc => ?_)
  · have hF := hF.1 hc
    refine z_bipush (q := 96) (v := (-6)) dX8_firstFault_94 (by decide) rfl ?_
    refine z_istore_n (q := 97) (L' := [some (.ref l0), some (.int (-6)), none, some (.int l3), some (.int s0)]) dX8_firstFault_96 rfl (Nat.le_of_ble_eq_true rfl) rfl rfl rfl ?_
    refine z_iload_n (q := 98) dX8_firstFault_97 rfl rfl rfl ?_
    refine z_bipush (q := 100) (v := (-6)) dX8_firstFault_98 (by decide) rfl ?_
    refine z_icmp_ne (t := 105) (q := 103) dX8_firstFault_100 (by decide) rfl (fun hc => absurd hc (by decide)) (fun _ => ?_)
    refine z_iload_n (q := 104) dX8_firstFault_103 rfl rfl rfl ?_
    exact z_ireturn dX8_firstFault_104 rfl ⟨_, rfl, hF⟩
  · have hF := hF.2 hc
    refine z_aload_n (q := 82) dX8_firstFault_81 rfl rfl rfl ?_
    obtain ⟨g1, hF⟩ := hF
    obtain ⟨g2, hF⟩ := hF
    refine z_getR (c := 8) (k := 0) (r := (RX8, TX8, 2)) (q := 85) dX8_firstFault_82 rfl (by decide) fl_X8_9 rfl g1 g2 rfl ?_
    refine z_iload_n (q := 86) dX8_firstFault_85 rfl rfl rfl ?_
    obtain ⟨g3, hF⟩ := hF
    obtain ⟨g4, hF⟩ := hF
    refine y_iald (j := (Int32.toNatClampNeg l3)) (q := 87) dX8_firstFault_86 (Or.inl g3) g4 rfl rfl ?_
    refine z_iload_n (q := 88) dX8_firstFault_87 rfl rfl rfl ?_
    refine z_callSI (rc := 0) (rs := 0) (av := [.int (zI h (zR h l0 0) (Int32.toNatClampNeg l3)), .int l1]) (q := 91) hF dX8_firstFault_88 ml_X8_29 ok_X8_heightBehind st_X8_heightBehind rfl (Nat.le_of_ble_eq_true rfl) (by decide) (Nat.le_of_ble_eq_true rfl) rfl rfl rfl rfl (fun x6 h5 hF => ?_)
    refine z_goto (q := 96) dX8_firstFault_91 (by decide) ?_
    refine z_istore_n (q := 97) (L' := [some (.ref l0), some (.int x6), none, some (.int l3), some (.int s0)]) dX8_firstFault_96 rfl (Nat.le_of_ble_eq_true rfl) rfl rfl rfl ?_
    refine z_iload_n (q := 98) dX8_firstFault_97 rfl rfl rfl ?_
    refine z_bipush (q := 100) (v := (-6)) dX8_firstFault_98 (by decide) rfl ?_
    refine z_icmp_ne (t := 105) (q := 103) dX8_firstFault_100 (by decide) rfl (fun hc => ?_) (fun hc => ?_)
    · have hF := hF.1 hc
      refine z_iconst (q := 106) (v := 0) dX8_firstFault_105 (by decide) rfl ?_
      refine z_istore_n (q := 107) (L' := [some (.ref l0), some (.int x6), some (.int 0), some (.int l3), some (.int s0)]) dX8_firstFault_106 rfl (Nat.le_of_ble_eq_true rfl) rfl rfl rfl ?_
      refine z_iinc (q := 110) (v := (l3 + 1)) (L' := [some (.ref l0), some (.int x6), some (.int 0), some (.int (l3 + 1)), some (.int s0)]) dX8_firstFault_107 rfl rfl (Nat.le_of_ble_eq_true rfl) rfl rfl rfl ?_
      refine z_goto (q := 6) dX8_firstFault_110 (by decide) ?_
      refine Zt.drop (i := 4) (L' := [some (.ref l0), some (.int x6), some (.int 0), some (.int (l3 + 1)), none]) rfl ?_
      exact hF
    · have hF := hF.2 hc
      refine z_iload_n (q := 104) dX8_firstFault_103 rfl rfl rfl ?_
      exact z_ireturn dX8_firstFault_104 rfl ⟨_, rfl, hF⟩
set_option maxRecDepth 100000 in
set_option maxHeartbeats 4000000 in
theorem wX8_firstFault_6 {ψ : Int32 → ZH → Prop} {l0 : Nat} {l1 : Int32} {l2 : Int32} {l3 : Int32} {h : ZH} (hF : (zK h l0 = 9) ∧ (((zI h l0 1) ≤ l3 → ((¬ l2 = 0 → ψ (zI h l0 1) h) ∧ (l2 = 0 → ((¬ l1 = 1 → ψ (zI h l0 1) h) ∧ (l1 = 1 → ψ (-6) h))))) ∧ (¬ (zI h l0 1) ≤ l3 → ((zR h l0 0) ≠ 0) ∧ (zK h (zR h l0 0) = 20) ∧ (vp_in l3 (zN h (zR h l0 0))) ∧ ZcI mX8_isDigit [.int (zI h (zR h l0 0) (Int32.toNatClampNeg l3))] h (fun x12 h11 => ((x12 = 0 → ((l2 ≤ 0 → (zK h11 l0 = 9) ∧ ((zR h11 l0 0) ≠ 0) ∧ (zK h11 (zR h11 l0 0) = 20) ∧ (vp_in l3 (zN h11 (zR h11 l0 0))) ∧ ((¬ (zI h11 (zR h11 l0 0) (Int32.toNatClampNeg l3)) = 44 → Zt mX8_firstFault (zPI ψ) 0 0 74 [some (.ref l0), some (.int l1), none, some (.int l3), none] [.int 1] h11) ∧ ((zI h11 (zR h11 l0 0) (Int32.toNatClampNeg l3)) = 44 → Zt mX8_firstFault (zPI ψ) 0 0 74 [some (.ref l0), some (.int l1), none, some (.int l3), none] [.int 0] h11))) ∧ (¬ l2 ≤ 0 → (zK h11 l0 = 9) ∧ ((zR h11 l0 0) ≠ 0) ∧ (zK h11 (zR h11 l0 0) = 20) ∧ (vp_in l3 (zN h11 (zR h11 l0 0))) ∧ ((¬ (zI h11 (zR h11 l0 0) (Int32.toNatClampNeg l3)) = 44 → Zt mX8_firstFault (zPI ψ) 0 0 74 [some (.ref l0), some (.int l1), none, some (.int l3), none] [.int 0] h11) ∧ ((zI h11 (zR h11 l0 0) (Int32.toNatClampNeg l3)) = 44 → Zt mX8_firstFault (zPI ψ) 0 0 74 [some (.ref l0), some (.int l1), none, some (.int l3), none] [.int 1] h11))))) ∧ (¬ x12 = 0 → ((4 < (l2 + 1) → ψ l3 h11) ∧ (¬ 4 < (l2 + 1) → ((l1 < 5 → Zt mX8_firstFault (zPI ψ) 0 0 6 [some (.ref l0), some (.int l1), some (.int (l2 + 1)), some (.int (l3 + 1)), none] [] h11) ∧ (¬ l1 < 5 → ψ l3 h11)))))))))) : Zt mX8_firstFault (zPI ψ) 0 0 6 [some (.ref l0), some (.int l1), some (.int l2), some (.int l3), none] [] h := by
  refine z_iload_n (q := 7) dX8_firstFault_6 rfl rfl rfl ?_
  refine z_aload_n (q := 8) dX8_firstFault_7 rfl rfl rfl ?_
  obtain ⟨g7, hF⟩ := hF
  refine z_getI (c := 8) (k := 1) (r := (RX8, TX8, 2)) (q := 11) dX8_firstFault_8 rfl (by decide) fl_X8_15 rfl g7 rfl ?_
  refine z_icmp_ge (t := 113) (q := 14) dX8_firstFault_11 (by decide) rfl (fun hc => ?_) (fun hc => ?_)
  · have hF := hF.1 hc
    refine z_iload_n (q := 114) dX8_firstFault_113 rfl rfl rfl ?_
    refine z_if_ne (t := 127) (q := 117) dX8_firstFault_114 (by decide) rfl (fun hc => ?_) (fun hc => ?_)
    · have hF := hF.1 hc
      refine z_aload_n (q := 128) dX8_firstFault_127 rfl rfl rfl ?_
      refine z_getI (c := 8) (k := 1) (r := (RX8, TX8, 2)) (q := 131) dX8_firstFault_128 rfl (by decide) fl_X8_15 rfl g7 rfl ?_
      exact z_ireturn dX8_firstFault_131 rfl ⟨_, rfl, hF⟩
    · have hF := hF.2 hc
      refine z_iload_n (q := 118) dX8_firstFault_117 rfl rfl rfl ?_
      refine z_iconst (q := 119) (v := 1) dX8_firstFault_118 (by decide) rfl ?_
      refine z_icmp_ne (t := 127) (q := 122) dX8_firstFault_119 (by decide) rfl (fun hc => ?_) (fun hc => ?_)
      · have hF := hF.1 hc
        refine z_aload_n (q := 128) dX8_firstFault_127 rfl rfl rfl ?_
        refine z_getI (c := 8) (k := 1) (r := (RX8, TX8, 2)) (q := 131) dX8_firstFault_128 rfl (by decide) fl_X8_15 rfl g7 rfl ?_
        exact z_ireturn dX8_firstFault_131 rfl ⟨_, rfl, hF⟩
      · have hF := hF.2 hc
        refine z_bipush (q := 124) (v := (-6)) dX8_firstFault_122 (by decide) rfl ?_
        refine z_goto (q := 131) dX8_firstFault_124 (by decide) ?_
        exact z_ireturn dX8_firstFault_131 rfl ⟨_, rfl, hF⟩
  · have hF := hF.2 hc
    refine z_aload_n (q := 15) dX8_firstFault_14 rfl rfl rfl ?_
    obtain ⟨g8, hF⟩ := hF
    refine z_getR (c := 8) (k := 0) (r := (RX8, TX8, 2)) (q := 18) dX8_firstFault_15 rfl (by decide) fl_X8_9 rfl g7 g8 rfl ?_
    refine z_iload_n (q := 19) dX8_firstFault_18 rfl rfl rfl ?_
    obtain ⟨g9, hF⟩ := hF
    obtain ⟨g10, hF⟩ := hF
    refine y_iald (j := (Int32.toNatClampNeg l3)) (q := 20) dX8_firstFault_19 (Or.inl g9) g10 rfl rfl ?_
    refine z_callSI (rc := 0) (rs := 0) (av := [.int (zI h (zR h l0 0) (Int32.toNatClampNeg l3))]) (q := 23) hF dX8_firstFault_20 ml_X8_25 ok_X8_isDigit st_X8_isDigit rfl (Nat.le_of_ble_eq_true rfl) (by decide) (Nat.le_of_ble_eq_true rfl) rfl rfl rfl rfl (fun x12 h11 hF => ?_)
    refine z_if_eq (t := 41) (q := 26) dX8_firstFault_23 (by decide) rfl (fun hc => ?_) (fun hc => ?_)
    · have hF := hF.1 hc
      refine z_iload_n (q := 42) dX8_firstFault_41 rfl rfl rfl ?_
      refine z_if_le (t := 49) (q := 45) dX8_firstFault_42 (by decide) rfl (fun hc => ?_) (fun hc => ?_)
      · have hF := hF.1 hc
        refine z_iconst (q := 50) (v := 0) dX8_firstFault_49 (by decide) rfl ?_
        refine z_aload_n (q := 51) dX8_firstFault_50 rfl rfl rfl ?_
        obtain ⟨g13, hF⟩ := hF
        obtain ⟨g14, hF⟩ := hF
        refine z_getR (c := 8) (k := 0) (r := (RX8, TX8, 2)) (q := 54) dX8_firstFault_51 rfl (by decide) fl_X8_9 rfl g13 g14 rfl ?_
        refine z_iload_n (q := 55) dX8_firstFault_54 rfl rfl rfl ?_
        obtain ⟨g15, hF⟩ := hF
        obtain ⟨g16, hF⟩ := hF
        refine y_iald (j := (Int32.toNatClampNeg l3)) (q := 56) dX8_firstFault_55 (Or.inl g15) g16 rfl rfl ?_
        refine z_bipush (q := 58) (v := 44) dX8_firstFault_56 (by decide) rfl ?_
        refine z_icmp_ne (t := 65) (q := 61) dX8_firstFault_58 (by decide) rfl (fun hc => ?_) (fun hc => ?_)
        · have hF := hF.1 hc
          refine z_iconst (q := 66) (v := 0) dX8_firstFault_65 (by decide) rfl ?_
          refine z_icmp_ne (t := 73) (q := 69) dX8_firstFault_66 (by decide) rfl (fun hc => absurd hc (by decide)) (fun _ => ?_)
          refine z_iconst (q := 70) (v := 1) dX8_firstFault_69 (by decide) rfl ?_
          refine z_goto (q := 74) dX8_firstFault_70 (by decide) ?_
          refine Zt.drop (i := 2) (L' := [some (.ref l0), some (.int l1), none, some (.int l3), none]) rfl ?_
          exact hF
        · have hF := hF.2 hc
          refine z_iconst (q := 62) (v := 1) dX8_firstFault_61 (by decide) rfl ?_
          refine z_goto (q := 66) dX8_firstFault_62 (by decide) ?_
          refine z_icmp_ne (t := 73) (q := 69) dX8_firstFault_66 (by decide) rfl (fun _ => ?_) (fun hc => absurd hc (by decide))
          refine z_iconst (q := 74) (v := 0) dX8_firstFault_73 (by decide) rfl ?_
          refine Zt.drop (i := 2) (L' := [some (.ref l0), some (.int l1), none, some (.int l3), none]) rfl ?_
          exact hF
      · have hF := hF.2 hc
        refine z_iconst (q := 46) (v := 1) dX8_firstFault_45 (by decide) rfl ?_
        refine z_goto (q := 50) dX8_firstFault_46 (by decide) ?_
        refine z_aload_n (q := 51) dX8_firstFault_50 rfl rfl rfl ?_
        obtain ⟨g17, hF⟩ := hF
        obtain ⟨g18, hF⟩ := hF
        refine z_getR (c := 8) (k := 0) (r := (RX8, TX8, 2)) (q := 54) dX8_firstFault_51 rfl (by decide) fl_X8_9 rfl g17 g18 rfl ?_
        refine z_iload_n (q := 55) dX8_firstFault_54 rfl rfl rfl ?_
        obtain ⟨g19, hF⟩ := hF
        obtain ⟨g20, hF⟩ := hF
        refine y_iald (j := (Int32.toNatClampNeg l3)) (q := 56) dX8_firstFault_55 (Or.inl g19) g20 rfl rfl ?_
        refine z_bipush (q := 58) (v := 44) dX8_firstFault_56 (by decide) rfl ?_
        refine z_icmp_ne (t := 65) (q := 61) dX8_firstFault_58 (by decide) rfl (fun hc => ?_) (fun hc => ?_)
        · have hF := hF.1 hc
          refine z_iconst (q := 66) (v := 0) dX8_firstFault_65 (by decide) rfl ?_
          refine z_icmp_ne (t := 73) (q := 69) dX8_firstFault_66 (by decide) rfl (fun _ => ?_) (fun hc => absurd hc (by decide))
          refine z_iconst (q := 74) (v := 0) dX8_firstFault_73 (by decide) rfl ?_
          refine Zt.drop (i := 2) (L' := [some (.ref l0), some (.int l1), none, some (.int l3), none]) rfl ?_
          exact hF
        · have hF := hF.2 hc
          refine z_iconst (q := 62) (v := 1) dX8_firstFault_61 (by decide) rfl ?_
          refine z_goto (q := 66) dX8_firstFault_62 (by decide) ?_
          refine z_icmp_ne (t := 73) (q := 69) dX8_firstFault_66 (by decide) rfl (fun hc => absurd hc (by decide)) (fun _ => ?_)
          refine z_iconst (q := 70) (v := 1) dX8_firstFault_69 (by decide) rfl ?_
          refine z_goto (q := 74) dX8_firstFault_70 (by decide) ?_
          refine Zt.drop (i := 2) (L' := [some (.ref l0), some (.int l1), none, some (.int l3), none]) rfl ?_
          exact hF
    · have hF := hF.2 hc
      refine z_iinc (q := 29) (v := (l2 + 1)) (L' := [some (.ref l0), some (.int l1), some (.int (l2 + 1)), some (.int l3), none]) dX8_firstFault_26 rfl rfl (Nat.le_of_ble_eq_true rfl) rfl rfl rfl ?_
      refine z_iload_n (q := 30) dX8_firstFault_29 rfl rfl rfl ?_
      refine z_iconst (q := 31) (v := 4) dX8_firstFault_30 (by decide) rfl ?_
      refine z_icmp_gt (t := 39) (q := 34) dX8_firstFault_31 (by decide) rfl (fun hc => ?_) (fun hc => ?_)
      · have hF := hF.1 hc
        refine z_iload_n (q := 40) dX8_firstFault_39 rfl rfl rfl ?_
        exact z_ireturn dX8_firstFault_40 rfl ⟨_, rfl, hF⟩
      · have hF := hF.2 hc
        refine z_iload_n (q := 35) dX8_firstFault_34 rfl rfl rfl ?_
        refine z_iconst (q := 36) (v := 5) dX8_firstFault_35 (by decide) rfl ?_
        refine z_icmp_lt (t := 107) (q := 39) dX8_firstFault_36 (by decide) rfl (fun hc => ?_) (fun hc => ?_)
        · have hF := hF.1 hc
          refine z_iinc (q := 110) (v := (l3 + 1)) (L' := [some (.ref l0), some (.int l1), some (.int (l2 + 1)), some (.int (l3 + 1)), none]) dX8_firstFault_107 rfl rfl (Nat.le_of_ble_eq_true rfl) rfl rfl rfl ?_
          refine z_goto (q := 6) dX8_firstFault_110 (by decide) ?_
          exact hF
        · have hF := hF.2 hc
          refine z_iload_n (q := 40) dX8_firstFault_39 rfl rfl rfl ?_
          exact z_ireturn dX8_firstFault_40 rfl ⟨_, rfl, hF⟩
set_option maxRecDepth 100000 in
set_option maxHeartbeats 4000000 in
theorem wX8_firstFault {ψ : Int32 → ZH → Prop} {l0 : Nat} {h : ZH} (hF : Zt mX8_firstFault (zPI ψ) 0 0 6 [some (.ref l0), some (.int 0), some (.int 0), some (.int 0), none] [] h) : ZcI mX8_firstFault [.ref l0] h ψ := by
  refine Zc.intro (L := [some (.ref l0), none, none, none, none]) (show plainName RX8 = true by decide) rfl (Nat.le_of_ble_eq_true rfl) ?_
  show Zt _ _ 0 0 _ _ _ _
  refine z_iconst (q := 1) (v := 0) dX8_firstFault_0 (by decide) rfl ?_
  refine z_istore_n (q := 2) (L' := [some (.ref l0), some (.int 0), none, none, none]) dX8_firstFault_1 rfl (Nat.le_of_ble_eq_true rfl) rfl rfl rfl ?_
  refine z_iconst (q := 3) (v := 0) dX8_firstFault_2 (by decide) rfl ?_
  refine z_istore_n (q := 4) (L' := [some (.ref l0), some (.int 0), some (.int 0), none, none]) dX8_firstFault_3 rfl (Nat.le_of_ble_eq_true rfl) rfl rfl rfl ?_
  refine z_iconst (q := 5) (v := 0) dX8_firstFault_4 (by decide) rfl ?_
  refine z_istore_n (q := 6) (L' := [some (.ref l0), some (.int 0), some (.int 0), some (.int 0), none]) dX8_firstFault_5 rfl (Nat.le_of_ble_eq_true rfl) rfl rfl rfl ?_
  exact hF
set_option maxRecDepth 100000 in
set_option maxHeartbeats 4000000 in
theorem wX8_isDigit {ψ : Int32 → ZH → Prop} {l0 : Int32} {h : ZH} (hF : ((l0 < 48 → ψ 0 h) ∧ (¬ l0 < 48 → ((57 < l0 → ψ 0 h) ∧ (¬ 57 < l0 → ψ 1 h))))) : ZcI mX8_isDigit [.int l0] h ψ := by
  refine Zc.intro (L := [some (.int l0)]) (show plainName RX8 = true by decide) rfl (Nat.le_of_ble_eq_true rfl) ?_
  show Zt _ _ 0 0 _ _ _ _
  refine z_iload_n (q := 1) dX8_isDigit_0 rfl rfl rfl ?_
  refine z_bipush (q := 3) (v := 48) dX8_isDigit_1 (by decide) rfl ?_
  refine z_icmp_lt (t := 16) (q := 6) dX8_isDigit_3 (by decide) rfl (fun hc => ?_) (fun hc => ?_)
  · have hF := hF.1 hc
    refine z_iconst (q := 17) (v := 0) dX8_isDigit_16 (by decide) rfl ?_
    exact z_zreturn dX8_isDigit_17 rfl (by decide) ⟨_, rfl, hF⟩
  · have hF := hF.2 hc
    refine z_iload_n (q := 7) dX8_isDigit_6 rfl rfl rfl ?_
    refine z_bipush (q := 9) (v := 57) dX8_isDigit_7 (by decide) rfl ?_
    refine z_icmp_gt (t := 16) (q := 12) dX8_isDigit_9 (by decide) rfl (fun hc => ?_) (fun hc => ?_)
    · have hF := hF.1 hc
      refine z_iconst (q := 17) (v := 0) dX8_isDigit_16 (by decide) rfl ?_
      exact z_zreturn dX8_isDigit_17 rfl (by decide) ⟨_, rfl, hF⟩
    · have hF := hF.2 hc
      refine z_iconst (q := 13) (v := 1) dX8_isDigit_12 (by decide) rfl ?_
      refine z_goto (q := 17) dX8_isDigit_13 (by decide) ?_
      exact z_zreturn dX8_isDigit_17 rfl (by decide) ⟨_, rfl, hF⟩
set_option maxRecDepth 100000 in
set_option maxHeartbeats 4000000 in
theorem wX8_heightBehind {ψ : Int32 → ZH → Prop} {l0 : Int32} {l1 : Int32} {h : ZH} (hF : ((l0 = 33 → ((l1 < 1 → ψ (-6) h) ∧ (¬ l1 < 1 → ψ l1 h))) ∧ (l0 = 38 → ((l1 < 2 → ψ (-6) h) ∧ (¬ l1 < 2 → ψ (l1 - 1) h))) ∧ (l0 = 42 → ((l1 < 2 → ψ (-6) h) ∧ (¬ l1 < 2 → ψ (l1 - 1) h))) ∧ (l0 = 43 → ((l1 < 2 → ψ (-6) h) ∧ (¬ l1 < 2 → ψ (l1 - 1) h))) ∧ (l0 = 44 → ((5 ≤ l1 → ψ (-6) h) ∧ (¬ 5 ≤ l1 → ψ (l1 + 1) h))) ∧ (l0 = 45 → ((l1 < 2 → ψ (-6) h) ∧ (¬ l1 < 2 → ψ (l1 - 1) h))) ∧ (l0 = 60 → ((l1 < 2 → ψ (-6) h) ∧ (¬ l1 < 2 → ψ (l1 - 1) h))) ∧ (l0 = 61 → ((l1 < 2 → ψ (-6) h) ∧ (¬ l1 < 2 → ψ (l1 - 1) h))) ∧ (l0 = 62 → ((l1 < 2 → ψ (-6) h) ∧ (¬ l1 < 2 → ψ (l1 - 1) h))) ∧ (l0 = 97 → ((5 ≤ l1 → ψ (-6) h) ∧ (¬ 5 ≤ l1 → ψ (l1 + 1) h))) ∧ (l0 = 102 → ((5 ≤ l1 → ψ (-6) h) ∧ (¬ 5 ≤ l1 → ψ (l1 + 1) h))) ∧ (l0 = 107 → ((5 ≤ l1 → ψ (-6) h) ∧ (¬ 5 ≤ l1 → ψ (l1 + 1) h))) ∧ (l0 = 116 → ((5 ≤ l1 → ψ (-6) h) ∧ (¬ 5 ≤ l1 → ψ (l1 + 1) h))) ∧ (l0 = 121 → ((5 ≤ l1 → ψ (-6) h) ∧ (¬ 5 ≤ l1 → ψ (l1 + 1) h))) ∧ (l0 = 124 → ((l1 < 2 → ψ (-6) h) ∧ (¬ l1 < 2 → ψ (l1 - 1) h))) ∧ (¬ l0 = 33 → ¬ l0 = 38 → ¬ l0 = 42 → ¬ l0 = 43 → ¬ l0 = 44 → ¬ l0 = 45 → ¬ l0 = 60 → ¬ l0 = 61 → ¬ l0 = 62 → ¬ l0 = 97 → ¬ l0 = 102 → ¬ l0 = 107 → ¬ l0 = 116 → ¬ l0 = 121 → ¬ l0 = 124 → ψ (-6) h))) : ZcI mX8_heightBehind [.int l0, .int l1] h ψ := by
  refine Zc.intro (L := [some (.int l0), some (.int l1)]) (show plainName RX8 = true by decide) rfl (Nat.le_of_ble_eq_true rfl) ?_
  show Zt _ _ 0 0 _ _ _ _
  refine z_iload_n (q := 1) dX8_heightBehind_0 rfl rfl rfl ?_
  by_cases e1 : l0 = 33
  · refine z_lookup (q := 160) (off := 159) dX8_heightBehind_1 (by decide) (by rw [e1]; decide) (by decide) ?_
    have hF := hF.1 e1
    refine z_iload_n (q := 161) dX8_heightBehind_160 rfl rfl rfl ?_
    refine z_iconst (q := 162) (v := 1) dX8_heightBehind_161 (by decide) rfl ?_
    refine z_icmp_lt (t := 169) (q := 165) dX8_heightBehind_162 (by decide) rfl (fun hc => ?_) (fun hc => ?_)
    · have hF := hF.1 hc
      refine z_bipush (q := 171) (v := (-6)) dX8_heightBehind_169 (by decide) rfl ?_
      exact z_ireturn dX8_heightBehind_171 rfl ⟨_, rfl, hF⟩
    · have hF := hF.2 hc
      refine z_iload_n (q := 166) dX8_heightBehind_165 rfl rfl rfl ?_
      refine z_goto (q := 171) dX8_heightBehind_166 (by decide) ?_
      exact z_ireturn dX8_heightBehind_171 rfl ⟨_, rfl, hF⟩
  by_cases e2 : l0 = 38
  · refine z_lookup (q := 146) (off := 145) dX8_heightBehind_1 (by decide) (by rw [e2]; decide) (by decide) ?_
    have hF := hF.2.1 e2
    refine z_iload_n (q := 147) dX8_heightBehind_146 rfl rfl rfl ?_
    refine z_iconst (q := 148) (v := 2) dX8_heightBehind_147 (by decide) rfl ?_
    refine z_icmp_lt (t := 157) (q := 151) dX8_heightBehind_148 (by decide) rfl (fun hc => ?_) (fun hc => ?_)
    · have hF := hF.1 hc
      refine z_bipush (q := 159) (v := (-6)) dX8_heightBehind_157 (by decide) rfl ?_
      exact z_ireturn dX8_heightBehind_159 rfl ⟨_, rfl, hF⟩
    · have hF := hF.2 hc
      refine z_iload_n (q := 152) dX8_heightBehind_151 rfl rfl rfl ?_
      refine z_iconst (q := 153) (v := 1) dX8_heightBehind_152 (by decide) rfl ?_
      refine z_isub (q := 154) dX8_heightBehind_153 rfl ?_
      refine z_goto (q := 159) dX8_heightBehind_154 (by decide) ?_
      exact z_ireturn dX8_heightBehind_159 rfl ⟨_, rfl, hF⟩
  by_cases e3 : l0 = 42
  · refine z_lookup (q := 146) (off := 145) dX8_heightBehind_1 (by decide) (by rw [e3]; decide) (by decide) ?_
    have hF := hF.2.2.1 e3
    refine z_iload_n (q := 147) dX8_heightBehind_146 rfl rfl rfl ?_
    refine z_iconst (q := 148) (v := 2) dX8_heightBehind_147 (by decide) rfl ?_
    refine z_icmp_lt (t := 157) (q := 151) dX8_heightBehind_148 (by decide) rfl (fun hc => ?_) (fun hc => ?_)
    · have hF := hF.1 hc
      refine z_bipush (q := 159) (v := (-6)) dX8_heightBehind_157 (by decide) rfl ?_
      exact z_ireturn dX8_heightBehind_159 rfl ⟨_, rfl, hF⟩
    · have hF := hF.2 hc
      refine z_iload_n (q := 152) dX8_heightBehind_151 rfl rfl rfl ?_
      refine z_iconst (q := 153) (v := 1) dX8_heightBehind_152 (by decide) rfl ?_
      refine z_isub (q := 154) dX8_heightBehind_153 rfl ?_
      refine z_goto (q := 159) dX8_heightBehind_154 (by decide) ?_
      exact z_ireturn dX8_heightBehind_159 rfl ⟨_, rfl, hF⟩
  by_cases e4 : l0 = 43
  · refine z_lookup (q := 146) (off := 145) dX8_heightBehind_1 (by decide) (by rw [e4]; decide) (by decide) ?_
    have hF := hF.2.2.2.1 e4
    refine z_iload_n (q := 147) dX8_heightBehind_146 rfl rfl rfl ?_
    refine z_iconst (q := 148) (v := 2) dX8_heightBehind_147 (by decide) rfl ?_
    refine z_icmp_lt (t := 157) (q := 151) dX8_heightBehind_148 (by decide) rfl (fun hc => ?_) (fun hc => ?_)
    · have hF := hF.1 hc
      refine z_bipush (q := 159) (v := (-6)) dX8_heightBehind_157 (by decide) rfl ?_
      exact z_ireturn dX8_heightBehind_159 rfl ⟨_, rfl, hF⟩
    · have hF := hF.2 hc
      refine z_iload_n (q := 152) dX8_heightBehind_151 rfl rfl rfl ?_
      refine z_iconst (q := 153) (v := 1) dX8_heightBehind_152 (by decide) rfl ?_
      refine z_isub (q := 154) dX8_heightBehind_153 rfl ?_
      refine z_goto (q := 159) dX8_heightBehind_154 (by decide) ?_
      exact z_ireturn dX8_heightBehind_159 rfl ⟨_, rfl, hF⟩
  by_cases e5 : l0 = 44
  · refine z_lookup (q := 132) (off := 131) dX8_heightBehind_1 (by decide) (by rw [e5]; decide) (by decide) ?_
    have hF := hF.2.2.2.2.1 e5
    refine z_iload_n (q := 133) dX8_heightBehind_132 rfl rfl rfl ?_
    refine z_iconst (q := 134) (v := 5) dX8_heightBehind_133 (by decide) rfl ?_
    refine z_icmp_ge (t := 143) (q := 137) dX8_heightBehind_134 (by decide) rfl (fun hc => ?_) (fun hc => ?_)
    · have hF := hF.1 hc
      refine z_bipush (q := 145) (v := (-6)) dX8_heightBehind_143 (by decide) rfl ?_
      exact z_ireturn dX8_heightBehind_145 rfl ⟨_, rfl, hF⟩
    · have hF := hF.2 hc
      refine z_iload_n (q := 138) dX8_heightBehind_137 rfl rfl rfl ?_
      refine z_iconst (q := 139) (v := 1) dX8_heightBehind_138 (by decide) rfl ?_
      refine z_iadd (q := 140) dX8_heightBehind_139 rfl ?_
      refine z_goto (q := 145) dX8_heightBehind_140 (by decide) ?_
      exact z_ireturn dX8_heightBehind_145 rfl ⟨_, rfl, hF⟩
  by_cases e6 : l0 = 45
  · refine z_lookup (q := 146) (off := 145) dX8_heightBehind_1 (by decide) (by rw [e6]; decide) (by decide) ?_
    have hF := hF.2.2.2.2.2.1 e6
    refine z_iload_n (q := 147) dX8_heightBehind_146 rfl rfl rfl ?_
    refine z_iconst (q := 148) (v := 2) dX8_heightBehind_147 (by decide) rfl ?_
    refine z_icmp_lt (t := 157) (q := 151) dX8_heightBehind_148 (by decide) rfl (fun hc => ?_) (fun hc => ?_)
    · have hF := hF.1 hc
      refine z_bipush (q := 159) (v := (-6)) dX8_heightBehind_157 (by decide) rfl ?_
      exact z_ireturn dX8_heightBehind_159 rfl ⟨_, rfl, hF⟩
    · have hF := hF.2 hc
      refine z_iload_n (q := 152) dX8_heightBehind_151 rfl rfl rfl ?_
      refine z_iconst (q := 153) (v := 1) dX8_heightBehind_152 (by decide) rfl ?_
      refine z_isub (q := 154) dX8_heightBehind_153 rfl ?_
      refine z_goto (q := 159) dX8_heightBehind_154 (by decide) ?_
      exact z_ireturn dX8_heightBehind_159 rfl ⟨_, rfl, hF⟩
  by_cases e7 : l0 = 60
  · refine z_lookup (q := 146) (off := 145) dX8_heightBehind_1 (by decide) (by rw [e7]; decide) (by decide) ?_
    have hF := hF.2.2.2.2.2.2.1 e7
    refine z_iload_n (q := 147) dX8_heightBehind_146 rfl rfl rfl ?_
    refine z_iconst (q := 148) (v := 2) dX8_heightBehind_147 (by decide) rfl ?_
    refine z_icmp_lt (t := 157) (q := 151) dX8_heightBehind_148 (by decide) rfl (fun hc => ?_) (fun hc => ?_)
    · have hF := hF.1 hc
      refine z_bipush (q := 159) (v := (-6)) dX8_heightBehind_157 (by decide) rfl ?_
      exact z_ireturn dX8_heightBehind_159 rfl ⟨_, rfl, hF⟩
    · have hF := hF.2 hc
      refine z_iload_n (q := 152) dX8_heightBehind_151 rfl rfl rfl ?_
      refine z_iconst (q := 153) (v := 1) dX8_heightBehind_152 (by decide) rfl ?_
      refine z_isub (q := 154) dX8_heightBehind_153 rfl ?_
      refine z_goto (q := 159) dX8_heightBehind_154 (by decide) ?_
      exact z_ireturn dX8_heightBehind_159 rfl ⟨_, rfl, hF⟩
  by_cases e8 : l0 = 61
  · refine z_lookup (q := 146) (off := 145) dX8_heightBehind_1 (by decide) (by rw [e8]; decide) (by decide) ?_
    have hF := hF.2.2.2.2.2.2.2.1 e8
    refine z_iload_n (q := 147) dX8_heightBehind_146 rfl rfl rfl ?_
    refine z_iconst (q := 148) (v := 2) dX8_heightBehind_147 (by decide) rfl ?_
    refine z_icmp_lt (t := 157) (q := 151) dX8_heightBehind_148 (by decide) rfl (fun hc => ?_) (fun hc => ?_)
    · have hF := hF.1 hc
      refine z_bipush (q := 159) (v := (-6)) dX8_heightBehind_157 (by decide) rfl ?_
      exact z_ireturn dX8_heightBehind_159 rfl ⟨_, rfl, hF⟩
    · have hF := hF.2 hc
      refine z_iload_n (q := 152) dX8_heightBehind_151 rfl rfl rfl ?_
      refine z_iconst (q := 153) (v := 1) dX8_heightBehind_152 (by decide) rfl ?_
      refine z_isub (q := 154) dX8_heightBehind_153 rfl ?_
      refine z_goto (q := 159) dX8_heightBehind_154 (by decide) ?_
      exact z_ireturn dX8_heightBehind_159 rfl ⟨_, rfl, hF⟩
  by_cases e9 : l0 = 62
  · refine z_lookup (q := 146) (off := 145) dX8_heightBehind_1 (by decide) (by rw [e9]; decide) (by decide) ?_
    have hF := hF.2.2.2.2.2.2.2.2.1 e9
    refine z_iload_n (q := 147) dX8_heightBehind_146 rfl rfl rfl ?_
    refine z_iconst (q := 148) (v := 2) dX8_heightBehind_147 (by decide) rfl ?_
    refine z_icmp_lt (t := 157) (q := 151) dX8_heightBehind_148 (by decide) rfl (fun hc => ?_) (fun hc => ?_)
    · have hF := hF.1 hc
      refine z_bipush (q := 159) (v := (-6)) dX8_heightBehind_157 (by decide) rfl ?_
      exact z_ireturn dX8_heightBehind_159 rfl ⟨_, rfl, hF⟩
    · have hF := hF.2 hc
      refine z_iload_n (q := 152) dX8_heightBehind_151 rfl rfl rfl ?_
      refine z_iconst (q := 153) (v := 1) dX8_heightBehind_152 (by decide) rfl ?_
      refine z_isub (q := 154) dX8_heightBehind_153 rfl ?_
      refine z_goto (q := 159) dX8_heightBehind_154 (by decide) ?_
      exact z_ireturn dX8_heightBehind_159 rfl ⟨_, rfl, hF⟩
  by_cases e10 : l0 = 97
  · refine z_lookup (q := 132) (off := 131) dX8_heightBehind_1 (by decide) (by rw [e10]; decide) (by decide) ?_
    have hF := hF.2.2.2.2.2.2.2.2.2.1 e10
    refine z_iload_n (q := 133) dX8_heightBehind_132 rfl rfl rfl ?_
    refine z_iconst (q := 134) (v := 5) dX8_heightBehind_133 (by decide) rfl ?_
    refine z_icmp_ge (t := 143) (q := 137) dX8_heightBehind_134 (by decide) rfl (fun hc => ?_) (fun hc => ?_)
    · have hF := hF.1 hc
      refine z_bipush (q := 145) (v := (-6)) dX8_heightBehind_143 (by decide) rfl ?_
      exact z_ireturn dX8_heightBehind_145 rfl ⟨_, rfl, hF⟩
    · have hF := hF.2 hc
      refine z_iload_n (q := 138) dX8_heightBehind_137 rfl rfl rfl ?_
      refine z_iconst (q := 139) (v := 1) dX8_heightBehind_138 (by decide) rfl ?_
      refine z_iadd (q := 140) dX8_heightBehind_139 rfl ?_
      refine z_goto (q := 145) dX8_heightBehind_140 (by decide) ?_
      exact z_ireturn dX8_heightBehind_145 rfl ⟨_, rfl, hF⟩
  by_cases e11 : l0 = 102
  · refine z_lookup (q := 132) (off := 131) dX8_heightBehind_1 (by decide) (by rw [e11]; decide) (by decide) ?_
    have hF := hF.2.2.2.2.2.2.2.2.2.2.1 e11
    refine z_iload_n (q := 133) dX8_heightBehind_132 rfl rfl rfl ?_
    refine z_iconst (q := 134) (v := 5) dX8_heightBehind_133 (by decide) rfl ?_
    refine z_icmp_ge (t := 143) (q := 137) dX8_heightBehind_134 (by decide) rfl (fun hc => ?_) (fun hc => ?_)
    · have hF := hF.1 hc
      refine z_bipush (q := 145) (v := (-6)) dX8_heightBehind_143 (by decide) rfl ?_
      exact z_ireturn dX8_heightBehind_145 rfl ⟨_, rfl, hF⟩
    · have hF := hF.2 hc
      refine z_iload_n (q := 138) dX8_heightBehind_137 rfl rfl rfl ?_
      refine z_iconst (q := 139) (v := 1) dX8_heightBehind_138 (by decide) rfl ?_
      refine z_iadd (q := 140) dX8_heightBehind_139 rfl ?_
      refine z_goto (q := 145) dX8_heightBehind_140 (by decide) ?_
      exact z_ireturn dX8_heightBehind_145 rfl ⟨_, rfl, hF⟩
  by_cases e12 : l0 = 107
  · refine z_lookup (q := 132) (off := 131) dX8_heightBehind_1 (by decide) (by rw [e12]; decide) (by decide) ?_
    have hF := hF.2.2.2.2.2.2.2.2.2.2.2.1 e12
    refine z_iload_n (q := 133) dX8_heightBehind_132 rfl rfl rfl ?_
    refine z_iconst (q := 134) (v := 5) dX8_heightBehind_133 (by decide) rfl ?_
    refine z_icmp_ge (t := 143) (q := 137) dX8_heightBehind_134 (by decide) rfl (fun hc => ?_) (fun hc => ?_)
    · have hF := hF.1 hc
      refine z_bipush (q := 145) (v := (-6)) dX8_heightBehind_143 (by decide) rfl ?_
      exact z_ireturn dX8_heightBehind_145 rfl ⟨_, rfl, hF⟩
    · have hF := hF.2 hc
      refine z_iload_n (q := 138) dX8_heightBehind_137 rfl rfl rfl ?_
      refine z_iconst (q := 139) (v := 1) dX8_heightBehind_138 (by decide) rfl ?_
      refine z_iadd (q := 140) dX8_heightBehind_139 rfl ?_
      refine z_goto (q := 145) dX8_heightBehind_140 (by decide) ?_
      exact z_ireturn dX8_heightBehind_145 rfl ⟨_, rfl, hF⟩
  by_cases e13 : l0 = 116
  · refine z_lookup (q := 132) (off := 131) dX8_heightBehind_1 (by decide) (by rw [e13]; decide) (by decide) ?_
    have hF := hF.2.2.2.2.2.2.2.2.2.2.2.2.1 e13
    refine z_iload_n (q := 133) dX8_heightBehind_132 rfl rfl rfl ?_
    refine z_iconst (q := 134) (v := 5) dX8_heightBehind_133 (by decide) rfl ?_
    refine z_icmp_ge (t := 143) (q := 137) dX8_heightBehind_134 (by decide) rfl (fun hc => ?_) (fun hc => ?_)
    · have hF := hF.1 hc
      refine z_bipush (q := 145) (v := (-6)) dX8_heightBehind_143 (by decide) rfl ?_
      exact z_ireturn dX8_heightBehind_145 rfl ⟨_, rfl, hF⟩
    · have hF := hF.2 hc
      refine z_iload_n (q := 138) dX8_heightBehind_137 rfl rfl rfl ?_
      refine z_iconst (q := 139) (v := 1) dX8_heightBehind_138 (by decide) rfl ?_
      refine z_iadd (q := 140) dX8_heightBehind_139 rfl ?_
      refine z_goto (q := 145) dX8_heightBehind_140 (by decide) ?_
      exact z_ireturn dX8_heightBehind_145 rfl ⟨_, rfl, hF⟩
  by_cases e14 : l0 = 121
  · refine z_lookup (q := 132) (off := 131) dX8_heightBehind_1 (by decide) (by rw [e14]; decide) (by decide) ?_
    have hF := hF.2.2.2.2.2.2.2.2.2.2.2.2.2.1 e14
    refine z_iload_n (q := 133) dX8_heightBehind_132 rfl rfl rfl ?_
    refine z_iconst (q := 134) (v := 5) dX8_heightBehind_133 (by decide) rfl ?_
    refine z_icmp_ge (t := 143) (q := 137) dX8_heightBehind_134 (by decide) rfl (fun hc => ?_) (fun hc => ?_)
    · have hF := hF.1 hc
      refine z_bipush (q := 145) (v := (-6)) dX8_heightBehind_143 (by decide) rfl ?_
      exact z_ireturn dX8_heightBehind_145 rfl ⟨_, rfl, hF⟩
    · have hF := hF.2 hc
      refine z_iload_n (q := 138) dX8_heightBehind_137 rfl rfl rfl ?_
      refine z_iconst (q := 139) (v := 1) dX8_heightBehind_138 (by decide) rfl ?_
      refine z_iadd (q := 140) dX8_heightBehind_139 rfl ?_
      refine z_goto (q := 145) dX8_heightBehind_140 (by decide) ?_
      exact z_ireturn dX8_heightBehind_145 rfl ⟨_, rfl, hF⟩
  by_cases e15 : l0 = 124
  · refine z_lookup (q := 146) (off := 145) dX8_heightBehind_1 (by decide) (by rw [e15]; decide) (by decide) ?_
    have hF := hF.2.2.2.2.2.2.2.2.2.2.2.2.2.2.1 e15
    refine z_iload_n (q := 147) dX8_heightBehind_146 rfl rfl rfl ?_
    refine z_iconst (q := 148) (v := 2) dX8_heightBehind_147 (by decide) rfl ?_
    refine z_icmp_lt (t := 157) (q := 151) dX8_heightBehind_148 (by decide) rfl (fun hc => ?_) (fun hc => ?_)
    · have hF := hF.1 hc
      refine z_bipush (q := 159) (v := (-6)) dX8_heightBehind_157 (by decide) rfl ?_
      exact z_ireturn dX8_heightBehind_159 rfl ⟨_, rfl, hF⟩
    · have hF := hF.2 hc
      refine z_iload_n (q := 152) dX8_heightBehind_151 rfl rfl rfl ?_
      refine z_iconst (q := 153) (v := 1) dX8_heightBehind_152 (by decide) rfl ?_
      refine z_isub (q := 154) dX8_heightBehind_153 rfl ?_
      refine z_goto (q := 159) dX8_heightBehind_154 (by decide) ?_
      exact z_ireturn dX8_heightBehind_159 rfl ⟨_, rfl, hF⟩
  refine z_lookup (q := 172) (off := 171) dX8_heightBehind_1 (by decide) (by
    simp only [lookupswitch.offset]
    rw [if_neg (fun q => zsw_ne (k := 33) e1 (by decide) q.symm), if_neg (fun q => zsw_ne (k := 38) e2 (by decide) q.symm), if_neg (fun q => zsw_ne (k := 42) e3 (by decide) q.symm), if_neg (fun q => zsw_ne (k := 43) e4 (by decide) q.symm), if_neg (fun q => zsw_ne (k := 44) e5 (by decide) q.symm), if_neg (fun q => zsw_ne (k := 45) e6 (by decide) q.symm), if_neg (fun q => zsw_ne (k := 60) e7 (by decide) q.symm), if_neg (fun q => zsw_ne (k := 61) e8 (by decide) q.symm), if_neg (fun q => zsw_ne (k := 62) e9 (by decide) q.symm), if_neg (fun q => zsw_ne (k := 97) e10 (by decide) q.symm), if_neg (fun q => zsw_ne (k := 102) e11 (by decide) q.symm), if_neg (fun q => zsw_ne (k := 107) e12 (by decide) q.symm), if_neg (fun q => zsw_ne (k := 116) e13 (by decide) q.symm), if_neg (fun q => zsw_ne (k := 121) e14 (by decide) q.symm), if_neg (fun q => zsw_ne (k := 124) e15 (by decide) q.symm)]) (by decide) ?_
  have hF := hF.2.2.2.2.2.2.2.2.2.2.2.2.2.2.2 e1 e2 e3 e4 e5 e6 e7 e8 e9 e10 e11 e12 e13 e14 e15
  refine z_bipush (q := 174) (v := (-6)) dX8_heightBehind_172 (by decide) rfl ?_
  exact z_ireturn dX8_heightBehind_174 rfl ⟨_, rfl, hF⟩
