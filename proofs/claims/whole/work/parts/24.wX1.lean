set_option maxRecDepth 100000 in
set_option maxHeartbeats 4000000 in
theorem wX1_init {ψ : ZH → Prop} {l0 : Nat} {l1 : Int32} {l2 : Int32} {l3 : Int32} {l4 : Int32} {l5 : Int32} {l6 : Int32} {h : ZH} (hF : (zK h l0 = 2) ∧ (l6 = 0 ∨ l6 = 1) ∧ ψ (zsI (zsI (zsI (zsI (zsI (zsI (zsI h l0 6 0) l0 0 l1) l0 1 l2) l0 2 l3) l0 3 l4) l0 4 l5) l0 5 l6)) : ZcV mX1_init [.ref l0, .int l1, .int l2, .int l3, .int l4, .int l5, .int l6] h ψ := by
  refine Zc.intro (L := [some (.ref l0), some (.int l1), some (.int l2), some (.int l3), some (.int l4), some (.int l5), some (.int l6)]) (show plainName RX1 = true by decide) rfl (Nat.le_of_ble_eq_true rfl) ?_
  show Zt _ _ 0 0 _ _ _ _
  refine z_aload_n (q := 1) dX1_init_0 rfl rfl rfl ?_
  refine z_objInit (q := 4) dX1_init_1 ow_X1_3 (Nat.le_of_ble_eq_true rfl) (by decide) rfl ?_
  refine z_aload_n (q := 5) dX1_init_4 rfl rfl rfl ?_
  refine z_iconst (q := 6) (v := 0) dX1_init_5 (by decide) rfl ?_
  obtain ⟨g1, hF⟩ := hF
  refine z_putI (c := 1) (k := 6) (r := (RX1, TX1, 7)) (q := 9) dX1_init_6 rfl (by decide) fl_X1_9 rfl rfl g1 rfl ?_
  refine z_aload_n (q := 10) dX1_init_9 rfl rfl rfl ?_
  refine z_iload_n (q := 11) dX1_init_10 rfl rfl rfl ?_
  refine z_putI (c := 1) (k := 0) (r := (RX1, TX1, 7)) (q := 14) dX1_init_11 rfl (by decide) fl_X1_15 rfl rfl g1 rfl ?_
  refine z_aload_n (q := 15) dX1_init_14 rfl rfl rfl ?_
  refine z_iload_n (q := 16) dX1_init_15 rfl rfl rfl ?_
  refine z_putIF (c := 1) (k := 1) (r := (RX1, TX1, 7)) (q := 19) dX1_init_16 rfl (by decide) fw_X1_18 rfl rfl rfl rfl g1 rfl ?_
  refine z_aload_n (q := 20) dX1_init_19 rfl rfl rfl ?_
  refine z_iload_n (q := 21) dX1_init_20 rfl rfl rfl ?_
  refine z_putI (c := 1) (k := 2) (r := (RX1, TX1, 7)) (q := 24) dX1_init_21 rfl (by decide) fl_X1_21 rfl rfl g1 rfl ?_
  refine z_aload_n (q := 25) dX1_init_24 rfl rfl rfl ?_
  refine z_iload (q := 27) dX1_init_25 rfl rfl ?_
  refine z_putIF (c := 1) (k := 3) (r := (RX1, TX1, 7)) (q := 30) dX1_init_27 rfl (by decide) fw_X1_24 rfl rfl rfl rfl g1 rfl ?_
  refine z_aload_n (q := 31) dX1_init_30 rfl rfl rfl ?_
  refine z_iload (q := 33) dX1_init_31 rfl rfl ?_
  refine z_putI (c := 1) (k := 4) (r := (RX1, TX1, 7)) (q := 36) dX1_init_33 rfl (by decide) fl_X1_27 rfl rfl g1 rfl ?_
  refine z_aload_n (q := 37) dX1_init_36 rfl rfl rfl ?_
  refine z_iload (q := 39) dX1_init_37 rfl rfl ?_
  obtain ⟨g2, hF⟩ := hF
  refine z_putZF (c := 1) (k := 5) (r := (RX1, TX1, 7)) (q := 42) dX1_init_39 rfl (by decide) fw_X1_30 rfl rfl rfl rfl g2 g1 rfl ?_
  exact z_return dX1_init_42 rfl ⟨rfl, hF⟩
set_option maxRecDepth 100000 in
set_option maxHeartbeats 4000000 in
theorem wX1_quit {ψ : ZH → Prop} {l0 : Nat} {l1 : Int32} {h : ZH} (hF : (zK h l0 = 2) ∧ ψ (zsI (zsI h l0 6 l1) l0 4 (-6))) : ZcV mX1_quit [.ref l0, .int l1] h ψ := by
  refine Zc.intro (L := [some (.ref l0), some (.int l1)]) (show plainName RX1 = true by decide) rfl (Nat.le_of_ble_eq_true rfl) ?_
  show Zt _ _ 0 0 _ _ _ _
  refine z_aload_n (q := 1) dX1_quit_0 rfl rfl rfl ?_
  refine z_iload_n (q := 2) dX1_quit_1 rfl rfl rfl ?_
  obtain ⟨g1, hF⟩ := hF
  refine z_putI (c := 1) (k := 6) (r := (RX1, TX1, 7)) (q := 5) dX1_quit_2 rfl (by decide) fl_X1_9 rfl rfl g1 rfl ?_
  refine z_aload_n (q := 6) dX1_quit_5 rfl rfl rfl ?_
  refine z_bipush (q := 8) (v := (-6)) dX1_quit_6 (by decide) rfl ?_
  refine z_putI (c := 1) (k := 4) (r := (RX1, TX1, 7)) (q := 11) dX1_quit_8 rfl (by decide) fl_X1_27 rfl rfl g1 rfl ?_
  exact z_return dX1_quit_11 rfl ⟨rfl, hF⟩
set_option maxRecDepth 100000 in
set_option maxHeartbeats 4000000 in
theorem wX1_growOlder {ψ : Int32 → ZH → Prop} {l0 : Nat} {l1 : Int32} {h : ZH} (hF : (zK h l0 = 2) ∧ ((¬ (zI h l0 6) = 4 → ∀ h2 : ZH, h2 = (zsI h l0 0 (if 70 < ((zI h l0 0) + 1) then 70 else ((zI h l0 0) + 1))) → (zK h2 l0 = 2) ∧ ((¬ (zI h2 l0 6) = 0 → (((zI h2 l0 6) = 2 → ψ 0 h2) ∧ (¬ (zI h2 l0 6) = 2 → ((l1 ≤ (zI h2 l0 0) → ZcV mX1_quit [.ref l0, .int 2] h2 (fun h5 => ψ 1 h5)) ∧ (¬ l1 ≤ (zI h2 l0 0) → ψ 0 h2))))) ∧ ((zI h2 l0 6) = 0 → ∀ h6 : ZH, h6 = (zsI h2 l0 2 (if 50 < ((zI h2 l0 2) + 1) then 50 else ((zI h2 l0 2) + 1))) → (zK h6 l0 = 2) ∧ (((zI h6 l0 6) = 2 → ψ 0 h6) ∧ (¬ (zI h6 l0 6) = 2 → ((l1 ≤ (zI h6 l0 0) → ZcV mX1_quit [.ref l0, .int 2] h6 (fun h9 => ψ 1 h9)) ∧ (¬ l1 ≤ (zI h6 l0 0) → ψ 0 h6))))))) ∧ ((zI h l0 6) = 4 → ψ 0 h))) : ZcI mX1_growOlder [.ref l0, .int l1] h ψ := by
  refine Zc.intro (L := [some (.ref l0), some (.int l1)]) (show plainName RX1 = true by decide) rfl (Nat.le_of_ble_eq_true rfl) ?_
  show Zt _ _ 0 0 _ _ _ _
  refine z_aload_n (q := 1) dX1_growOlder_0 rfl rfl rfl ?_
  obtain ⟨g1, hF⟩ := hF
  refine z_getI (c := 1) (k := 6) (r := (RX1, TX1, 7)) (q := 4) dX1_growOlder_1 rfl (by decide) fl_X1_9 rfl g1 rfl ?_
  refine z_iconst (q := 5) (v := 4) dX1_growOlder_4 (by decide) rfl ?_
  refine z_icmp_ne (t := 10) (q := 8) dX1_growOlder_5 (by decide) rfl (fun hc => ?_) (fun hc => ?_)
  · have hF := hF.1 hc
    refine z_aload_n (q := 11) dX1_growOlder_10 rfl rfl rfl ?_
    refine z_aload_n (q := 12) dX1_growOlder_11 rfl rfl rfl ?_
    refine z_getI (c := 1) (k := 0) (r := (RX1, TX1, 7)) (q := 15) dX1_growOlder_12 rfl (by decide) fl_X1_15 rfl g1 rfl ?_
    refine z_iconst (q := 16) (v := 1) dX1_growOlder_15 (by decide) rfl ?_
    refine z_iadd (q := 17) dX1_growOlder_16 rfl ?_
    refine z_bipush (q := 19) (v := 70) dX1_growOlder_17 (by decide) rfl ?_
    refine z_mmin (q := 22) dX1_growOlder_19 mw_X1_34 (Nat.le_of_ble_eq_true rfl) (by decide) rfl ?_
    refine z_putI (c := 1) (k := 0) (r := (RX1, TX1, 7)) (q := 25) dX1_growOlder_22 rfl (by decide) fl_X1_15 rfl rfl g1 rfl ?_
    refine z_aload_n (q := 26) dX1_growOlder_25 rfl rfl rfl ?_
    refine z_nameH (fun h2 eh3 => ?_)
    have hF := hF h2 eh3
    obtain ⟨g4, hF⟩ := hF
    refine z_getI (c := 1) (k := 6) (r := (RX1, TX1, 7)) (q := 29) dX1_growOlder_26 rfl (by decide) fl_X1_9 rfl g4 rfl ?_
    refine z_if_ne (t := 47) (q := 32) dX1_growOlder_29 (by decide) rfl (fun hc => ?_) (fun hc => ?_)
    · have hF := hF.1 hc
      refine z_aload_n (q := 48) dX1_growOlder_47 rfl rfl rfl ?_
      refine z_getI (c := 1) (k := 6) (r := (RX1, TX1, 7)) (q := 51) dX1_growOlder_48 rfl (by decide) fl_X1_9 rfl g4 rfl ?_
      refine z_iconst (q := 52) (v := 2) dX1_growOlder_51 (by decide) rfl ?_
      refine z_icmp_eq (t := 63) (q := 55) dX1_growOlder_52 (by decide) rfl (fun hc => ?_) (fun hc => ?_)
      · have hF := hF.1 hc
        refine z_iconst (q := 64) (v := 0) dX1_growOlder_63 (by decide) rfl ?_
        exact z_zreturn dX1_growOlder_64 rfl (by decide) ⟨_, rfl, hF⟩
      · have hF := hF.2 hc
        refine z_aload_n (q := 56) dX1_growOlder_55 rfl rfl rfl ?_
        refine z_getI (c := 1) (k := 0) (r := (RX1, TX1, 7)) (q := 59) dX1_growOlder_56 rfl (by decide) fl_X1_15 rfl g4 rfl ?_
        refine z_iload_n (q := 60) dX1_growOlder_59 rfl rfl rfl ?_
        refine z_icmp_ge (t := 65) (q := 63) dX1_growOlder_60 (by decide) rfl (fun hc => ?_) (fun hc => ?_)
        · have hF := hF.1 hc
          refine z_aload_n (q := 66) dX1_growOlder_65 rfl rfl rfl ?_
          refine z_iconst (q := 67) (v := 2) dX1_growOlder_66 (by decide) rfl ?_
          refine z_callVV (rc := 0) (rs := 0) (b := l0) (av := [.int 2]) (ci := 1) (r := (RX1, TX1, 7)) (q := 70) hF dX1_growOlder_67 ml_X1_40 ok_X1_quit in_X1_quit se_X1_quit rfl rfl g4 rfl (Nat.le_of_ble_eq_true rfl) (by decide) (Nat.le_of_ble_eq_true rfl) rfl rfl rfl rfl (fun h5 hF => ?_)
          refine z_iconst (q := 71) (v := 1) dX1_growOlder_70 (by decide) rfl ?_
          exact z_zreturn dX1_growOlder_71 rfl (by decide) ⟨_, rfl, hF⟩
        · have hF := hF.2 hc
          refine z_iconst (q := 64) (v := 0) dX1_growOlder_63 (by decide) rfl ?_
          exact z_zreturn dX1_growOlder_64 rfl (by decide) ⟨_, rfl, hF⟩
    · have hF := hF.2 hc
      refine z_aload_n (q := 33) dX1_growOlder_32 rfl rfl rfl ?_
      refine z_aload_n (q := 34) dX1_growOlder_33 rfl rfl rfl ?_
      refine z_getI (c := 1) (k := 2) (r := (RX1, TX1, 7)) (q := 37) dX1_growOlder_34 rfl (by decide) fl_X1_21 rfl g4 rfl ?_
      refine z_iconst (q := 38) (v := 1) dX1_growOlder_37 (by decide) rfl ?_
      refine z_iadd (q := 39) dX1_growOlder_38 rfl ?_
      refine z_bipush (q := 41) (v := 50) dX1_growOlder_39 (by decide) rfl ?_
      refine z_mmin (q := 44) dX1_growOlder_41 mw_X1_34 (Nat.le_of_ble_eq_true rfl) (by decide) rfl ?_
      refine z_putI (c := 1) (k := 2) (r := (RX1, TX1, 7)) (q := 47) dX1_growOlder_44 rfl (by decide) fl_X1_21 rfl rfl g4 rfl ?_
      refine z_aload_n (q := 48) dX1_growOlder_47 rfl rfl rfl ?_
      refine z_nameH (fun h6 eh7 => ?_)
      have hF := hF h6 eh7
      obtain ⟨g8, hF⟩ := hF
      refine z_getI (c := 1) (k := 6) (r := (RX1, TX1, 7)) (q := 51) dX1_growOlder_48 rfl (by decide) fl_X1_9 rfl g8 rfl ?_
      refine z_iconst (q := 52) (v := 2) dX1_growOlder_51 (by decide) rfl ?_
      refine z_icmp_eq (t := 63) (q := 55) dX1_growOlder_52 (by decide) rfl (fun hc => ?_) (fun hc => ?_)
      · have hF := hF.1 hc
        refine z_iconst (q := 64) (v := 0) dX1_growOlder_63 (by decide) rfl ?_
        exact z_zreturn dX1_growOlder_64 rfl (by decide) ⟨_, rfl, hF⟩
      · have hF := hF.2 hc
        refine z_aload_n (q := 56) dX1_growOlder_55 rfl rfl rfl ?_
        refine z_getI (c := 1) (k := 0) (r := (RX1, TX1, 7)) (q := 59) dX1_growOlder_56 rfl (by decide) fl_X1_15 rfl g8 rfl ?_
        refine z_iload_n (q := 60) dX1_growOlder_59 rfl rfl rfl ?_
        refine z_icmp_ge (t := 65) (q := 63) dX1_growOlder_60 (by decide) rfl (fun hc => ?_) (fun hc => ?_)
        · have hF := hF.1 hc
          refine z_aload_n (q := 66) dX1_growOlder_65 rfl rfl rfl ?_
          refine z_iconst (q := 67) (v := 2) dX1_growOlder_66 (by decide) rfl ?_
          refine z_callVV (rc := 0) (rs := 0) (b := l0) (av := [.int 2]) (ci := 1) (r := (RX1, TX1, 7)) (q := 70) hF dX1_growOlder_67 ml_X1_40 ok_X1_quit in_X1_quit se_X1_quit rfl rfl g8 rfl (Nat.le_of_ble_eq_true rfl) (by decide) (Nat.le_of_ble_eq_true rfl) rfl rfl rfl rfl (fun h9 hF => ?_)
          refine z_iconst (q := 71) (v := 1) dX1_growOlder_70 (by decide) rfl ?_
          exact z_zreturn dX1_growOlder_71 rfl (by decide) ⟨_, rfl, hF⟩
        · have hF := hF.2 hc
          refine z_iconst (q := 64) (v := 0) dX1_growOlder_63 (by decide) rfl ?_
          exact z_zreturn dX1_growOlder_64 rfl (by decide) ⟨_, rfl, hF⟩
  · have hF := hF.2 hc
    refine z_iconst (q := 9) (v := 0) dX1_growOlder_8 (by decide) rfl ?_
    exact z_zreturn dX1_growOlder_9 rfl (by decide) ⟨_, rfl, hF⟩
