set_option maxRecDepth 100000 in
set_option maxHeartbeats 4000000 in
theorem wX5_init {ψ : ZH → Prop} {l0 : Nat} {l1 : Int32} {l2 : Int32} {h : ZH} (hF : (zK h l0 = 6) ∧ ψ (zsI (zsI h l0 0 l1) l0 1 l2)) : ZcV mX5_init [.ref l0, .int l1, .int l2] h ψ := by
  refine Zc.intro (L := [some (.ref l0), some (.int l1), some (.int l2)]) (show plainName RX5 = true by decide) rfl (Nat.le_of_ble_eq_true rfl) ?_
  show Zt _ _ 0 0 _ _ _ _
  refine z_aload_n (q := 1) dX5_init_0 rfl rfl rfl ?_
  refine z_objInit (q := 4) dX5_init_1 ow_X5_1 (Nat.le_of_ble_eq_true rfl) (by decide) rfl ?_
  refine z_aload_n (q := 5) dX5_init_4 rfl rfl rfl ?_
  refine z_iload_n (q := 6) dX5_init_5 rfl rfl rfl ?_
  obtain ⟨g1, hF⟩ := hF
  refine z_putI (c := 5) (k := 0) (r := (RX5, TX5, 2)) (q := 9) dX5_init_6 rfl (by decide) fl_X5_7 rfl rfl g1 rfl ?_
  refine z_aload_n (q := 10) dX5_init_9 rfl rfl rfl ?_
  refine z_iload_n (q := 11) dX5_init_10 rfl rfl rfl ?_
  refine z_putI (c := 5) (k := 1) (r := (RX5, TX5, 2)) (q := 14) dX5_init_11 rfl (by decide) fl_X5_13 rfl rfl g1 rfl ?_
  exact z_return dX5_init_14 rfl ⟨rfl, hF⟩
set_option maxRecDepth 100000 in
set_option maxHeartbeats 4000000 in
theorem wX5_farFrom {ψ : Int32 → ZH → Prop} {l0 : Nat} {l1 : Nat} {h : ZH} (hF : (zK h l0 = 6) ∧ (zK h l1 = 6) ∧ ψ ((if 0 ≤ ((zI h l0 0) - (zI h l1 0)) then ((zI h l0 0) - (zI h l1 0)) else 0 - ((zI h l0 0) - (zI h l1 0))) + (if 0 ≤ ((zI h l0 1) - (zI h l1 1)) then ((zI h l0 1) - (zI h l1 1)) else 0 - ((zI h l0 1) - (zI h l1 1)))) h) : ZcI mX5_farFrom [.ref l0, .ref l1] h ψ := by
  refine Zc.intro (L := [some (.ref l0), some (.ref l1)]) (show plainName RX5 = true by decide) rfl (Nat.le_of_ble_eq_true rfl) ?_
  show Zt _ _ 0 0 _ _ _ _
  refine z_aload_n (q := 1) dX5_farFrom_0 rfl rfl rfl ?_
  obtain ⟨g1, hF⟩ := hF
  refine z_getI (c := 5) (k := 0) (r := (RX5, TX5, 2)) (q := 4) dX5_farFrom_1 rfl (by decide) fl_X5_7 rfl g1 rfl ?_
  refine z_aload_n (q := 5) dX5_farFrom_4 rfl rfl rfl ?_
  obtain ⟨g2, hF⟩ := hF
  refine z_getI (c := 5) (k := 0) (r := (RX5, TX5, 2)) (q := 8) dX5_farFrom_5 rfl (by decide) fl_X5_7 rfl g2 rfl ?_
  refine z_isub (q := 9) dX5_farFrom_8 rfl ?_
  refine z_mabs (q := 12) dX5_farFrom_9 mw_X5_16 (Nat.le_of_ble_eq_true rfl) (by decide) rfl ?_
  refine z_aload_n (q := 13) dX5_farFrom_12 rfl rfl rfl ?_
  refine z_getI (c := 5) (k := 1) (r := (RX5, TX5, 2)) (q := 16) dX5_farFrom_13 rfl (by decide) fl_X5_13 rfl g1 rfl ?_
  refine z_aload_n (q := 17) dX5_farFrom_16 rfl rfl rfl ?_
  refine z_getI (c := 5) (k := 1) (r := (RX5, TX5, 2)) (q := 20) dX5_farFrom_17 rfl (by decide) fl_X5_13 rfl g2 rfl ?_
  refine z_isub (q := 21) dX5_farFrom_20 rfl ?_
  refine z_mabs (q := 24) dX5_farFrom_21 mw_X5_16 (Nat.le_of_ble_eq_true rfl) (by decide) rfl ?_
  refine z_iadd (q := 25) dX5_farFrom_24 rfl ?_
  exact z_ireturn dX5_farFrom_25 rfl ⟨_, rfl, hF⟩
