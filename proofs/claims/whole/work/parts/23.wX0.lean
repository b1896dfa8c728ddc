set_option maxRecDepth 100000 in
set_option maxHeartbeats 4000000 in
theorem wX0_init {ψ : ZH → Prop} {l0 : Nat} {l1 : Nat} {l2 : Int32} {l3 : Int32} {h : ZH} (hF : (zK h l0 = 1) ∧ ψ (zsI (zsI (zsR h l0 0 l1) l0 1 l2) l0 2 l3)) : ZcV mX0_init [.ref l0, .ref l1, .int l2, .int l3] h ψ := by
  refine Zc.intro (L := [some (.ref l0), some (.ref l1), some (.int l2), some (.int l3)]) (show plainName RX0 = true by decide) rfl (Nat.le_of_ble_eq_true rfl) ?_
  show Zt _ _ 0 0 _ _ _ _
  refine z_aload_n (q := 1) dX0_init_0 rfl rfl rfl ?_
  refine z_objInit (q := 4) dX0_init_1 ow_X0_1 (Nat.le_of_ble_eq_true rfl) (by decide) rfl ?_
  refine z_aload_n (q := 5) dX0_init_4 rfl rfl rfl ?_
  refine z_aload_n (q := 6) dX0_init_5 rfl rfl rfl ?_
  obtain ⟨g1, hF⟩ := hF
  refine z_putRF (c := 0) (k := 0) (r := (RX0, TX0, 3)) (q := 9) dX0_init_6 rfl (by decide) fw_X0_7 rfl rfl rfl rfl g1 rfl ?_
  refine z_aload_n (q := 10) dX0_init_9 rfl rfl rfl ?_
  refine z_iload_n (q := 11) dX0_init_10 rfl rfl rfl ?_
  refine z_putIF (c := 0) (k := 1) (r := (RX0, TX0, 3)) (q := 14) dX0_init_11 rfl (by decide) fw_X0_13 rfl rfl rfl rfl g1 rfl ?_
  refine z_aload_n (q := 15) dX0_init_14 rfl rfl rfl ?_
  refine z_iload_n (q := 16) dX0_init_15 rfl rfl rfl ?_
  refine z_putIF (c := 0) (k := 2) (r := (RX0, TX0, 3)) (q := 19) dX0_init_16 rfl (by decide) fw_X0_17 rfl rfl rfl rfl g1 rfl ?_
  exact z_return dX0_init_19 rfl ⟨rfl, hF⟩
