set_option maxRecDepth 100000 in
set_option maxHeartbeats 4000000 in
theorem wJ6_bitCount_0f7a4 {ψ : Int32 → ZH → Prop} {l0 : Int32} {h : ZH} (hF : ∀ v1 : Int32, v1 = (l0 - ((Int32.toUInt32 l0 >>> (Int32.toUInt32 1 &&& Int32.toUInt32 31)).toInt32 &&& 1431655765)) → ∀ v3 : Int32, v3 = ((v1 &&& 858993459) + ((Int32.toUInt32 v1 >>> (Int32.toUInt32 2 &&& Int32.toUInt32 31)).toInt32 &&& 858993459)) → ∀ v5 : Int32, v5 = ((v3 + (Int32.toUInt32 v3 >>> (Int32.toUInt32 4 &&& Int32.toUInt32 31)).toInt32) &&& 252645135) → ∀ v7 : Int32, v7 = (v5 + (Int32.toUInt32 v5 >>> (Int32.toUInt32 8 &&& Int32.toUInt32 31)).toInt32) → ∀ v9 : Int32, v9 = (v7 + (Int32.toUInt32 v7 >>> (Int32.toUInt32 16 &&& Int32.toUInt32 31)).toInt32) → ψ (v9 &&& 63) h) : ZcI mJ6_bitCount_0f7a4 [.int l0] h ψ := by
  refine Zc.intro (L := [some (.int l0)]) (show plainName RJ6 = true by decide) rfl (Nat.le_of_ble_eq_true rfl) ?_
  show Zt _ _ 0 0 _ _ _ _
  refine z_iload_n (q := 1) dJ6_bitCount_0f7a4_0 rfl rfl rfl ?_
  refine z_iload_n (q := 2) dJ6_bitCount_0f7a4_1 rfl rfl rfl ?_
  refine z_iconst (q := 3) (v := 1) dJ6_bitCount_0f7a4_2 (by decide) rfl ?_
  refine z_iushr (q := 4) dJ6_bitCount_0f7a4_3 rfl ?_
  refine z_ldcw (q := 7) (v := 1431655765) dJ6_bitCount_0f7a4_4 cw_J6_265 rfl ?_
  refine z_iand (q := 8) dJ6_bitCount_0f7a4_7 rfl ?_
  refine z_isub (q := 9) dJ6_bitCount_0f7a4_8 rfl ?_
  refine z_nameI (fun v1 ev2 => ?_)
  have hF := hF v1 ev2
  refine z_istore_n (q := 10) (L' := [some (.int v1)]) dJ6_bitCount_0f7a4_9 rfl (Nat.le_of_ble_eq_true rfl) rfl rfl rfl ?_
  refine z_iload_n (q := 11) dJ6_bitCount_0f7a4_10 rfl rfl rfl ?_
  refine z_ldcw (q := 14) (v := 858993459) dJ6_bitCount_0f7a4_11 cw_J6_266 rfl ?_
  refine z_iand (q := 15) dJ6_bitCount_0f7a4_14 rfl ?_
  refine z_iload_n (q := 16) dJ6_bitCount_0f7a4_15 rfl rfl rfl ?_
  refine z_iconst (q := 17) (v := 2) dJ6_bitCount_0f7a4_16 (by decide) rfl ?_
  refine z_iushr (q := 18) dJ6_bitCount_0f7a4_17 rfl ?_
  refine z_ldcw (q := 21) (v := 858993459) dJ6_bitCount_0f7a4_18 cw_J6_266 rfl ?_
  refine z_iand (q := 22) dJ6_bitCount_0f7a4_21 rfl ?_
  refine z_iadd (q := 23) dJ6_bitCount_0f7a4_22 rfl ?_
  refine z_nameI (fun v3 ev4 => ?_)
  have hF := hF v3 ev4
  refine z_istore_n (q := 24) (L' := [some (.int v3)]) dJ6_bitCount_0f7a4_23 rfl (Nat.le_of_ble_eq_true rfl) rfl rfl rfl ?_
  refine z_iload_n (q := 25) dJ6_bitCount_0f7a4_24 rfl rfl rfl ?_
  refine z_iload_n (q := 26) dJ6_bitCount_0f7a4_25 rfl rfl rfl ?_
  refine z_iconst (q := 27) (v := 4) dJ6_bitCount_0f7a4_26 (by decide) rfl ?_
  refine z_iushr (q := 28) dJ6_bitCount_0f7a4_27 rfl ?_
  refine z_iadd (q := 29) dJ6_bitCount_0f7a4_28 rfl ?_
  refine z_ldcw (q := 32) (v := 252645135) dJ6_bitCount_0f7a4_29 cw_J6_267 rfl ?_
  refine z_iand (q := 33) dJ6_bitCount_0f7a4_32 rfl ?_
  refine z_nameI (fun v5 ev6 => ?_)
  have hF := hF v5 ev6
  refine z_istore_n (q := 34) (L' := [some (.int v5)]) dJ6_bitCount_0f7a4_33 rfl (Nat.le_of_ble_eq_true rfl) rfl rfl rfl ?_
  refine z_iload_n (q := 35) dJ6_bitCount_0f7a4_34 rfl rfl rfl ?_
  refine z_iload_n (q := 36) dJ6_bitCount_0f7a4_35 rfl rfl rfl ?_
  refine z_bipush (q := 38) (v := 8) dJ6_bitCount_0f7a4_36 (by decide) rfl ?_
  refine z_iushr (q := 39) dJ6_bitCount_0f7a4_38 rfl ?_
  refine z_iadd (q := 40) dJ6_bitCount_0f7a4_39 rfl ?_
  refine z_nameI (fun v7 ev8 => ?_)
  have hF := hF v7 ev8
  refine z_istore_n (q := 41) (L' := [some (.int v7)]) dJ6_bitCount_0f7a4_40 rfl (Nat.le_of_ble_eq_true rfl) rfl rfl rfl ?_
  refine z_iload_n (q := 42) dJ6_bitCount_0f7a4_41 rfl rfl rfl ?_
  refine z_iload_n (q := 43) dJ6_bitCount_0f7a4_42 rfl rfl rfl ?_
  refine z_bipush (q := 45) (v := 16) dJ6_bitCount_0f7a4_43 (by decide) rfl ?_
  refine z_iushr (q := 46) dJ6_bitCount_0f7a4_45 rfl ?_
  refine z_iadd (q := 47) dJ6_bitCount_0f7a4_46 rfl ?_
  refine z_nameI (fun v9 ev10 => ?_)
  have hF := hF v9 ev10
  refine z_istore_n (q := 48) (L' := [some (.int v9)]) dJ6_bitCount_0f7a4_47 rfl (Nat.le_of_ble_eq_true rfl) rfl rfl rfl ?_
  refine z_iload_n (q := 49) dJ6_bitCount_0f7a4_48 rfl rfl rfl ?_
  refine z_bipush (q := 51) (v := 63) dJ6_bitCount_0f7a4_49 (by decide) rfl ?_
  refine z_iand (q := 52) dJ6_bitCount_0f7a4_51 rfl ?_
  exact z_ireturn dJ6_bitCount_0f7a4_52 rfl ⟨_, rfl, hF⟩
