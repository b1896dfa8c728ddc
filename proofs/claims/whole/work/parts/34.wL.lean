set_option maxRecDepth 100000 in
set_option maxHeartbeats 4000000 in
theorem wL_law_355 {ψ : Int32 → ZH → Prop} {l0 : Nat} {l1 : Nat} {l2 : Nat} {l3 : Int32} {s0 : Int32} {s1 : Int32} {s2 : Int32} {s3 : Int32} {s4 : Int32} {s5 : Int32} {s6 : Nat} {rc rs : Nat} {h : ZH} (hF : ∃ rc1 rs2 : Nat, rc1 + 1 ≤ rc ∧ rs2 + 7 ≤ rs ∧ (zK h s6 = 11) ∧ ZcI mX10_man [.ref s6, .int s5, .int s4, .int s3, .int s2, .int s1, .int s0] h (fun x7 h5 => (zK h5 l0 = 20 ∨ zK h5 l0 = 30) ∧ (vp_in (l3 + 1) (zN h5 l0)) ∧ (vp_in (l3 + 2) (zN h5 l0)) ∧ (vp_in (l3 + 3) (zN h5 l0)) ∧ (vp_in (l3 + 4) (zN h5 l0)) ∧ (vp_in (l3 + 5) (zN h5 l0)) ∧ (vp_in (l3 + 6) (zN h5 l0)) ∧ (((zI h5 l0 (Int32.toNatClampNeg (l3 + 6))) = 0 → (zK h5 l2 = 12) ∧ ZcI mX11_man [.ref l2, .int (zI h5 l0 (Int32.toNatClampNeg (l3 + 1))), .int (zI h5 l0 (Int32.toNatClampNeg (l3 + 2))), .int (zI h5 l0 (Int32.toNatClampNeg (l3 + 3))), .int (zI h5 l0 (Int32.toNatClampNeg (l3 + 4))), .int (zI h5 l0 (Int32.toNatClampNeg (l3 + 5))), .int 0] h5 (fun x17 h15 => ((x7 = x17 → Zt mL_law (zPI ψ) rc1 rs2 18 [some (.ref l0), some (.ref l1), some (.ref l2), some (.int (l3 + 7))] [] h15) ∧ (¬ x7 = x17 → ψ 0 h15)))) ∧ (¬ (zI h5 l0 (Int32.toNatClampNeg (l3 + 6))) = 0 → (zK h5 l2 = 12) ∧ ZcI mX11_man [.ref l2, .int (zI h5 l0 (Int32.toNatClampNeg (l3 + 1))), .int (zI h5 l0 (Int32.toNatClampNeg (l3 + 2))), .int (zI h5 l0 (Int32.toNatClampNeg (l3 + 3))), .int (zI h5 l0 (Int32.toNatClampNeg (l3 + 4))), .int (zI h5 l0 (Int32.toNatClampNeg (l3 + 5))), .int 1] h5 (fun x20 h18 => ((x7 = x20 → Zt mL_law (zPI ψ) rc1 rs2 18 [some (.ref l0), some (.ref l1), some (.ref l2), some (.int (l3 + 7))] [] h18) ∧ (¬ x7 = x20 → ψ 0 h18))))))) : Zt mL_law (zPI ψ) rc rs 355 [some (.ref l0), some (.ref l1), some (.ref l2), some (.int l3)] [.int s0, .int s1, .int s2, .int s3, .int s4, .int s5, .ref s6] h := by
  obtain ⟨rc1, rs2, e3, e4, hF⟩ := hF
  refine Zt.room (rc' := rc1 + 1) (rs' := rs2 + 7) e3 e4 ?_
  obtain ⟨g6, hF⟩ := hF
  refine z_callVI (rc := rc1) (rs := rs2) (b := s6) (av := [.int s5, .int s4, .int s3, .int s2, .int s1, .int s0]) (ci := 10) (r := (RX10, TX10, 15)) (q := 358) hF dL_law_355 ml_L_28 ok_X10_man in_X10_man se_X10_man rfl rfl g6 rfl (Nat.le_of_ble_eq_true rfl) (by decide) (Nat.le_of_ble_eq_true rfl) rfl rfl rfl rfl (fun x7 h5 hF => ?_)
  refine z_aload_n (q := 359) dL_law_358 rfl rfl rfl ?_
  refine z_aload_n (q := 360) dL_law_359 rfl rfl rfl ?_
  refine z_iload_n (q := 361) dL_law_360 rfl rfl rfl ?_
  refine z_iconst (q := 362) (v := 1) dL_law_361 (by decide) rfl ?_
  refine z_iadd (q := 363) dL_law_362 rfl ?_
  obtain ⟨g8, hF⟩ := hF
  obtain ⟨g9, hF⟩ := hF
  refine y_iald (j := (Int32.toNatClampNeg (l3 + 1))) (q := 364) dL_law_363 g8 g9 rfl rfl ?_
  refine z_aload_n (q := 365) dL_law_364 rfl rfl rfl ?_
  refine z_iload_n (q := 366) dL_law_365 rfl rfl rfl ?_
  refine z_iconst (q := 367) (v := 2) dL_law_366 (by decide) rfl ?_
  refine z_iadd (q := 368) dL_law_367 rfl ?_
  obtain ⟨g10, hF⟩ := hF
  refine y_iald (j := (Int32.toNatClampNeg (l3 + 2))) (q := 369) dL_law_368 g8 g10 rfl rfl ?_
  refine z_aload_n (q := 370) dL_law_369 rfl rfl rfl ?_
  refine z_iload_n (q := 371) dL_law_370 rfl rfl rfl ?_
  refine z_iconst (q := 372) (v := 3) dL_law_371 (by decide) rfl ?_
  refine z_iadd (q := 373) dL_law_372 rfl ?_
  obtain ⟨g11, hF⟩ := hF
  refine y_iald (j := (Int32.toNatClampNeg (l3 + 3))) (q := 374) dL_law_373 g8 g11 rfl rfl ?_
  refine z_aload_n (q := 375) dL_law_374 rfl rfl rfl ?_
  refine z_iload_n (q := 376) dL_law_375 rfl rfl rfl ?_
  refine z_iconst (q := 377) (v := 4) dL_law_376 (by decide) rfl ?_
  refine z_iadd (q := 378) dL_law_377 rfl ?_
  obtain ⟨g12, hF⟩ := hF
  refine y_iald (j := (Int32.toNatClampNeg (l3 + 4))) (q := 379) dL_law_378 g8 g12 rfl rfl ?_
  refine z_aload_n (q := 380) dL_law_379 rfl rfl rfl ?_
  refine z_iload_n (q := 381) dL_law_380 rfl rfl rfl ?_
  refine z_iconst (q := 382) (v := 5) dL_law_381 (by decide) rfl ?_
  refine z_iadd (q := 383) dL_law_382 rfl ?_
  obtain ⟨g13, hF⟩ := hF
  refine y_iald (j := (Int32.toNatClampNeg (l3 + 5))) (q := 384) dL_law_383 g8 g13 rfl rfl ?_
  refine z_aload_n (q := 385) dL_law_384 rfl rfl rfl ?_
  refine z_iload_n (q := 386) dL_law_385 rfl rfl rfl ?_
  refine z_bipush (q := 388) (v := 6) dL_law_386 (by decide) rfl ?_
  refine z_iadd (q := 389) dL_law_388 rfl ?_
  obtain ⟨g14, hF⟩ := hF
  refine y_iald (j := (Int32.toNatClampNeg (l3 + 6))) (q := 390) dL_law_389 g8 g14 rfl rfl ?_
  refine z_if_eq (t := 397) (q := 393) dL_law_390 (by decide) rfl (fun hc => ?_) (fun hc => ?_)
  · have hF := hF.1 hc
    refine z_iconst (q := 398) (v := 0) dL_law_397 (by decide) rfl ?_
    obtain ⟨g16, hF⟩ := hF
    refine z_callVI (rc := rc1) (rs := rs2) (b := l2) (av := [.int (zI h5 l0 (Int32.toNatClampNeg (l3 + 1))), .int (zI h5 l0 (Int32.toNatClampNeg (l3 + 2))), .int (zI h5 l0 (Int32.toNatClampNeg (l3 + 3))), .int (zI h5 l0 (Int32.toNatClampNeg (l3 + 4))), .int (zI h5 l0 (Int32.toNatClampNeg (l3 + 5))), .int 0]) (ci := 11) (r := (RX11, TX11, 54)) (q := 401) hF dL_law_398 ml_L_32 ok_X11_man in_X11_man se_X11_man rfl rfl g16 rfl (Nat.le_of_ble_eq_true rfl) (by decide) (Nat.le_of_ble_eq_true rfl) rfl rfl rfl rfl (fun x17 h15 hF => ?_)
    refine z_icmp_eq (t := 1246) (q := 404) dL_law_401 (by decide) rfl (fun hc => ?_) (fun hc => ?_)
    · have hF := hF.1 hc
      refine z_iinc (q := 1249) (v := (l3 + 7)) (L' := [some (.ref l0), some (.ref l1), some (.ref l2), some (.int (l3 + 7))]) dL_law_1246 rfl rfl (Nat.le_of_ble_eq_true rfl) rfl rfl rfl ?_
      refine z_goto (q := 18) dL_law_1249 (by decide) ?_
      exact hF
    · have hF := hF.2 hc
      refine z_iconst (q := 405) (v := 0) dL_law_404 (by decide) rfl ?_
      exact z_zreturn dL_law_405 rfl (by decide) ⟨_, rfl, hF⟩
  · have hF := hF.2 hc
    refine z_iconst (q := 394) (v := 1) dL_law_393 (by decide) rfl ?_
    refine z_goto (q := 398) dL_law_394 (by decide) ?_
    obtain ⟨g19, hF⟩ := hF
    refine z_callVI (rc := rc1) (rs := rs2) (b := l2) (av := [.int (zI h5 l0 (Int32.toNatClampNeg (l3 + 1))), .int (zI h5 l0 (Int32.toNatClampNeg (l3 + 2))), .int (zI h5 l0 (Int32.toNatClampNeg (l3 + 3))), .int (zI h5 l0 (Int32.toNatClampNeg (l3 + 4))), .int (zI h5 l0 (Int32.toNatClampNeg (l3 + 5))), .int 1]) (ci := 11) (r := (RX11, TX11, 54)) (q := 401) hF dL_law_398 ml_L_32 ok_X11_man in_X11_man se_X11_man rfl rfl g19 rfl (Nat.le_of_ble_eq_true rfl) (by decide) (Nat.le_of_ble_eq_true rfl) rfl rfl rfl rfl (fun x20 h18 hF => ?_)
    refine z_icmp_eq (t := 1246) (q := 404) dL_law_401 (by decide) rfl (fun hc => ?_) (fun hc => ?_)
    · have hF := hF.1 hc
      refine z_iinc (q := 1249) (v := (l3 + 7)) (L' := [some (.ref l0), some (.ref l1), some (.ref l2), some (.int (l3 + 7))]) dL_law_1246 rfl rfl (Nat.le_of_ble_eq_true rfl) rfl rfl rfl ?_
      refine z_goto (q := 18) dL_law_1249 (by decide) ?_
      exact hF
    · have hF := hF.2 hc
      refine z_iconst (q := 405) (v := 0) dL_law_404 (by decide) rfl ?_
      exact z_zreturn dL_law_405 rfl (by decide) ⟨_, rfl, hF⟩
set_option maxRecDepth 100000 in
set_option maxHeartbeats 4000000 in
theorem wL_law_18 {ψ : Int32 → ZH → Prop} {l0 : Nat} {l1 : Nat} {l2 : Nat} {l3 : Int32} {rc rs : Nat} {h : ZH} (hF : (zK h l0 = 30) ∧ ((((Int32.ofNat (zN h l0)) - 7) < l3 → ψ 1 h) ∧ (¬ ((Int32.ofNat (zN h l0)) - 7) < l3 → (zK h l0 = 20 ∨ zK h l0 = 30) ∧ (vp_in l3 (zN h l0)) ∧ ((((zI h l0 (Int32.toNatClampNeg l3)) &&& 31) = 0 → (vp_in (l3 + 1) (zN h l0)) ∧ (vp_in (l3 + 2) (zN h l0)) ∧ (vp_in (l3 + 3) (zN h l0)) ∧ (zK h l1 = 11) ∧ ZcI mX10_town [.ref l1, .int (zI h l0 (Int32.toNatClampNeg (l3 + 1))), .int (zI h l0 (Int32.toNatClampNeg (l3 + 2))), .int (zI h l0 (Int32.toNatClampNeg (l3 + 3)))] h (fun x61 h59 => (zK h59 l0 = 20 ∨ zK h59 l0 = 30) ∧ (vp_in (l3 + 1) (zN h59 l0)) ∧ (vp_in (l3 + 2) (zN h59 l0)) ∧ (vp_in (l3 + 3) (zN h59 l0)) ∧ (zK h59 l2 = 12) ∧ ZcI mX11_town [.ref l2, .int (zI h59 l0 (Int32.toNatClampNeg (l3 + 1))), .int (zI h59 l0 (Int32.toNatClampNeg (l3 + 2))), .int (zI h59 l0 (Int32.toNatClampNeg (l3 + 3)))] h59 (fun x68 h66 => ((x61 = x68 → Zt mL_law (zPI ψ) rc rs 18 [some (.ref l0), some (.ref l1), some (.ref l2), some (.int (l3 + 7))] [] h66) ∧ (¬ x61 = x68 → ψ 0 h66))))) ∧ (((zI h l0 (Int32.toNatClampNeg l3)) &&& 31) = 1 → (vp_in (l3 + 1) (zN h l0)) ∧ (vp_in (l3 + 2) (zN h l0)) ∧ (vp_in (l3 + 3) (zN h l0)) ∧ (vp_in (l3 + 4) (zN h l0)) ∧ (vp_in (l3 + 5) (zN h l0)) ∧ ∃ rc74 rs75 : Nat, rc74 + 3 ≤ rc ∧ rs75 + 13 ≤ rs ∧ (zK h l1 = 11) ∧ ZcI mX10_pit [.ref l1, .int (zI h l0 (Int32.toNatClampNeg (l3 + 1))), .int (zI h l0 (Int32.toNatClampNeg (l3 + 2))), .int (zI h l0 (Int32.toNatClampNeg (l3 + 3))), .int (zI h l0 (Int32.toNatClampNeg (l3 + 4))), .int (zI h l0 (Int32.toNatClampNeg (l3 + 5)))] h (fun x80 h78 => (zK h78 l0 = 20 ∨ zK h78 l0 = 30) ∧ (vp_in (l3 + 1) (zN h78 l0)) ∧ (vp_in (l3 + 2) (zN h78 l0)) ∧ (vp_in (l3 + 3) (zN h78 l0)) ∧ (vp_in (l3 + 4) (zN h78 l0)) ∧ (vp_in (l3 + 5) (zN h78 l0)) ∧ (zK h78 l2 = 12) ∧ ZcI mX11_pit [.ref l2, .int (zI h78 l0 (Int32.toNatClampNeg (l3 + 1))), .int (zI h78 l0 (Int32.toNatClampNeg (l3 + 2))), .int (zI h78 l0 (Int32.toNatClampNeg (l3 + 3))), .int (zI h78 l0 (Int32.toNatClampNeg (l3 + 4))), .int (zI h78 l0 (Int32.toNatClampNeg (l3 + 5)))] h78 (fun x89 h87 => ((x80 = x89 → Zt mL_law (zPI ψ) rc74 rs75 18 [some (.ref l0), some (.ref l1), some (.ref l2), some (.int (l3 + 7))] [] h87) ∧ (¬ x80 = x89 → ψ 0 h87))))) ∧ (((zI h l0 (Int32.toNatClampNeg l3)) &&& 31) = 2 → (vp_in (l3 + 1) (zN h l0)) ∧ (vp_in (l3 + 2) (zN h l0)) ∧ (zK h l1 = 11) ∧ ZcI mX10_about [.ref l1, .int (zI h l0 (Int32.toNatClampNeg (l3 + 1))), .int (zI h l0 (Int32.toNatClampNeg (l3 + 2)))] h (fun x94 h92 => (zK h92 l0 = 20 ∨ zK h92 l0 = 30) ∧ (vp_in (l3 + 1) (zN h92 l0)) ∧ (vp_in (l3 + 2) (zN h92 l0)) ∧ (zK h92 l2 = 12) ∧ ZcI mX11_about [.ref l2, .int (zI h92 l0 (Int32.toNatClampNeg (l3 + 1))), .int (zI h92 l0 (Int32.toNatClampNeg (l3 + 2)))] h92 (fun x100 h98 => ((x94 = x100 → Zt mL_law (zPI ψ) rc rs 18 [some (.ref l0), some (.ref l1), some (.ref l2), some (.int (l3 + 7))] [] h98) ∧ (¬ x94 = x100 → ψ 0 h98))))) ∧ (((zI h l0 (Int32.toNatClampNeg l3)) &&& 31) = 3 → (vp_in (l3 + 1) (zN h l0)) ∧ (vp_in (l3 + 2) (zN h l0)) ∧ (vp_in (l3 + 3) (zN h l0)) ∧ (vp_in (l3 + 4) (zN h l0)) ∧ (vp_in (l3 + 5) (zN h l0)) ∧ (vp_in (l3 + 6) (zN h l0)) ∧ (((zI h l0 (Int32.toNatClampNeg (l3 + 6))) = 0 → Zt mL_law (zPI ψ) rc rs 355 [some (.ref l0), some (.ref l1), some (.ref l2), some (.int l3)] [.int 0, .int (zI h l0 (Int32.toNatClampNeg (l3 + 5))), .int (zI h l0 (Int32.toNatClampNeg (l3 + 4))), .int (zI h l0 (Int32.toNatClampNeg (l3 + 3))), .int (zI h l0 (Int32.toNatClampNeg (l3 + 2))), .int (zI h l0 (Int32.toNatClampNeg (l3 + 1))), .ref l1] h) ∧ (¬ (zI h l0 (Int32.toNatClampNeg (l3 + 6))) = 0 → Zt mL_law (zPI ψ) rc rs 355 [some (.ref l0), some (.ref l1), some (.ref l2), some (.int l3)] [.int 1, .int (zI h l0 (Int32.toNatClampNeg (l3 + 5))), .int (zI h l0 (Int32.toNatClampNeg (l3 + 4))), .int (zI h l0 (Int32.toNatClampNeg (l3 + 3))), .int (zI h l0 (Int32.toNatClampNeg (l3 + 2))), .int (zI h l0 (Int32.toNatClampNeg (l3 + 1))), .ref l1] h))) ∧ (((zI h l0 (Int32.toNatClampNeg l3)) &&& 31) = 4 → (vp_in (l3 + 1) (zN h l0)) ∧ (vp_in (l3 + 2) (zN h l0)) ∧ (zK h l1 = 11) ∧ ZcI mX10_ofMan [.ref l1, .int (zI h l0 (Int32.toNatClampNeg (l3 + 1))), .int (zI h l0 (Int32.toNatClampNeg (l3 + 2)))] h (fun x111 h109 => (zK h109 l0 = 20 ∨ zK h109 l0 = 30) ∧ (vp_in (l3 + 1) (zN h109 l0)) ∧ (vp_in (l3 + 2) (zN h109 l0)) ∧ (zK h109 l2 = 12) ∧ ZcI mX11_ofMan [.ref l2, .int (zI h109 l0 (Int32.toNatClampNeg (l3 + 1))), .int (zI h109 l0 (Int32.toNatClampNeg (l3 + 2)))] h109 (fun x117 h115 => ((x111 = x117 → Zt mL_law (zPI ψ) rc rs 18 [some (.ref l0), some (.ref l1), some (.ref l2), some (.int (l3 + 7))] [] h115) ∧ (¬ x111 = x117 → ψ 0 h115))))) ∧ (((zI h l0 (Int32.toNatClampNeg l3)) &&& 31) = 5 → (vp_in (l3 + 1) (zN h l0)) ∧ (zK h l1 = 11) ∧ ZcI mX10_leave [.ref l1, .int (zI h l0 (Int32.toNatClampNeg (l3 + 1)))] h (fun x121 h119 => (zK h119 l0 = 20 ∨ zK h119 l0 = 30) ∧ (vp_in (l3 + 1) (zN h119 l0)) ∧ (zK h119 l2 = 12) ∧ ZcI mX11_leave [.ref l2, .int (zI h119 l0 (Int32.toNatClampNeg (l3 + 1)))] h119 (fun x126 h124 => ((x121 = x126 → Zt mL_law (zPI ψ) rc rs 18 [some (.ref l0), some (.ref l1), some (.ref l2), some (.int (l3 + 7))] [] h124) ∧ (¬ x121 = x126 → ψ 0 h124))))) ∧ (((zI h l0 (Int32.toNatClampNeg l3)) &&& 31) = 6 → (vp_in (l3 + 1) (zN h l0)) ∧ (vp_in (l3 + 2) (zN h l0)) ∧ (vp_in (l3 + 3) (zN h l0)) ∧ (zK h l1 = 11) ∧ ZcI mX10_posts [.ref l1, .int (zI h l0 (Int32.toNatClampNeg (l3 + 1))), .int (zI h l0 (Int32.toNatClampNeg (l3 + 2))), .int (zI h l0 (Int32.toNatClampNeg (l3 + 3)))] h (fun x132 h130 => (zK h130 l0 = 20 ∨ zK h130 l0 = 30) ∧ (vp_in (l3 + 1) (zN h130 l0)) ∧ (vp_in (l3 + 2) (zN h130 l0)) ∧ (vp_in (l3 + 3) (zN h130 l0)) ∧ (zK h130 l2 = 12) ∧ ZcI mX11_posts [.ref l2, .int (zI h130 l0 (Int32.toNatClampNeg (l3 + 1))), .int (zI h130 l0 (Int32.toNatClampNeg (l3 + 2))), .int (zI h130 l0 (Int32.toNatClampNeg (l3 + 3)))] h130 (fun x139 h137 => ((x132 = x139 → Zt mL_law (zPI ψ) rc rs 18 [some (.ref l0), some (.ref l1), some (.ref l2), some (.int (l3 + 7))] [] h137) ∧ (¬ x132 = x139 → ψ 0 h137))))) ∧ (((zI h l0 (Int32.toNatClampNeg l3)) &&& 31) = 7 → (vp_in (l3 + 1) (zN h l0)) ∧ (vp_in (l3 + 2) (zN h l0)) ∧ (zK h l1 = 11) ∧ ZcI mX10_set [.ref l1, .int (zI h l0 (Int32.toNatClampNeg (l3 + 1))), .int (zI h l0 (Int32.toNatClampNeg (l3 + 2)))] h (fun x144 h142 => (zK h142 l0 = 20 ∨ zK h142 l0 = 30) ∧ (vp_in (l3 + 1) (zN h142 l0)) ∧ (vp_in (l3 + 2) (zN h142 l0)) ∧ (zK h142 l2 = 12) ∧ ZcI mX11_set [.ref l2, .int (zI h142 l0 (Int32.toNatClampNeg (l3 + 1))), .int (zI h142 l0 (Int32.toNatClampNeg (l3 + 2)))] h142 (fun x150 h148 => ((x144 = x150 → Zt mL_law (zPI ψ) rc rs 18 [some (.ref l0), some (.ref l1), some (.ref l2), some (.int (l3 + 7))] [] h148) ∧ (¬ x144 = x150 → ψ 0 h148))))) ∧ (((zI h l0 (Int32.toNatClampNeg l3)) &&& 31) = 8 → (zK h l1 = 11) ∧ ZcI mX10_year [.ref l1] h (fun x153 h151 => (zK h151 l2 = 12) ∧ ZcI mX11_year [.ref l2] h151 (fun x156 h154 => ((x153 = x156 → Zt mL_law (zPI ψ) rc rs 18 [some (.ref l0), some (.ref l1), some (.ref l2), some (.int (l3 + 7))] [] h154) ∧ (¬ x153 = x156 → ψ 0 h154))))) ∧ (((zI h l0 (Int32.toNatClampNeg l3)) &&& 31) = 9 → (vp_in (l3 + 1) (zN h l0)) ∧ (zK h l1 = 11) ∧ ZcI mX10_say [.ref l1, .int (zI h l0 (Int32.toNatClampNeg (l3 + 1)))] h (fun x160 h158 => (zK h158 l0 = 20 ∨ zK h158 l0 = 30) ∧ (vp_in (l3 + 1) (zN h158 l0)) ∧ (zK h158 l2 = 12) ∧ ZcI mX11_say [.ref l2, .int (zI h158 l0 (Int32.toNatClampNeg (l3 + 1)))] h158 (fun x165 h163 => ((x160 = x165 → Zt mL_law (zPI ψ) rc rs 18 [some (.ref l0), some (.ref l1), some (.ref l2), some (.int (l3 + 7))] [] h163) ∧ (¬ x160 = x165 → ψ 0 h163))))) ∧ (((zI h l0 (Int32.toNatClampNeg l3)) &&& 31) = 10 → (zK h l1 = 11) ∧ ZcI mX10_wipe [.ref l1] h (fun x168 h166 => (zK h166 l2 = 12) ∧ ZcI mX11_wipe [.ref l2] h166 (fun x171 h169 => ((x168 = x171 → Zt mL_law (zPI ψ) rc rs 18 [some (.ref l0), some (.ref l1), some (.ref l2), some (.int (l3 + 7))] [] h169) ∧ (¬ x168 = x171 → ψ 0 h169))))) ∧ (((zI h l0 (Int32.toNatClampNeg l3)) &&& 31) = 11 → (zK h l1 = 11) ∧ ZcI mX10_fault [.ref l1] h (fun x174 h172 => (zK h172 l2 = 12) ∧ ZcI mX11_fault [.ref l2] h172 (fun x177 h175 => ((x174 = x177 → Zt mL_law (zPI ψ) rc rs 18 [some (.ref l0), some (.ref l1), some (.ref l2), some (.int (l3 + 7))] [] h175) ∧ (¬ x174 = x177 → ψ 0 h175))))) ∧ (((zI h l0 (Int32.toNatClampNeg l3)) &&& 31) = 12 → (vp_in (l3 + 1) (zN h l0)) ∧ (zK h l1 = 11) ∧ ZcI mX10_rule [.ref l1, .int (zI h l0 (Int32.toNatClampNeg (l3 + 1)))] h (fun x181 h179 => (zK h179 l0 = 20 ∨ zK h179 l0 = 30) ∧ (vp_in (l3 + 1) (zN h179 l0)) ∧ (zK h179 l2 = 12) ∧ ZcI mX11_rule [.ref l2, .int (zI h179 l0 (Int32.toNatClampNeg (l3 + 1)))] h179 (fun x186 h184 => ((x181 = x186 → Zt mL_law (zPI ψ) rc rs 18 [some (.ref l0), some (.ref l1), some (.ref l2), some (.int (l3 + 7))] [] h184) ∧ (¬ x181 = x186 → ψ 0 h184))))) ∧ (((zI h l0 (Int32.toNatClampNeg l3)) &&& 31) = 13 → (vp_in (l3 + 1) (zN h l0)) ∧ (vp_in (l3 + 2) (zN h l0)) ∧ (zK h l1 = 11) ∧ ZcI mX10_worth [.ref l1, .int (zI h l0 (Int32.toNatClampNeg (l3 + 1))), .int (zI h l0 (Int32.toNatClampNeg (l3 + 2)))] h (fun x191 h189 => (zK h189 l0 = 20 ∨ zK h189 l0 = 30) ∧ (vp_in (l3 + 1) (zN h189 l0)) ∧ (vp_in (l3 + 2) (zN h189 l0)) ∧ (zK h189 l2 = 12) ∧ ZcI mX11_worth [.ref l2, .int (zI h189 l0 (Int32.toNatClampNeg (l3 + 1))), .int (zI h189 l0 (Int32.toNatClampNeg (l3 + 2)))] h189 (fun x197 h195 => ((x191 = x197 → Zt mL_law (zPI ψ) rc rs 18 [some (.ref l0), some (.ref l1), some (.ref l2), some (.int (l3 + 7))] [] h195) ∧ (¬ x191 = x197 → ψ 0 h195))))) ∧ (((zI h l0 (Int32.toNatClampNeg l3)) &&& 31) = 14 → (vp_in (l3 + 1) (zN h l0)) ∧ (vp_in (l3 + 2) (zN h l0)) ∧ (zK h l1 = 11) ∧ ZcI mX10_move [.ref l1, .int (zI h l0 (Int32.toNatClampNeg (l3 + 1))), .int (zI h l0 (Int32.toNatClampNeg (l3 + 2)))] h (fun x202 h200 => (zK h200 l0 = 20 ∨ zK h200 l0 = 30) ∧ (vp_in (l3 + 1) (zN h200 l0)) ∧ (vp_in (l3 + 2) (zN h200 l0)) ∧ (zK h200 l2 = 12) ∧ ZcI mX11_move [.ref l2, .int (zI h200 l0 (Int32.toNatClampNeg (l3 + 1))), .int (zI h200 l0 (Int32.toNatClampNeg (l3 + 2)))] h200 (fun x208 h206 => ((x202 = x208 → Zt mL_law (zPI ψ) rc rs 18 [some (.ref l0), some (.ref l1), some (.ref l2), some (.int (l3 + 7))] [] h206) ∧ (¬ x202 = x208 → ψ 0 h206))))) ∧ (((zI h l0 (Int32.toNatClampNeg l3)) &&& 31) = 15 → (vp_in (l3 + 1) (zN h l0)) ∧ (zK h l1 = 11) ∧ ZcI mX10_close [.ref l1, .int (zI h l0 (Int32.toNatClampNeg (l3 + 1)))] h (fun x212 h210 => (zK h210 l0 = 20 ∨ zK h210 l0 = 30) ∧ (vp_in (l3 + 1) (zN h210 l0)) ∧ (zK h210 l2 = 12) ∧ ZcI mX11_close [.ref l2, .int (zI h210 l0 (Int32.toNatClampNeg (l3 + 1)))] h210 (fun x217 h215 => ((x212 = x217 → Zt mL_law (zPI ψ) rc rs 18 [some (.ref l0), some (.ref l1), some (.ref l2), some (.int (l3 + 7))] [] h215) ∧ (¬ x212 = x217 → ψ 0 h215))))) ∧ (((zI h l0 (Int32.toNatClampNeg l3)) &&& 31) = 16 → (vp_in (l3 + 1) (zN h l0)) ∧ (vp_in (l3 + 2) (zN h l0)) ∧ (zK h l1 = 11) ∧ ZcI mX10_inflow [.ref l1, .int (zI h l0 (Int32.toNatClampNeg (l3 + 1))), .int (zI h l0 (Int32.toNatClampNeg (l3 + 2)))] h (fun x222 h220 => (zK h220 l0 = 20 ∨ zK h220 l0 = 30) ∧ (vp_in (l3 + 1) (zN h220 l0)) ∧ (vp_in (l3 + 2) (zN h220 l0)) ∧ (zK h220 l2 = 12) ∧ ZcI mX11_inflow [.ref l2, .int (zI h220 l0 (Int32.toNatClampNeg (l3 + 1))), .int (zI h220 l0 (Int32.toNatClampNeg (l3 + 2)))] h220 (fun x228 h226 => ((x222 = x228 → Zt mL_law (zPI ψ) rc rs 18 [some (.ref l0), some (.ref l1), some (.ref l2), some (.int (l3 + 7))] [] h226) ∧ (¬ x222 = x228 → ψ 0 h226))))) ∧ (((zI h l0 (Int32.toNatClampNeg l3)) &&& 31) = 17 → (vp_in (l3 + 1) (zN h l0)) ∧ (vp_in (l3 + 2) (zN h l0)) ∧ (((zI h l0 (Int32.toNatClampNeg (l3 + 2))) = 0 → (zK h l1 = 11) ∧ ZcI mX10_pump [.ref l1, .int (zI h l0 (Int32.toNatClampNeg (l3 + 1))), .int 0] h (fun x233 h231 => (zK h231 l0 = 20 ∨ zK h231 l0 = 30) ∧ (vp_in (l3 + 1) (zN h231 l0)) ∧ (vp_in (l3 + 2) (zN h231 l0)) ∧ (((zI h231 l0 (Int32.toNatClampNeg (l3 + 2))) = 0 → (zK h231 l2 = 12) ∧ ZcI mX11_pump [.ref l2, .int (zI h231 l0 (Int32.toNatClampNeg (l3 + 1))), .int 0] h231 (fun x239 h237 => ((x233 = x239 → Zt mL_law (zPI ψ) rc rs 18 [some (.ref l0), some (.ref l1), some (.ref l2), some (.int (l3 + 7))] [] h237) ∧ (¬ x233 = x239 → ψ 0 h237)))) ∧ (¬ (zI h231 l0 (Int32.toNatClampNeg (l3 + 2))) = 0 → (zK h231 l2 = 12) ∧ ZcI mX11_pump [.ref l2, .int (zI h231 l0 (Int32.toNatClampNeg (l3 + 1))), .int 1] h231 (fun x242 h240 => ((x233 = x242 → Zt mL_law (zPI ψ) rc rs 18 [some (.ref l0), some (.ref l1), some (.ref l2), some (.int (l3 + 7))] [] h240) ∧ (¬ x233 = x242 → ψ 0 h240))))))) ∧ (¬ (zI h l0 (Int32.toNatClampNeg (l3 + 2))) = 0 → (zK h l1 = 11) ∧ ZcI mX10_pump [.ref l1, .int (zI h l0 (Int32.toNatClampNeg (l3 + 1))), .int 1] h (fun x245 h243 => (zK h243 l0 = 20 ∨ zK h243 l0 = 30) ∧ (vp_in (l3 + 1) (zN h243 l0)) ∧ (vp_in (l3 + 2) (zN h243 l0)) ∧ (((zI h243 l0 (Int32.toNatClampNeg (l3 + 2))) = 0 → (zK h243 l2 = 12) ∧ ZcI mX11_pump [.ref l2, .int (zI h243 l0 (Int32.toNatClampNeg (l3 + 1))), .int 0] h243 (fun x251 h249 => ((x245 = x251 → Zt mL_law (zPI ψ) rc rs 18 [some (.ref l0), some (.ref l1), some (.ref l2), some (.int (l3 + 7))] [] h249) ∧ (¬ x245 = x251 → ψ 0 h249)))) ∧ (¬ (zI h243 l0 (Int32.toNatClampNeg (l3 + 2))) = 0 → (zK h243 l2 = 12) ∧ ZcI mX11_pump [.ref l2, .int (zI h243 l0 (Int32.toNatClampNeg (l3 + 1))), .int 1] h243 (fun x254 h252 => ((x245 = x254 → Zt mL_law (zPI ψ) rc rs 18 [some (.ref l0), some (.ref l1), some (.ref l2), some (.int (l3 + 7))] [] h252) ∧ (¬ x245 = x254 → ψ 0 h252))))))))) ∧ (((zI h l0 (Int32.toNatClampNeg l3)) &&& 31) = 18 → (vp_in (l3 + 1) (zN h l0)) ∧ (vp_in (l3 + 2) (zN h l0)) ∧ (vp_in (l3 + 3) (zN h l0)) ∧ (zK h l1 = 11) ∧ ZcI mX10_way [.ref l1, .int (zI h l0 (Int32.toNatClampNeg (l3 + 1))), .int (zI h l0 (Int32.toNatClampNeg (l3 + 2))), .int (zI h l0 (Int32.toNatClampNeg (l3 + 3)))] h (fun x260 h258 => (zK h258 l0 = 20 ∨ zK h258 l0 = 30) ∧ (vp_in (l3 + 1) (zN h258 l0)) ∧ (vp_in (l3 + 2) (zN h258 l0)) ∧ (vp_in (l3 + 3) (zN h258 l0)) ∧ (zK h258 l2 = 12) ∧ ZcI mX11_way [.ref l2, .int (zI h258 l0 (Int32.toNatClampNeg (l3 + 1))), .int (zI h258 l0 (Int32.toNatClampNeg (l3 + 2))), .int (zI h258 l0 (Int32.toNatClampNeg (l3 + 3)))] h258 (fun x267 h265 => ((x260 = x267 → Zt mL_law (zPI ψ) rc rs 18 [some (.ref l0), some (.ref l1), some (.ref l2), some (.int (l3 + 7))] [] h265) ∧ (¬ x260 = x267 → ψ 0 h265))))) ∧ (((zI h l0 (Int32.toNatClampNeg l3)) &&& 31) = 19 → (vp_in (l3 + 1) (zN h l0)) ∧ (zK h l1 = 11) ∧ ZcI mX10_months [.ref l1, .int (zI h l0 (Int32.toNatClampNeg (l3 + 1)))] h (fun x271 h269 => (zK h269 l0 = 20 ∨ zK h269 l0 = 30) ∧ (vp_in (l3 + 1) (zN h269 l0)) ∧ (zK h269 l2 = 12) ∧ ZcI mX11_months [.ref l2, .int (zI h269 l0 (Int32.toNatClampNeg (l3 + 1)))] h269 (fun x276 h274 => ((x271 = x276 → Zt mL_law (zPI ψ) rc rs 18 [some (.ref l0), some (.ref l1), some (.ref l2), some (.int (l3 + 7))] [] h274) ∧ (¬ x271 = x276 → ψ 0 h274))))) ∧ (((zI h l0 (Int32.toNatClampNeg l3)) &&& 31) = 20 → (vp_in (l3 + 1) (zN h l0)) ∧ (vp_in (l3 + 2) (zN h l0)) ∧ (zK h l1 = 11) ∧ ZcI mX10_threat [.ref l1, .int (zI h l0 (Int32.toNatClampNeg (l3 + 1))), .int (zI h l0 (Int32.toNatClampNeg (l3 + 2)))] h (fun x281 h279 => (zK h279 l0 = 20 ∨ zK h279 l0 = 30) ∧ (vp_in (l3 + 1) (zN h279 l0)) ∧ (vp_in (l3 + 2) (zN h279 l0)) ∧ (zK h279 l2 = 12) ∧ ZcI mX11_threat [.ref l2, .int (zI h279 l0 (Int32.toNatClampNeg (l3 + 1))), .int (zI h279 l0 (Int32.toNatClampNeg (l3 + 2)))] h279 (fun x287 h285 => ((x281 = x287 → Zt mL_law (zPI ψ) rc rs 18 [some (.ref l0), some (.ref l1), some (.ref l2), some (.int (l3 + 7))] [] h285) ∧ (¬ x281 = x287 → ψ 0 h285))))) ∧ (((zI h l0 (Int32.toNatClampNeg l3)) &&& 31) = 21 → (vp_in (l3 + 1) (zN h l0)) ∧ (vp_in (l3 + 2) (zN h l0)) ∧ (vp_in (l3 + 3) (zN h l0)) ∧ (zK h l1 = 11) ∧ ZcI mX10_price [.ref l1, .int (zI h l0 (Int32.toNatClampNeg (l3 + 1))), .int (zI h l0 (Int32.toNatClampNeg (l3 + 2))), .int (zI h l0 (Int32.toNatClampNeg (l3 + 3)))] h (fun x293 h291 => (zK h291 l0 = 20 ∨ zK h291 l0 = 30) ∧ (vp_in (l3 + 1) (zN h291 l0)) ∧ (vp_in (l3 + 2) (zN h291 l0)) ∧ (vp_in (l3 + 3) (zN h291 l0)) ∧ (zK h291 l2 = 12) ∧ ZcI mX11_price [.ref l2, .int (zI h291 l0 (Int32.toNatClampNeg (l3 + 1))), .int (zI h291 l0 (Int32.toNatClampNeg (l3 + 2))), .int (zI h291 l0 (Int32.toNatClampNeg (l3 + 3)))] h291 (fun x300 h298 => ((x293 = x300 → Zt mL_law (zPI ψ) rc rs 18 [some (.ref l0), some (.ref l1), some (.ref l2), some (.int (l3 + 7))] [] h298) ∧ (¬ x293 = x300 → ψ 0 h298))))) ∧ (((zI h l0 (Int32.toNatClampNeg l3)) &&& 31) = 22 → (vp_in (l3 + 1) (zN h l0)) ∧ (vp_in (l3 + 2) (zN h l0)) ∧ (zK h l1 = 11) ∧ ZcI mX10_plan [.ref l1, .int (zI h l0 (Int32.toNatClampNeg (l3 + 1))), .int (zI h l0 (Int32.toNatClampNeg (l3 + 2)))] h (fun x305 h303 => (zK h303 l0 = 20 ∨ zK h303 l0 = 30) ∧ (vp_in (l3 + 1) (zN h303 l0)) ∧ (vp_in (l3 + 2) (zN h303 l0)) ∧ (zK h303 l2 = 12) ∧ ZcI mX11_plan [.ref l2, .int (zI h303 l0 (Int32.toNatClampNeg (l3 + 1))), .int (zI h303 l0 (Int32.toNatClampNeg (l3 + 2)))] h303 (fun x311 h309 => ((x305 = x311 → Zt mL_law (zPI ψ) rc rs 18 [some (.ref l0), some (.ref l1), some (.ref l2), some (.int (l3 + 7))] [] h309) ∧ (¬ x305 = x311 → ψ 0 h309))))) ∧ (((zI h l0 (Int32.toNatClampNeg l3)) &&& 31) = 23 → (vp_in (l3 + 1) (zN h l0)) ∧ (zK h l1 = 11) ∧ ZcI mX10_best [.ref l1, .int (zI h l0 (Int32.toNatClampNeg (l3 + 1)))] h (fun x315 h313 => (zK h313 l0 = 20 ∨ zK h313 l0 = 30) ∧ (vp_in (l3 + 1) (zN h313 l0)) ∧ (zK h313 l2 = 12) ∧ ZcI mX11_best [.ref l2, .int (zI h313 l0 (Int32.toNatClampNeg (l3 + 1)))] h313 (fun x320 h318 => ((x315 = x320 → Zt mL_law (zPI ψ) rc rs 18 [some (.ref l0), some (.ref l1), some (.ref l2), some (.int (l3 + 7))] [] h318) ∧ (¬ x315 = x320 → ψ 0 h318))))) ∧ (((zI h l0 (Int32.toNatClampNeg l3)) &&& 31) = 24 → (vp_in (l3 + 1) (zN h l0)) ∧ (vp_in (l3 + 2) (zN h l0)) ∧ (zK h l1 = 11) ∧ ZcI mX10_vote [.ref l1, .int (zI h l0 (Int32.toNatClampNeg (l3 + 1))), .int (zI h l0 (Int32.toNatClampNeg (l3 + 2)))] h (fun x325 h323 => (zK h323 l0 = 20 ∨ zK h323 l0 = 30) ∧ (vp_in (l3 + 1) (zN h323 l0)) ∧ (vp_in (l3 + 2) (zN h323 l0)) ∧ (zK h323 l2 = 12) ∧ ZcI mX11_vote [.ref l2, .int (zI h323 l0 (Int32.toNatClampNeg (l3 + 1))), .int (zI h323 l0 (Int32.toNatClampNeg (l3 + 2)))] h323 (fun x331 h329 => ((x325 = x331 → Zt mL_law (zPI ψ) rc rs 18 [some (.ref l0), some (.ref l1), some (.ref l2), some (.int (l3 + 7))] [] h329) ∧ (¬ x325 = x331 → ψ 0 h329))))) ∧ (((zI h l0 (Int32.toNatClampNeg l3)) &&& 31) = 25 → (vp_in (l3 + 1) (zN h l0)) ∧ (vp_in (l3 + 2) (zN h l0)) ∧ (vp_in (l3 + 3) (zN h l0)) ∧ (zK h l1 = 11) ∧ ZcI mX10_worked [.ref l1, .int (zI h l0 (Int32.toNatClampNeg (l3 + 1))), .int (zI h l0 (Int32.toNatClampNeg (l3 + 2))), .int (zI h l0 (Int32.toNatClampNeg (l3 + 3)))] h (fun x337 h335 => (zK h335 l0 = 20 ∨ zK h335 l0 = 30) ∧ (vp_in (l3 + 1) (zN h335 l0)) ∧ (vp_in (l3 + 2) (zN h335 l0)) ∧ (vp_in (l3 + 3) (zN h335 l0)) ∧ (zK h335 l2 = 12) ∧ ZcI mX11_worked [.ref l2, .int (zI h335 l0 (Int32.toNatClampNeg (l3 + 1))), .int (zI h335 l0 (Int32.toNatClampNeg (l3 + 2))), .int (zI h335 l0 (Int32.toNatClampNeg (l3 + 3)))] h335 (fun x344 h342 => ((x337 = x344 → Zt mL_law (zPI ψ) rc rs 18 [some (.ref l0), some (.ref l1), some (.ref l2), some (.int (l3 + 7))] [] h342) ∧ (¬ x337 = x344 → ψ 0 h342))))) ∧ (((zI h l0 (Int32.toNatClampNeg l3)) &&& 31) = 26 → (vp_in (l3 + 1) (zN h l0)) ∧ (vp_in (l3 + 2) (zN h l0)) ∧ (vp_in (l3 + 3) (zN h l0)) ∧ (vp_in (l3 + 4) (zN h l0)) ∧ ∃ rc349 rs350 : Nat, rc349 + 2 ≤ rc ∧ rs350 + 5 ≤ rs ∧ (zK h l1 = 11) ∧ ZcI mX10_harm [.ref l1, .int (zI h l0 (Int32.toNatClampNeg (l3 + 1))), .int (zI h l0 (Int32.toNatClampNeg (l3 + 2))), .int (zI h l0 (Int32.toNatClampNeg (l3 + 3))), .int (zI h l0 (Int32.toNatClampNeg (l3 + 4)))] h (fun x355 h353 => (zK h353 l0 = 20 ∨ zK h353 l0 = 30) ∧ (vp_in (l3 + 1) (zN h353 l0)) ∧ (vp_in (l3 + 2) (zN h353 l0)) ∧ (vp_in (l3 + 3) (zN h353 l0)) ∧ (vp_in (l3 + 4) (zN h353 l0)) ∧ (zK h353 l2 = 12) ∧ ZcI mX11_harm [.ref l2, .int (zI h353 l0 (Int32.toNatClampNeg (l3 + 1))), .int (zI h353 l0 (Int32.toNatClampNeg (l3 + 2))), .int (zI h353 l0 (Int32.toNatClampNeg (l3 + 3))), .int (zI h353 l0 (Int32.toNatClampNeg (l3 + 4)))] h353 (fun x363 h361 => ((x355 = x363 → Zt mL_law (zPI ψ) rc349 rs350 18 [some (.ref l0), some (.ref l1), some (.ref l2), some (.int (l3 + 7))] [] h361) ∧ (¬ x355 = x363 → ψ 0 h361))))) ∧ (((zI h l0 (Int32.toNatClampNeg l3)) &&& 31) = 27 → (vp_in (l3 + 1) (zN h l0)) ∧ (zK h l1 = 11) ∧ ZcI mX10_whose [.ref l1, .int (zI h l0 (Int32.toNatClampNeg (l3 + 1)))] h (fun x367 h365 => (zK h365 l0 = 20 ∨ zK h365 l0 = 30) ∧ (vp_in (l3 + 1) (zN h365 l0)) ∧ (zK h365 l2 = 12) ∧ ZcI mX11_whose [.ref l2, .int (zI h365 l0 (Int32.toNatClampNeg (l3 + 1)))] h365 (fun x372 h370 => ((x367 = x372 → Zt mL_law (zPI ψ) rc rs 18 [some (.ref l0), some (.ref l1), some (.ref l2), some (.int (l3 + 7))] [] h370) ∧ (¬ x367 = x372 → ψ 0 h370))))) ∧ (((zI h l0 (Int32.toNatClampNeg l3)) &&& 31) = 28 → (vp_in (l3 + 1) (zN h l0)) ∧ (vp_in (l3 + 2) (zN h l0)) ∧ (zK h l1 = 11) ∧ ZcI mX10_part [.ref l1, .int (zI h l0 (Int32.toNatClampNeg (l3 + 1))), .int (zI h l0 (Int32.toNatClampNeg (l3 + 2)))] h (fun x377 h375 => (zK h375 l0 = 20 ∨ zK h375 l0 = 30) ∧ (vp_in (l3 + 1) (zN h375 l0)) ∧ (vp_in (l3 + 2) (zN h375 l0)) ∧ (zK h375 l2 = 12) ∧ ZcI mX11_part [.ref l2, .int (zI h375 l0 (Int32.toNatClampNeg (l3 + 1))), .int (zI h375 l0 (Int32.toNatClampNeg (l3 + 2)))] h375 (fun x383 h381 => ((x377 = x383 → Zt mL_law (zPI ψ) rc rs 18 [some (.ref l0), some (.ref l1), some (.ref l2), some (.int (l3 + 7))] [] h381) ∧ (¬ x377 = x383 → ψ 0 h381))))) ∧ (((zI h l0 (Int32.toNatClampNeg l3)) &&& 31) = 29 → (vp_in (l3 + 1) (zN h l0)) ∧ (vp_in (l3 + 2) (zN h l0)) ∧ (zK h l1 = 11) ∧ ZcI mX10_work [.ref l1, .int (zI h l0 (Int32.toNatClampNeg (l3 + 1))), .int (zI h l0 (Int32.toNatClampNeg (l3 + 2)))] h (fun x388 h386 => (zK h386 l0 = 20 ∨ zK h386 l0 = 30) ∧ (vp_in (l3 + 1) (zN h386 l0)) ∧ (vp_in (l3 + 2) (zN h386 l0)) ∧ (zK h386 l2 = 12) ∧ ZcI mX11_work [.ref l2, .int (zI h386 l0 (Int32.toNatClampNeg (l3 + 1))), .int (zI h386 l0 (Int32.toNatClampNeg (l3 + 2)))] h386 (fun x394 h392 => ((x388 = x394 → Zt mL_law (zPI ψ) rc rs 18 [some (.ref l0), some (.ref l1), some (.ref l2), some (.int (l3 + 7))] [] h392) ∧ (¬ x388 = x394 → ψ 0 h392))))) ∧ (((zI h l0 (Int32.toNatClampNeg l3)) &&& 31) = 30 → (zK h l1 = 11) ∧ ZcI mX10_lone [.ref l1] h (fun x397 h395 => (zK h395 l2 = 12) ∧ ZcI mX11_lone [.ref l2] h395 (fun x400 h398 => ((x397 = x400 → Zt mL_law (zPI ψ) rc rs 18 [some (.ref l0), some (.ref l1), some (.ref l2), some (.int (l3 + 7))] [] h398) ∧ (¬ x397 = x400 → ψ 0 h398))))) ∧ (((zI h l0 (Int32.toNatClampNeg l3)) &&& 31) = 31 → (vp_in (l3 + 1) (zN h l0)) ∧ (zK h l1 = 11) ∧ ZcI mX10_told [.ref l1, .int (zI h l0 (Int32.toNatClampNeg (l3 + 1)))] h (fun x404 h402 => (zK h402 l0 = 20 ∨ zK h402 l0 = 30) ∧ (vp_in (l3 + 1) (zN h402 l0)) ∧ (zK h402 l2 = 12) ∧ ZcI mX11_told [.ref l2, .int (zI h402 l0 (Int32.toNatClampNeg (l3 + 1)))] h402 (fun x409 h407 => ((x404 = x409 → Zt mL_law (zPI ψ) rc rs 18 [some (.ref l0), some (.ref l1), some (.ref l2), some (.int (l3 + 7))] [] h407) ∧ (¬ x404 = x409 → ψ 0 h407))))) ∧ (¬ ((zI h l0 (Int32.toNatClampNeg l3)) &&& 31) = 0 → ¬ ((zI h l0 (Int32.toNatClampNeg l3)) &&& 31) = 1 → ¬ ((zI h l0 (Int32.toNatClampNeg l3)) &&& 31) = 2 → ¬ ((zI h l0 (Int32.toNatClampNeg l3)) &&& 31) = 3 → ¬ ((zI h l0 (Int32.toNatClampNeg l3)) &&& 31) = 4 → ¬ ((zI h l0 (Int32.toNatClampNeg l3)) &&& 31) = 5 → ¬ ((zI h l0 (Int32.toNatClampNeg l3)) &&& 31) = 6 → ¬ ((zI h l0 (Int32.toNatClampNeg l3)) &&& 31) = 7 → ¬ ((zI h l0 (Int32.toNatClampNeg l3)) &&& 31) = 8 → ¬ ((zI h l0 (Int32.toNatClampNeg l3)) &&& 31) = 9 → ¬ ((zI h l0 (Int32.toNatClampNeg l3)) &&& 31) = 10 → ¬ ((zI h l0 (Int32.toNatClampNeg l3)) &&& 31) = 11 → ¬ ((zI h l0 (Int32.toNatClampNeg l3)) &&& 31) = 12 → ¬ ((zI h l0 (Int32.toNatClampNeg l3)) &&& 31) = 13 → ¬ ((zI h l0 (Int32.toNatClampNeg l3)) &&& 31) = 14 → ¬ ((zI h l0 (Int32.toNatClampNeg l3)) &&& 31) = 15 → ¬ ((zI h l0 (Int32.toNatClampNeg l3)) &&& 31) = 16 → ¬ ((zI h l0 (Int32.toNatClampNeg l3)) &&& 31) = 17 → ¬ ((zI h l0 (Int32.toNatClampNeg l3)) &&& 31) = 18 → ¬ ((zI h l0 (Int32.toNatClampNeg l3)) &&& 31) = 19 → ¬ ((zI h l0 (Int32.toNatClampNeg l3)) &&& 31) = 20 → ¬ ((zI h l0 (Int32.toNatClampNeg l3)) &&& 31) = 21 → ¬ ((zI h l0 (Int32.toNatClampNeg l3)) &&& 31) = 22 → ¬ ((zI h l0 (Int32.toNatClampNeg l3)) &&& 31) = 23 → ¬ ((zI h l0 (Int32.toNatClampNeg l3)) &&& 31) = 24 → ¬ ((zI h l0 (Int32.toNatClampNeg l3)) &&& 31) = 25 → ¬ ((zI h l0 (Int32.toNatClampNeg l3)) &&& 31) = 26 → ¬ ((zI h l0 (Int32.toNatClampNeg l3)) &&& 31) = 27 → ¬ ((zI h l0 (Int32.toNatClampNeg l3)) &&& 31) = 28 → ¬ ((zI h l0 (Int32.toNatClampNeg l3)) &&& 31) = 29 → ¬ ((zI h l0 (Int32.toNatClampNeg l3)) &&& 31) = 30 → ¬ ((zI h l0 (Int32.toNatClampNeg l3)) &&& 31) = 31 → Zt mL_law (zPI ψ) rc rs 18 [some (.ref l0), some (.ref l1), some (.ref l2), some (.int (l3 + 7))] [] h))))) : Zt mL_law (zPI ψ) rc rs 18 [some (.ref l0), some (.ref l1), some (.ref l2), some (.int l3)] [] h := by
  refine z_iload_n (q := 19) dL_law_18 rfl rfl rfl ?_
  refine z_aload_n (q := 20) dL_law_19 rfl rfl rfl ?_
  obtain ⟨g21, hF⟩ := hF
  refine y_alen (kd := 30) (q := 21) dL_law_20 g21 (by decide) (by decide) rfl ?_
  refine z_bipush (q := 23) (v := 7) dL_law_21 (by decide) rfl ?_
  refine z_isub (q := 24) dL_law_23 rfl ?_
  refine z_icmp_gt (t := 1252) (q := 27) dL_law_24 (by decide) rfl (fun hc => ?_) (fun hc => ?_)
  · have hF := hF.1 hc
    refine z_iconst (q := 1253) (v := 1) dL_law_1252 (by decide) rfl ?_
    exact z_zreturn dL_law_1253 rfl (by decide) ⟨_, rfl, hF⟩
  · have hF := hF.2 hc
    refine z_aload_n (q := 28) dL_law_27 rfl rfl rfl ?_
    refine z_iload_n (q := 29) dL_law_28 rfl rfl rfl ?_
    obtain ⟨g22, hF⟩ := hF
    obtain ⟨g23, hF⟩ := hF
    refine y_iald (j := (Int32.toNatClampNeg l3)) (q := 30) dL_law_29 g22 g23 rfl rfl ?_
    refine z_bipush (q := 32) (v := 31) dL_law_30 (by decide) rfl ?_
    refine z_iand (q := 33) dL_law_32 rfl ?_
    by_cases e24 : ((zI h l0 (Int32.toNatClampNeg l3)) &&& 31) = 0
    · refine z_tableIn (q := 176) (off := 143) dL_law_33 (by rw [e24]; decide) (by rw [e24]; decide) (by rw [e24]; decide) (by decide) ?_
      have hF := hF.1 e24
      refine z_aload_n (q := 177) dL_law_176 rfl rfl rfl ?_
      refine z_aload_n (q := 178) dL_law_177 rfl rfl rfl ?_
      refine z_iload_n (q := 179) dL_law_178 rfl rfl rfl ?_
      refine z_iconst (q := 180) (v := 1) dL_law_179 (by decide) rfl ?_
      refine z_iadd (q := 181) dL_law_180 rfl ?_
      obtain ⟨g56, hF⟩ := hF
      refine y_iald (j := (Int32.toNatClampNeg (l3 + 1))) (q := 182) dL_law_181 g22 g56 rfl rfl ?_
      refine z_aload_n (q := 183) dL_law_182 rfl rfl rfl ?_
      refine z_iload_n (q := 184) dL_law_183 rfl rfl rfl ?_
      refine z_iconst (q := 185) (v := 2) dL_law_184 (by decide) rfl ?_
      refine z_iadd (q := 186) dL_law_185 rfl ?_
      obtain ⟨g57, hF⟩ := hF
      refine y_iald (j := (Int32.toNatClampNeg (l3 + 2))) (q := 187) dL_law_186 g22 g57 rfl rfl ?_
      refine z_aload_n (q := 188) dL_law_187 rfl rfl rfl ?_
      refine z_iload_n (q := 189) dL_law_188 rfl rfl rfl ?_
      refine z_iconst (q := 190) (v := 3) dL_law_189 (by decide) rfl ?_
      refine z_iadd (q := 191) dL_law_190 rfl ?_
      obtain ⟨g58, hF⟩ := hF
      refine y_iald (j := (Int32.toNatClampNeg (l3 + 3))) (q := 192) dL_law_191 g22 g58 rfl rfl ?_
      obtain ⟨g60, hF⟩ := hF
      refine z_callVI (rc := rc) (rs := rs) (b := l1) (av := [.int (zI h l0 (Int32.toNatClampNeg (l3 + 1))), .int (zI h l0 (Int32.toNatClampNeg (l3 + 2))), .int (zI h l0 (Int32.toNatClampNeg (l3 + 3)))]) (ci := 10) (r := (RX10, TX10, 15)) (q := 195) hF dL_law_192 ml_L_13 ok_X10_town in_X10_town se_X10_town rfl rfl g60 rfl (Nat.le_of_ble_eq_true rfl) (by decide) (Nat.le_of_ble_eq_true rfl) rfl rfl rfl rfl (fun x61 h59 hF => ?_)
      refine z_aload_n (q := 196) dL_law_195 rfl rfl rfl ?_
      refine z_aload_n (q := 197) dL_law_196 rfl rfl rfl ?_
      refine z_iload_n (q := 198) dL_law_197 rfl rfl rfl ?_
      refine z_iconst (q := 199) (v := 1) dL_law_198 (by decide) rfl ?_
      refine z_iadd (q := 200) dL_law_199 rfl ?_
      obtain ⟨g62, hF⟩ := hF
      obtain ⟨g63, hF⟩ := hF
      refine y_iald (j := (Int32.toNatClampNeg (l3 + 1))) (q := 201) dL_law_200 g62 g63 rfl rfl ?_
      refine z_aload_n (q := 202) dL_law_201 rfl rfl rfl ?_
      refine z_iload_n (q := 203) dL_law_202 rfl rfl rfl ?_
      refine z_iconst (q := 204) (v := 2) dL_law_203 (by decide) rfl ?_
      refine z_iadd (q := 205) dL_law_204 rfl ?_
      obtain ⟨g64, hF⟩ := hF
      refine y_iald (j := (Int32.toNatClampNeg (l3 + 2))) (q := 206) dL_law_205 g62 g64 rfl rfl ?_
      refine z_aload_n (q := 207) dL_law_206 rfl rfl rfl ?_
      refine z_iload_n (q := 208) dL_law_207 rfl rfl rfl ?_
      refine z_iconst (q := 209) (v := 3) dL_law_208 (by decide) rfl ?_
      refine z_iadd (q := 210) dL_law_209 rfl ?_
      obtain ⟨g65, hF⟩ := hF
      refine y_iald (j := (Int32.toNatClampNeg (l3 + 3))) (q := 211) dL_law_210 g62 g65 rfl rfl ?_
      obtain ⟨g67, hF⟩ := hF
      refine z_callVI (rc := rc) (rs := rs) (b := l2) (av := [.int (zI h59 l0 (Int32.toNatClampNeg (l3 + 1))), .int (zI h59 l0 (Int32.toNatClampNeg (l3 + 2))), .int (zI h59 l0 (Int32.toNatClampNeg (l3 + 3)))]) (ci := 11) (r := (RX11, TX11, 54)) (q := 214) hF dL_law_211 ml_L_17 ok_X11_town in_X11_town se_X11_town rfl rfl g67 rfl (Nat.le_of_ble_eq_true rfl) (by decide) (Nat.le_of_ble_eq_true rfl) rfl rfl rfl rfl (fun x68 h66 hF => ?_)
      refine z_icmp_eq (t := 1246) (q := 217) dL_law_214 (by decide) rfl (fun hc => ?_) (fun hc => ?_)
      · have hF := hF.1 hc
        refine z_iinc (q := 1249) (v := (l3 + 7)) (L' := [some (.ref l0), some (.ref l1), some (.ref l2), some (.int (l3 + 7))]) dL_law_1246 rfl rfl (Nat.le_of_ble_eq_true rfl) rfl rfl rfl ?_
        refine z_goto (q := 18) dL_law_1249 (by decide) ?_
        exact hF
      · have hF := hF.2 hc
        refine z_iconst (q := 218) (v := 0) dL_law_217 (by decide) rfl ?_
        exact z_zreturn dL_law_218 rfl (by decide) ⟨_, rfl, hF⟩
    by_cases e25 : ((zI h l0 (Int32.toNatClampNeg l3)) &&& 31) = 1
    · refine z_tableIn (q := 219) (off := 186) dL_law_33 (by rw [e25]; decide) (by rw [e25]; decide) (by rw [e25]; decide) (by decide) ?_
      have hF := hF.2.1 e25
      refine z_aload_n (q := 220) dL_law_219 rfl rfl rfl ?_
      refine z_aload_n (q := 221) dL_law_220 rfl rfl rfl ?_
      refine z_iload_n (q := 222) dL_law_221 rfl rfl rfl ?_
      refine z_iconst (q := 223) (v := 1) dL_law_222 (by decide) rfl ?_
      refine z_iadd (q := 224) dL_law_223 rfl ?_
      obtain ⟨g69, hF⟩ := hF
      refine y_iald (j := (Int32.toNatClampNeg (l3 + 1))) (q := 225) dL_law_224 g22 g69 rfl rfl ?_
      refine z_aload_n (q := 226) dL_law_225 rfl rfl rfl ?_
      refine z_iload_n (q := 227) dL_law_226 rfl rfl rfl ?_
      refine z_iconst (q := 228) (v := 2) dL_law_227 (by decide) rfl ?_
      refine z_iadd (q := 229) dL_law_228 rfl ?_
      obtain ⟨g70, hF⟩ := hF
      refine y_iald (j := (Int32.toNatClampNeg (l3 + 2))) (q := 230) dL_law_229 g22 g70 rfl rfl ?_
      refine z_aload_n (q := 231) dL_law_230 rfl rfl rfl ?_
      refine z_iload_n (q := 232) dL_law_231 rfl rfl rfl ?_
      refine z_iconst (q := 233) (v := 3) dL_law_232 (by decide) rfl ?_
      refine z_iadd (q := 234) dL_law_233 rfl ?_
      obtain ⟨g71, hF⟩ := hF
      refine y_iald (j := (Int32.toNatClampNeg (l3 + 3))) (q := 235) dL_law_234 g22 g71 rfl rfl ?_
      refine z_aload_n (q := 236) dL_law_235 rfl rfl rfl ?_
      refine z_iload_n (q := 237) dL_law_236 rfl rfl rfl ?_
      refine z_iconst (q := 238) (v := 4) dL_law_237 (by decide) rfl ?_
      refine z_iadd (q := 239) dL_law_238 rfl ?_
      obtain ⟨g72, hF⟩ := hF
      refine y_iald (j := (Int32.toNatClampNeg (l3 + 4))) (q := 240) dL_law_239 g22 g72 rfl rfl ?_
      refine z_aload_n (q := 241) dL_law_240 rfl rfl rfl ?_
      refine z_iload_n (q := 242) dL_law_241 rfl rfl rfl ?_
      refine z_iconst (q := 243) (v := 5) dL_law_242 (by decide) rfl ?_
      refine z_iadd (q := 244) dL_law_243 rfl ?_
      obtain ⟨g73, hF⟩ := hF
      refine y_iald (j := (Int32.toNatClampNeg (l3 + 5))) (q := 245) dL_law_244 g22 g73 rfl rfl ?_
      obtain ⟨rc74, rs75, e76, e77, hF⟩ := hF
      refine Zt.room (rc' := rc74 + 3) (rs' := rs75 + 13) e76 e77 ?_
      obtain ⟨g79, hF⟩ := hF
      refine z_callVI (rc := rc74) (rs := rs75) (b := l1) (av := [.int (zI h l0 (Int32.toNatClampNeg (l3 + 1))), .int (zI h l0 (Int32.toNatClampNeg (l3 + 2))), .int (zI h l0 (Int32.toNatClampNeg (l3 + 3))), .int (zI h l0 (Int32.toNatClampNeg (l3 + 4))), .int (zI h l0 (Int32.toNatClampNeg (l3 + 5)))]) (ci := 10) (r := (RX10, TX10, 15)) (q := 248) hF dL_law_245 ml_L_18 ok_X10_pit in_X10_pit se_X10_pit rfl rfl g79 rfl (Nat.le_of_ble_eq_true rfl) (by decide) (Nat.le_of_ble_eq_true rfl) rfl rfl rfl rfl (fun x80 h78 hF => ?_)
      refine z_aload_n (q := 249) dL_law_248 rfl rfl rfl ?_
      refine z_aload_n (q := 250) dL_law_249 rfl rfl rfl ?_
      refine z_iload_n (q := 251) dL_law_250 rfl rfl rfl ?_
      refine z_iconst (q := 252) (v := 1) dL_law_251 (by decide) rfl ?_
      refine z_iadd (q := 253) dL_law_252 rfl ?_
      obtain ⟨g81, hF⟩ := hF
      obtain ⟨g82, hF⟩ := hF
      refine y_iald (j := (Int32.toNatClampNeg (l3 + 1))) (q := 254) dL_law_253 g81 g82 rfl rfl ?_
      refine z_aload_n (q := 255) dL_law_254 rfl rfl rfl ?_
      refine z_iload_n (q := 256) dL_law_255 rfl rfl rfl ?_
      refine z_iconst (q := 257) (v := 2) dL_law_256 (by decide) rfl ?_
      refine z_iadd (q := 258) dL_law_257 rfl ?_
      obtain ⟨g83, hF⟩ := hF
      refine y_iald (j := (Int32.toNatClampNeg (l3 + 2))) (q := 259) dL_law_258 g81 g83 rfl rfl ?_
      refine z_aload_n (q := 260) dL_law_259 rfl rfl rfl ?_
      refine z_iload_n (q := 261) dL_law_260 rfl rfl rfl ?_
      refine z_iconst (q := 262) (v := 3) dL_law_261 (by decide) rfl ?_
      refine z_iadd (q := 263) dL_law_262 rfl ?_
      obtain ⟨g84, hF⟩ := hF
      refine y_iald (j := (Int32.toNatClampNeg (l3 + 3))) (q := 264) dL_law_263 g81 g84 rfl rfl ?_
      refine z_aload_n (q := 265) dL_law_264 rfl rfl rfl ?_
      refine z_iload_n (q := 266) dL_law_265 rfl rfl rfl ?_
      refine z_iconst (q := 267) (v := 4) dL_law_266 (by decide) rfl ?_
      refine z_iadd (q := 268) dL_law_267 rfl ?_
      obtain ⟨g85, hF⟩ := hF
      refine y_iald (j := (Int32.toNatClampNeg (l3 + 4))) (q := 269) dL_law_268 g81 g85 rfl rfl ?_
      refine z_aload_n (q := 270) dL_law_269 rfl rfl rfl ?_
      refine z_iload_n (q := 271) dL_law_270 rfl rfl rfl ?_
      refine z_iconst (q := 272) (v := 5) dL_law_271 (by decide) rfl ?_
      refine z_iadd (q := 273) dL_law_272 rfl ?_
      obtain ⟨g86, hF⟩ := hF
      refine y_iald (j := (Int32.toNatClampNeg (l3 + 5))) (q := 274) dL_law_273 g81 g86 rfl rfl ?_
      obtain ⟨g88, hF⟩ := hF
      refine z_callVI (rc := rc74) (rs := rs75) (b := l2) (av := [.int (zI h78 l0 (Int32.toNatClampNeg (l3 + 1))), .int (zI h78 l0 (Int32.toNatClampNeg (l3 + 2))), .int (zI h78 l0 (Int32.toNatClampNeg (l3 + 3))), .int (zI h78 l0 (Int32.toNatClampNeg (l3 + 4))), .int (zI h78 l0 (Int32.toNatClampNeg (l3 + 5)))]) (ci := 11) (r := (RX11, TX11, 54)) (q := 277) hF dL_law_274 ml_L_22 ok_X11_pit in_X11_pit se_X11_pit rfl rfl g88 rfl (Nat.le_of_ble_eq_true rfl) (by decide) (Nat.le_of_ble_eq_true rfl) rfl rfl rfl rfl (fun x89 h87 hF => ?_)
      refine z_icmp_eq (t := 1246) (q := 280) dL_law_277 (by decide) rfl (fun hc => ?_) (fun hc => ?_)
      · have hF := hF.1 hc
        refine z_iinc (q := 1249) (v := (l3 + 7)) (L' := [some (.ref l0), some (.ref l1), some (.ref l2), some (.int (l3 + 7))]) dL_law_1246 rfl rfl (Nat.le_of_ble_eq_true rfl) rfl rfl rfl ?_
        refine z_goto (q := 18) dL_law_1249 (by decide) ?_
        exact hF
      · have hF := hF.2 hc
        refine z_iconst (q := 281) (v := 0) dL_law_280 (by decide) rfl ?_
        exact z_zreturn dL_law_281 rfl (by decide) ⟨_, rfl, hF⟩
    by_cases e26 : ((zI h l0 (Int32.toNatClampNeg l3)) &&& 31) = 2
    · refine z_tableIn (q := 282) (off := 249) dL_law_33 (by rw [e26]; decide) (by rw [e26]; decide) (by rw [e26]; decide) (by decide) ?_
      have hF := hF.2.2.1 e26
      refine z_aload_n (q := 283) dL_law_282 rfl rfl rfl ?_
      refine z_aload_n (q := 284) dL_law_283 rfl rfl rfl ?_
      refine z_iload_n (q := 285) dL_law_284 rfl rfl rfl ?_
      refine z_iconst (q := 286) (v := 1) dL_law_285 (by decide) rfl ?_
      refine z_iadd (q := 287) dL_law_286 rfl ?_
      obtain ⟨g90, hF⟩ := hF
      refine y_iald (j := (Int32.toNatClampNeg (l3 + 1))) (q := 288) dL_law_287 g22 g90 rfl rfl ?_
      refine z_aload_n (q := 289) dL_law_288 rfl rfl rfl ?_
      refine z_iload_n (q := 290) dL_law_289 rfl rfl rfl ?_
      refine z_iconst (q := 291) (v := 2) dL_law_290 (by decide) rfl ?_
      refine z_iadd (q := 292) dL_law_291 rfl ?_
      obtain ⟨g91, hF⟩ := hF
      refine y_iald (j := (Int32.toNatClampNeg (l3 + 2))) (q := 293) dL_law_292 g22 g91 rfl rfl ?_
      obtain ⟨g93, hF⟩ := hF
      refine z_callVI (rc := rc) (rs := rs) (b := l1) (av := [.int (zI h l0 (Int32.toNatClampNeg (l3 + 1))), .int (zI h l0 (Int32.toNatClampNeg (l3 + 2)))]) (ci := 10) (r := (RX10, TX10, 15)) (q := 296) hF dL_law_293 ml_L_23 ok_X10_about in_X10_about se_X10_about rfl rfl g93 rfl (Nat.le_of_ble_eq_true rfl) (by decide) (Nat.le_of_ble_eq_true rfl) rfl rfl rfl rfl (fun x94 h92 hF => ?_)
      refine z_aload_n (q := 297) dL_law_296 rfl rfl rfl ?_
      refine z_aload_n (q := 298) dL_law_297 rfl rfl rfl ?_
      refine z_iload_n (q := 299) dL_law_298 rfl rfl rfl ?_
      refine z_iconst (q := 300) (v := 1) dL_law_299 (by decide) rfl ?_
      refine z_iadd (q := 301) dL_law_300 rfl ?_
      obtain ⟨g95, hF⟩ := hF
      obtain ⟨g96, hF⟩ := hF
      refine y_iald (j := (Int32.toNatClampNeg (l3 + 1))) (q := 302) dL_law_301 g95 g96 rfl rfl ?_
      refine z_aload_n (q := 303) dL_law_302 rfl rfl rfl ?_
      refine z_iload_n (q := 304) dL_law_303 rfl rfl rfl ?_
      refine z_iconst (q := 305) (v := 2) dL_law_304 (by decide) rfl ?_
      refine z_iadd (q := 306) dL_law_305 rfl ?_
      obtain ⟨g97, hF⟩ := hF
      refine y_iald (j := (Int32.toNatClampNeg (l3 + 2))) (q := 307) dL_law_306 g95 g97 rfl rfl ?_
      obtain ⟨g99, hF⟩ := hF
      refine z_callVI (rc := rc) (rs := rs) (b := l2) (av := [.int (zI h92 l0 (Int32.toNatClampNeg (l3 + 1))), .int (zI h92 l0 (Int32.toNatClampNeg (l3 + 2)))]) (ci := 11) (r := (RX11, TX11, 54)) (q := 310) hF dL_law_307 ml_L_27 ok_X11_about in_X11_about se_X11_about rfl rfl g99 rfl (Nat.le_of_ble_eq_true rfl) (by decide) (Nat.le_of_ble_eq_true rfl) rfl rfl rfl rfl (fun x100 h98 hF => ?_)
      refine z_icmp_eq (t := 1246) (q := 313) dL_law_310 (by decide) rfl (fun hc => ?_) (fun hc => ?_)
      · have hF := hF.1 hc
        refine z_iinc (q := 1249) (v := (l3 + 7)) (L' := [some (.ref l0), some (.ref l1), some (.ref l2), some (.int (l3 + 7))]) dL_law_1246 rfl rfl (Nat.le_of_ble_eq_true rfl) rfl rfl rfl ?_
        refine z_goto (q := 18) dL_law_1249 (by decide) ?_
        exact hF
      · have hF := hF.2 hc
        refine z_iconst (q := 314) (v := 0) dL_law_313 (by decide) rfl ?_
        exact z_zreturn dL_law_314 rfl (by decide) ⟨_, rfl, hF⟩
    by_cases e27 : ((zI h l0 (Int32.toNatClampNeg l3)) &&& 31) = 3
    · refine z_tableIn (q := 315) (off := 282) dL_law_33 (by rw [e27]; decide) (by rw [e27]; decide) (by rw [e27]; decide) (by decide) ?_
      have hF := hF.2.2.2.1 e27
      refine z_aload_n (q := 316) dL_law_315 rfl rfl rfl ?_
      refine z_aload_n (q := 317) dL_law_316 rfl rfl rfl ?_
      refine z_iload_n (q := 318) dL_law_317 rfl rfl rfl ?_
      refine z_iconst (q := 319) (v := 1) dL_law_318 (by decide) rfl ?_
      refine z_iadd (q := 320) dL_law_319 rfl ?_
      obtain ⟨g101, hF⟩ := hF
      refine y_iald (j := (Int32.toNatClampNeg (l3 + 1))) (q := 321) dL_law_320 g22 g101 rfl rfl ?_
      refine z_aload_n (q := 322) dL_law_321 rfl rfl rfl ?_
      refine z_iload_n (q := 323) dL_law_322 rfl rfl rfl ?_
      refine z_iconst (q := 324) (v := 2) dL_law_323 (by decide) rfl ?_
      refine z_iadd (q := 325) dL_law_324 rfl ?_
      obtain ⟨g102, hF⟩ := hF
      refine y_iald (j := (Int32.toNatClampNeg (l3 + 2))) (q := 326) dL_law_325 g22 g102 rfl rfl ?_
      refine z_aload_n (q := 327) dL_law_326 rfl rfl rfl ?_
      refine z_iload_n (q := 328) dL_law_327 rfl rfl rfl ?_
      refine z_iconst (q := 329) (v := 3) dL_law_328 (by decide) rfl ?_
      refine z_iadd (q := 330) dL_law_329 rfl ?_
      obtain ⟨g103, hF⟩ := hF
      refine y_iald (j := (Int32.toNatClampNeg (l3 + 3))) (q := 331) dL_law_330 g22 g103 rfl rfl ?_
      refine z_aload_n (q := 332) dL_law_331 rfl rfl rfl ?_
      refine z_iload_n (q := 333) dL_law_332 rfl rfl rfl ?_
      refine z_iconst (q := 334) (v := 4) dL_law_333 (by decide) rfl ?_
      refine z_iadd (q := 335) dL_law_334 rfl ?_
      obtain ⟨g104, hF⟩ := hF
      refine y_iald (j := (Int32.toNatClampNeg (l3 + 4))) (q := 336) dL_law_335 g22 g104 rfl rfl ?_
      refine z_aload_n (q := 337) dL_law_336 rfl rfl rfl ?_
      refine z_iload_n (q := 338) dL_law_337 rfl rfl rfl ?_
      refine z_iconst (q := 339) (v := 5) dL_law_338 (by decide) rfl ?_
      refine z_iadd (q := 340) dL_law_339 rfl ?_
      obtain ⟨g105, hF⟩ := hF
      refine y_iald (j := (Int32.toNatClampNeg (l3 + 5))) (q := 341) dL_law_340 g22 g105 rfl rfl ?_
      refine z_aload_n (q := 342) dL_law_341 rfl rfl rfl ?_
      refine z_iload_n (q := 343) dL_law_342 rfl rfl rfl ?_
      refine z_bipush (q := 345) (v := 6) dL_law_343 (by decide) rfl ?_
      refine z_iadd (q := 346) dL_law_345 rfl ?_
      obtain ⟨g106, hF⟩ := hF
      refine y_iald (j := (Int32.toNatClampNeg (l3 + 6))) (q := 347) dL_law_346 g22 g106 rfl rfl ?_
      refine z_if_eq (t := 354) (q := 350) dL_law_347 (by decide) rfl (fun hc => ?_) (fun hc => ?_)
      · have hF := hF.1 hc
        refine z_iconst (q := 355) (v := 0) dL_law_354 (by decide) rfl ?_
        exact hF
      · have hF := hF.2 hc
        refine z_iconst (q := 351) (v := 1) dL_law_350 (by decide) rfl ?_
        refine z_goto (q := 355) dL_law_351 (by decide) ?_
        exact hF
    by_cases e28 : ((zI h l0 (Int32.toNatClampNeg l3)) &&& 31) = 4
    · refine z_tableIn (q := 406) (off := 373) dL_law_33 (by rw [e28]; decide) (by rw [e28]; decide) (by rw [e28]; decide) (by decide) ?_
      have hF := hF.2.2.2.2.1 e28
      refine z_aload_n (q := 407) dL_law_406 rfl rfl rfl ?_
      refine z_aload_n (q := 408) dL_law_407 rfl rfl rfl ?_
      refine z_iload_n (q := 409) dL_law_408 rfl rfl rfl ?_
      refine z_iconst (q := 410) (v := 1) dL_law_409 (by decide) rfl ?_
      refine z_iadd (q := 411) dL_law_410 rfl ?_
      obtain ⟨g107, hF⟩ := hF
      refine y_iald (j := (Int32.toNatClampNeg (l3 + 1))) (q := 412) dL_law_411 g22 g107 rfl rfl ?_
      refine z_aload_n (q := 413) dL_law_412 rfl rfl rfl ?_
      refine z_iload_n (q := 414) dL_law_413 rfl rfl rfl ?_
      refine z_iconst (q := 415) (v := 2) dL_law_414 (by decide) rfl ?_
      refine z_iadd (q := 416) dL_law_415 rfl ?_
      obtain ⟨g108, hF⟩ := hF
      refine y_iald (j := (Int32.toNatClampNeg (l3 + 2))) (q := 417) dL_law_416 g22 g108 rfl rfl ?_
      obtain ⟨g110, hF⟩ := hF
      refine z_callVI (rc := rc) (rs := rs) (b := l1) (av := [.int (zI h l0 (Int32.toNatClampNeg (l3 + 1))), .int (zI h l0 (Int32.toNatClampNeg (l3 + 2)))]) (ci := 10) (r := (RX10, TX10, 15)) (q := 420) hF dL_law_417 ml_L_33 ok_X10_ofMan in_X10_ofMan se_X10_ofMan rfl rfl g110 rfl (Nat.le_of_ble_eq_true rfl) (by decide) (Nat.le_of_ble_eq_true rfl) rfl rfl rfl rfl (fun x111 h109 hF => ?_)
      refine z_aload_n (q := 421) dL_law_420 rfl rfl rfl ?_
      refine z_aload_n (q := 422) dL_law_421 rfl rfl rfl ?_
      refine z_iload_n (q := 423) dL_law_422 rfl rfl rfl ?_
      refine z_iconst (q := 424) (v := 1) dL_law_423 (by decide) rfl ?_
      refine z_iadd (q := 425) dL_law_424 rfl ?_
      obtain ⟨g112, hF⟩ := hF
      obtain ⟨g113, hF⟩ := hF
      refine y_iald (j := (Int32.toNatClampNeg (l3 + 1))) (q := 426) dL_law_425 g112 g113 rfl rfl ?_
      refine z_aload_n (q := 427) dL_law_426 rfl rfl rfl ?_
      refine z_iload_n (q := 428) dL_law_427 rfl rfl rfl ?_
      refine z_iconst (q := 429) (v := 2) dL_law_428 (by decide) rfl ?_
      refine z_iadd (q := 430) dL_law_429 rfl ?_
      obtain ⟨g114, hF⟩ := hF
      refine y_iald (j := (Int32.toNatClampNeg (l3 + 2))) (q := 431) dL_law_430 g112 g114 rfl rfl ?_
      obtain ⟨g116, hF⟩ := hF
      refine z_callVI (rc := rc) (rs := rs) (b := l2) (av := [.int (zI h109 l0 (Int32.toNatClampNeg (l3 + 1))), .int (zI h109 l0 (Int32.toNatClampNeg (l3 + 2)))]) (ci := 11) (r := (RX11, TX11, 54)) (q := 434) hF dL_law_431 ml_L_36 ok_X11_ofMan in_X11_ofMan se_X11_ofMan rfl rfl g116 rfl (Nat.le_of_ble_eq_true rfl) (by decide) (Nat.le_of_ble_eq_true rfl) rfl rfl rfl rfl (fun x117 h115 hF => ?_)
      refine z_icmp_eq (t := 1246) (q := 437) dL_law_434 (by decide) rfl (fun hc => ?_) (fun hc => ?_)
      · have hF := hF.1 hc
        refine z_iinc (q := 1249) (v := (l3 + 7)) (L' := [some (.ref l0), some (.ref l1), some (.ref l2), some (.int (l3 + 7))]) dL_law_1246 rfl rfl (Nat.le_of_ble_eq_true rfl) rfl rfl rfl ?_
        refine z_goto (q := 18) dL_law_1249 (by decide) ?_
        exact hF
      · have hF := hF.2 hc
        refine z_iconst (q := 438) (v := 0) dL_law_437 (by decide) rfl ?_
        exact z_zreturn dL_law_438 rfl (by decide) ⟨_, rfl, hF⟩
    by_cases e29 : ((zI h l0 (Int32.toNatClampNeg l3)) &&& 31) = 5
    · refine z_tableIn (q := 439) (off := 406) dL_law_33 (by rw [e29]; decide) (by rw [e29]; decide) (by rw [e29]; decide) (by decide) ?_
      have hF := hF.2.2.2.2.2.1 e29
      refine z_aload_n (q := 440) dL_law_439 rfl rfl rfl ?_
      refine z_aload_n (q := 441) dL_law_440 rfl rfl rfl ?_
      refine z_iload_n (q := 442) dL_law_441 rfl rfl rfl ?_
      refine z_iconst (q := 443) (v := 1) dL_law_442 (by decide) rfl ?_
      refine z_iadd (q := 444) dL_law_443 rfl ?_
      obtain ⟨g118, hF⟩ := hF
      refine y_iald (j := (Int32.toNatClampNeg (l3 + 1))) (q := 445) dL_law_444 g22 g118 rfl rfl ?_
      obtain ⟨g120, hF⟩ := hF
      refine z_callVI (rc := rc) (rs := rs) (b := l1) (av := [.int (zI h l0 (Int32.toNatClampNeg (l3 + 1)))]) (ci := 10) (r := (RX10, TX10, 15)) (q := 448) hF dL_law_445 ml_L_37 ok_X10_leave in_X10_leave se_X10_leave rfl rfl g120 rfl (Nat.le_of_ble_eq_true rfl) (by decide) (Nat.le_of_ble_eq_true rfl) rfl rfl rfl rfl (fun x121 h119 hF => ?_)
      refine z_aload_n (q := 449) dL_law_448 rfl rfl rfl ?_
      refine z_aload_n (q := 450) dL_law_449 rfl rfl rfl ?_
      refine z_iload_n (q := 451) dL_law_450 rfl rfl rfl ?_
      refine z_iconst (q := 452) (v := 1) dL_law_451 (by decide) rfl ?_
      refine z_iadd (q := 453) dL_law_452 rfl ?_
      obtain ⟨g122, hF⟩ := hF
      obtain ⟨g123, hF⟩ := hF
      refine y_iald (j := (Int32.toNatClampNeg (l3 + 1))) (q := 454) dL_law_453 g122 g123 rfl rfl ?_
      obtain ⟨g125, hF⟩ := hF
      refine z_callVI (rc := rc) (rs := rs) (b := l2) (av := [.int (zI h119 l0 (Int32.toNatClampNeg (l3 + 1)))]) (ci := 11) (r := (RX11, TX11, 54)) (q := 457) hF dL_law_454 ml_L_41 ok_X11_leave in_X11_leave se_X11_leave rfl rfl g125 rfl (Nat.le_of_ble_eq_true rfl) (by decide) (Nat.le_of_ble_eq_true rfl) rfl rfl rfl rfl (fun x126 h124 hF => ?_)
      refine z_icmp_eq (t := 1246) (q := 460) dL_law_457 (by decide) rfl (fun hc => ?_) (fun hc => ?_)
      · have hF := hF.1 hc
        refine z_iinc (q := 1249) (v := (l3 + 7)) (L' := [some (.ref l0), some (.ref l1), some (.ref l2), some (.int (l3 + 7))]) dL_law_1246 rfl rfl (Nat.le_of_ble_eq_true rfl) rfl rfl rfl ?_
        refine z_goto (q := 18) dL_law_1249 (by decide) ?_
        exact hF
      · have hF := hF.2 hc
        refine z_iconst (q := 461) (v := 0) dL_law_460 (by decide) rfl ?_
        exact z_zreturn dL_law_461 rfl (by decide) ⟨_, rfl, hF⟩
    by_cases e30 : ((zI h l0 (Int32.toNatClampNeg l3)) &&& 31) = 6
    · refine z_tableIn (q := 462) (off := 429) dL_law_33 (by rw [e30]; decide) (by rw [e30]; decide) (by rw [e30]; decide) (by decide) ?_
      have hF := hF.2.2.2.2.2.2.1 e30
      refine z_aload_n (q := 463) dL_law_462 rfl rfl rfl ?_
      refine z_aload_n (q := 464) dL_law_463 rfl rfl rfl ?_
      refine z_iload_n (q := 465) dL_law_464 rfl rfl rfl ?_
      refine z_iconst (q := 466) (v := 1) dL_law_465 (by decide) rfl ?_
      refine z_iadd (q := 467) dL_law_466 rfl ?_
      obtain ⟨g127, hF⟩ := hF
      refine y_iald (j := (Int32.toNatClampNeg (l3 + 1))) (q := 468) dL_law_467 g22 g127 rfl rfl ?_
      refine z_aload_n (q := 469) dL_law_468 rfl rfl rfl ?_
      refine z_iload_n (q := 470) dL_law_469 rfl rfl rfl ?_
      refine z_iconst (q := 471) (v := 2) dL_law_470 (by decide) rfl ?_
      refine z_iadd (q := 472) dL_law_471 rfl ?_
      obtain ⟨g128, hF⟩ := hF
      refine y_iald (j := (Int32.toNatClampNeg (l3 + 2))) (q := 473) dL_law_472 g22 g128 rfl rfl ?_
      refine z_aload_n (q := 474) dL_law_473 rfl rfl rfl ?_
      refine z_iload_n (q := 475) dL_law_474 rfl rfl rfl ?_
      refine z_iconst (q := 476) (v := 3) dL_law_475 (by decide) rfl ?_
      refine z_iadd (q := 477) dL_law_476 rfl ?_
      obtain ⟨g129, hF⟩ := hF
      refine y_iald (j := (Int32.toNatClampNeg (l3 + 3))) (q := 478) dL_law_477 g22 g129 rfl rfl ?_
      obtain ⟨g131, hF⟩ := hF
      refine z_callVI (rc := rc) (rs := rs) (b := l1) (av := [.int (zI h l0 (Int32.toNatClampNeg (l3 + 1))), .int (zI h l0 (Int32.toNatClampNeg (l3 + 2))), .int (zI h l0 (Int32.toNatClampNeg (l3 + 3)))]) (ci := 10) (r := (RX10, TX10, 15)) (q := 481) hF dL_law_478 ml_L_42 ok_X10_posts in_X10_posts se_X10_posts rfl rfl g131 rfl (Nat.le_of_ble_eq_true rfl) (by decide) (Nat.le_of_ble_eq_true rfl) rfl rfl rfl rfl (fun x132 h130 hF => ?_)
      refine z_aload_n (q := 482) dL_law_481 rfl rfl rfl ?_
      refine z_aload_n (q := 483) dL_law_482 rfl rfl rfl ?_
      refine z_iload_n (q := 484) dL_law_483 rfl rfl rfl ?_
      refine z_iconst (q := 485) (v := 1) dL_law_484 (by decide) rfl ?_
      refine z_iadd (q := 486) dL_law_485 rfl ?_
      obtain ⟨g133, hF⟩ := hF
      obtain ⟨g134, hF⟩ := hF
      refine y_iald (j := (Int32.toNatClampNeg (l3 + 1))) (q := 487) dL_law_486 g133 g134 rfl rfl ?_
      refine z_aload_n (q := 488) dL_law_487 rfl rfl rfl ?_
      refine z_iload_n (q := 489) dL_law_488 rfl rfl rfl ?_
      refine z_iconst (q := 490) (v := 2) dL_law_489 (by decide) rfl ?_
      refine z_iadd (q := 491) dL_law_490 rfl ?_
      obtain ⟨g135, hF⟩ := hF
      refine y_iald (j := (Int32.toNatClampNeg (l3 + 2))) (q := 492) dL_law_491 g133 g135 rfl rfl ?_
      refine z_aload_n (q := 493) dL_law_492 rfl rfl rfl ?_
      refine z_iload_n (q := 494) dL_law_493 rfl rfl rfl ?_
      refine z_iconst (q := 495) (v := 3) dL_law_494 (by decide) rfl ?_
      refine z_iadd (q := 496) dL_law_495 rfl ?_
      obtain ⟨g136, hF⟩ := hF
      refine y_iald (j := (Int32.toNatClampNeg (l3 + 3))) (q := 497) dL_law_496 g133 g136 rfl rfl ?_
      obtain ⟨g138, hF⟩ := hF
      refine z_callVI (rc := rc) (rs := rs) (b := l2) (av := [.int (zI h130 l0 (Int32.toNatClampNeg (l3 + 1))), .int (zI h130 l0 (Int32.toNatClampNeg (l3 + 2))), .int (zI h130 l0 (Int32.toNatClampNeg (l3 + 3)))]) (ci := 11) (r := (RX11, TX11, 54)) (q := 500) hF dL_law_497 ml_L_45 ok_X11_posts in_X11_posts se_X11_posts rfl rfl g138 rfl (Nat.le_of_ble_eq_true rfl) (by decide) (Nat.le_of_ble_eq_true rfl) rfl rfl rfl rfl (fun x139 h137 hF => ?_)
      refine z_icmp_eq (t := 1246) (q := 503) dL_law_500 (by decide) rfl (fun hc => ?_) (fun hc => ?_)
      · have hF := hF.1 hc
        refine z_iinc (q := 1249) (v := (l3 + 7)) (L' := [some (.ref l0), some (.ref l1), some (.ref l2), some (.int (l3 + 7))]) dL_law_1246 rfl rfl (Nat.le_of_ble_eq_true rfl) rfl rfl rfl ?_
        refine z_goto (q := 18) dL_law_1249 (by decide) ?_
        exact hF
      · have hF := hF.2 hc
        refine z_iconst (q := 504) (v := 0) dL_law_503 (by decide) rfl ?_
        exact z_zreturn dL_law_504 rfl (by decide) ⟨_, rfl, hF⟩
    by_cases e31 : ((zI h l0 (Int32.toNatClampNeg l3)) &&& 31) = 7
    · refine z_tableIn (q := 505) (off := 472) dL_law_33 (by rw [e31]; decide) (by rw [e31]; decide) (by rw [e31]; decide) (by decide) ?_
      have hF := hF.2.2.2.2.2.2.2.1 e31
      refine z_aload_n (q := 506) dL_law_505 rfl rfl rfl ?_
      refine z_aload_n (q := 507) dL_law_506 rfl rfl rfl ?_
      refine z_iload_n (q := 508) dL_law_507 rfl rfl rfl ?_
      refine z_iconst (q := 509) (v := 1) dL_law_508 (by decide) rfl ?_
      refine z_iadd (q := 510) dL_law_509 rfl ?_
      obtain ⟨g140, hF⟩ := hF
      refine y_iald (j := (Int32.toNatClampNeg (l3 + 1))) (q := 511) dL_law_510 g22 g140 rfl rfl ?_
      refine z_aload_n (q := 512) dL_law_511 rfl rfl rfl ?_
      refine z_iload_n (q := 513) dL_law_512 rfl rfl rfl ?_
      refine z_iconst (q := 514) (v := 2) dL_law_513 (by decide) rfl ?_
      refine z_iadd (q := 515) dL_law_514 rfl ?_
      obtain ⟨g141, hF⟩ := hF
      refine y_iald (j := (Int32.toNatClampNeg (l3 + 2))) (q := 516) dL_law_515 g22 g141 rfl rfl ?_
      obtain ⟨g143, hF⟩ := hF
      refine z_callVI (rc := rc) (rs := rs) (b := l1) (av := [.int (zI h l0 (Int32.toNatClampNeg (l3 + 1))), .int (zI h l0 (Int32.toNatClampNeg (l3 + 2)))]) (ci := 10) (r := (RX10, TX10, 15)) (q := 519) hF dL_law_516 ml_L_46 ok_X10_set in_X10_set se_X10_set rfl rfl g143 rfl (Nat.le_of_ble_eq_true rfl) (by decide) (Nat.le_of_ble_eq_true rfl) rfl rfl rfl rfl (fun x144 h142 hF => ?_)
      refine z_aload_n (q := 520) dL_law_519 rfl rfl rfl ?_
      refine z_aload_n (q := 521) dL_law_520 rfl rfl rfl ?_
      refine z_iload_n (q := 522) dL_law_521 rfl rfl rfl ?_
      refine z_iconst (q := 523) (v := 1) dL_law_522 (by decide) rfl ?_
      refine z_iadd (q := 524) dL_law_523 rfl ?_
      obtain ⟨g145, hF⟩ := hF
      obtain ⟨g146, hF⟩ := hF
      refine y_iald (j := (Int32.toNatClampNeg (l3 + 1))) (q := 525) dL_law_524 g145 g146 rfl rfl ?_
      refine z_aload_n (q := 526) dL_law_525 rfl rfl rfl ?_
      refine z_iload_n (q := 527) dL_law_526 rfl rfl rfl ?_
      refine z_iconst (q := 528) (v := 2) dL_law_527 (by decide) rfl ?_
      refine z_iadd (q := 529) dL_law_528 rfl ?_
      obtain ⟨g147, hF⟩ := hF
      refine y_iald (j := (Int32.toNatClampNeg (l3 + 2))) (q := 530) dL_law_529 g145 g147 rfl rfl ?_
      obtain ⟨g149, hF⟩ := hF
      refine z_callVI (rc := rc) (rs := rs) (b := l2) (av := [.int (zI h142 l0 (Int32.toNatClampNeg (l3 + 1))), .int (zI h142 l0 (Int32.toNatClampNeg (l3 + 2)))]) (ci := 11) (r := (RX11, TX11, 54)) (q := 533) hF dL_law_530 ml_L_49 ok_X11_set in_X11_set se_X11_set rfl rfl g149 rfl (Nat.le_of_ble_eq_true rfl) (by decide) (Nat.le_of_ble_eq_true rfl) rfl rfl rfl rfl (fun x150 h148 hF => ?_)
      refine z_icmp_eq (t := 1246) (q := 536) dL_law_533 (by decide) rfl (fun hc => ?_) (fun hc => ?_)
      · have hF := hF.1 hc
        refine z_iinc (q := 1249) (v := (l3 + 7)) (L' := [some (.ref l0), some (.ref l1), some (.ref l2), some (.int (l3 + 7))]) dL_law_1246 rfl rfl (Nat.le_of_ble_eq_true rfl) rfl rfl rfl ?_
        refine z_goto (q := 18) dL_law_1249 (by decide) ?_
        exact hF
      · have hF := hF.2 hc
        refine z_iconst (q := 537) (v := 0) dL_law_536 (by decide) rfl ?_
        exact z_zreturn dL_law_537 rfl (by decide) ⟨_, rfl, hF⟩
    by_cases e32 : ((zI h l0 (Int32.toNatClampNeg l3)) &&& 31) = 8
    · refine z_tableIn (q := 538) (off := 505) dL_law_33 (by rw [e32]; decide) (by rw [e32]; decide) (by rw [e32]; decide) (by decide) ?_
      have hF := hF.2.2.2.2.2.2.2.2.1 e32
      refine z_aload_n (q := 539) dL_law_538 rfl rfl rfl ?_
      obtain ⟨g152, hF⟩ := hF
      refine z_callVI (rc := rc) (rs := rs) (b := l1) (av := []) (ci := 10) (r := (RX10, TX10, 15)) (q := 542) hF dL_law_539 ml_L_50 ok_X10_year in_X10_year se_X10_year rfl rfl g152 rfl (Nat.le_of_ble_eq_true rfl) (by decide) (Nat.le_of_ble_eq_true rfl) rfl rfl rfl rfl (fun x153 h151 hF => ?_)
      refine z_aload_n (q := 543) dL_law_542 rfl rfl rfl ?_
      obtain ⟨g155, hF⟩ := hF
      refine z_callVI (rc := rc) (rs := rs) (b := l2) (av := []) (ci := 11) (r := (RX11, TX11, 54)) (q := 546) hF dL_law_543 ml_L_54 ok_X11_year in_X11_year se_X11_year rfl rfl g155 rfl (Nat.le_of_ble_eq_true rfl) (by decide) (Nat.le_of_ble_eq_true rfl) rfl rfl rfl rfl (fun x156 h154 hF => ?_)
      refine z_icmp_eq (t := 1246) (q := 549) dL_law_546 (by decide) rfl (fun hc => ?_) (fun hc => ?_)
      · have hF := hF.1 hc
        refine z_iinc (q := 1249) (v := (l3 + 7)) (L' := [some (.ref l0), some (.ref l1), some (.ref l2), some (.int (l3 + 7))]) dL_law_1246 rfl rfl (Nat.le_of_ble_eq_true rfl) rfl rfl rfl ?_
        refine z_goto (q := 18) dL_law_1249 (by decide) ?_
        exact hF
      · have hF := hF.2 hc
        refine z_iconst (q := 550) (v := 0) dL_law_549 (by decide) rfl ?_
        exact z_zreturn dL_law_550 rfl (by decide) ⟨_, rfl, hF⟩
    by_cases e33 : ((zI h l0 (Int32.toNatClampNeg l3)) &&& 31) = 9
    · refine z_tableIn (q := 551) (off := 518) dL_law_33 (by rw [e33]; decide) (by rw [e33]; decide) (by rw [e33]; decide) (by decide) ?_
      have hF := hF.2.2.2.2.2.2.2.2.2.1 e33
      refine z_aload_n (q := 552) dL_law_551 rfl rfl rfl ?_
      refine z_aload_n (q := 553) dL_law_552 rfl rfl rfl ?_
      refine z_iload_n (q := 554) dL_law_553 rfl rfl rfl ?_
      refine z_iconst (q := 555) (v := 1) dL_law_554 (by decide) rfl ?_
      refine z_iadd (q := 556) dL_law_555 rfl ?_
      obtain ⟨g157, hF⟩ := hF
      refine y_iald (j := (Int32.toNatClampNeg (l3 + 1))) (q := 557) dL_law_556 g22 g157 rfl rfl ?_
      obtain ⟨g159, hF⟩ := hF
      refine z_callVI (rc := rc) (rs := rs) (b := l1) (av := [.int (zI h l0 (Int32.toNatClampNeg (l3 + 1)))]) (ci := 10) (r := (RX10, TX10, 15)) (q := 560) hF dL_law_557 ml_L_55 ok_X10_say in_X10_say se_X10_say rfl rfl g159 rfl (Nat.le_of_ble_eq_true rfl) (by decide) (Nat.le_of_ble_eq_true rfl) rfl rfl rfl rfl (fun x160 h158 hF => ?_)
      refine z_aload_n (q := 561) dL_law_560 rfl rfl rfl ?_
      refine z_aload_n (q := 562) dL_law_561 rfl rfl rfl ?_
      refine z_iload_n (q := 563) dL_law_562 rfl rfl rfl ?_
      refine z_iconst (q := 564) (v := 1) dL_law_563 (by decide) rfl ?_
      refine z_iadd (q := 565) dL_law_564 rfl ?_
      obtain ⟨g161, hF⟩ := hF
      obtain ⟨g162, hF⟩ := hF
      refine y_iald (j := (Int32.toNatClampNeg (l3 + 1))) (q := 566) dL_law_565 g161 g162 rfl rfl ?_
      obtain ⟨g164, hF⟩ := hF
      refine z_callVI (rc := rc) (rs := rs) (b := l2) (av := [.int (zI h158 l0 (Int32.toNatClampNeg (l3 + 1)))]) (ci := 11) (r := (RX11, TX11, 54)) (q := 569) hF dL_law_566 ml_L_58 ok_X11_say in_X11_say se_X11_say rfl rfl g164 rfl (Nat.le_of_ble_eq_true rfl) (by decide) (Nat.le_of_ble_eq_true rfl) rfl rfl rfl rfl (fun x165 h163 hF => ?_)
      refine z_icmp_eq (t := 1246) (q := 572) dL_law_569 (by decide) rfl (fun hc => ?_) (fun hc => ?_)
      · have hF := hF.1 hc
        refine z_iinc (q := 1249) (v := (l3 + 7)) (L' := [some (.ref l0), some (.ref l1), some (.ref l2), some (.int (l3 + 7))]) dL_law_1246 rfl rfl (Nat.le_of_ble_eq_true rfl) rfl rfl rfl ?_
        refine z_goto (q := 18) dL_law_1249 (by decide) ?_
        exact hF
      · have hF := hF.2 hc
        refine z_iconst (q := 573) (v := 0) dL_law_572 (by decide) rfl ?_
        exact z_zreturn dL_law_573 rfl (by decide) ⟨_, rfl, hF⟩
    by_cases e34 : ((zI h l0 (Int32.toNatClampNeg l3)) &&& 31) = 10
    · refine z_tableIn (q := 574) (off := 541) dL_law_33 (by rw [e34]; decide) (by rw [e34]; decide) (by rw [e34]; decide) (by decide) ?_
      have hF := hF.2.2.2.2.2.2.2.2.2.2.1 e34
      refine z_aload_n (q := 575) dL_law_574 rfl rfl rfl ?_
      obtain ⟨g167, hF⟩ := hF
      refine z_callVI (rc := rc) (rs := rs) (b := l1) (av := []) (ci := 10) (r := (RX10, TX10, 15)) (q := 578) hF dL_law_575 ml_L_59 ok_X10_wipe in_X10_wipe se_X10_wipe rfl rfl g167 rfl (Nat.le_of_ble_eq_true rfl) (by decide) (Nat.le_of_ble_eq_true rfl) rfl rfl rfl rfl (fun x168 h166 hF => ?_)
      refine z_aload_n (q := 579) dL_law_578 rfl rfl rfl ?_
      obtain ⟨g170, hF⟩ := hF
      refine z_callVI (rc := rc) (rs := rs) (b := l2) (av := []) (ci := 11) (r := (RX11, TX11, 54)) (q := 582) hF dL_law_579 ml_L_62 ok_X11_wipe in_X11_wipe se_X11_wipe rfl rfl g170 rfl (Nat.le_of_ble_eq_true rfl) (by decide) (Nat.le_of_ble_eq_true rfl) rfl rfl rfl rfl (fun x171 h169 hF => ?_)
      refine z_icmp_eq (t := 1246) (q := 585) dL_law_582 (by decide) rfl (fun hc => ?_) (fun hc => ?_)
      · have hF := hF.1 hc
        refine z_iinc (q := 1249) (v := (l3 + 7)) (L' := [some (.ref l0), some (.ref l1), some (.ref l2), some (.int (l3 + 7))]) dL_law_1246 rfl rfl (Nat.le_of_ble_eq_true rfl) rfl rfl rfl ?_
        refine z_goto (q := 18) dL_law_1249 (by decide) ?_
        exact hF
      · have hF := hF.2 hc
        refine z_iconst (q := 586) (v := 0) dL_law_585 (by decide) rfl ?_
        exact z_zreturn dL_law_586 rfl (by decide) ⟨_, rfl, hF⟩
    by_cases e35 : ((zI h l0 (Int32.toNatClampNeg l3)) &&& 31) = 11
    · refine z_tableIn (q := 587) (off := 554) dL_law_33 (by rw [e35]; decide) (by rw [e35]; decide) (by rw [e35]; decide) (by decide) ?_
      have hF := hF.2.2.2.2.2.2.2.2.2.2.2.1 e35
      refine z_aload_n (q := 588) dL_law_587 rfl rfl rfl ?_
      obtain ⟨g173, hF⟩ := hF
      refine z_callVI (rc := rc) (rs := rs) (b := l1) (av := []) (ci := 10) (r := (RX10, TX10, 15)) (q := 591) hF dL_law_588 ml_L_63 ok_X10_fault in_X10_fault se_X10_fault rfl rfl g173 rfl (Nat.le_of_ble_eq_true rfl) (by decide) (Nat.le_of_ble_eq_true rfl) rfl rfl rfl rfl (fun x174 h172 hF => ?_)
      refine z_aload_n (q := 592) dL_law_591 rfl rfl rfl ?_
      obtain ⟨g176, hF⟩ := hF
      refine z_callVI (rc := rc) (rs := rs) (b := l2) (av := []) (ci := 11) (r := (RX11, TX11, 54)) (q := 595) hF dL_law_592 ml_L_66 ok_X11_fault in_X11_fault se_X11_fault rfl rfl g176 rfl (Nat.le_of_ble_eq_true rfl) (by decide) (Nat.le_of_ble_eq_true rfl) rfl rfl rfl rfl (fun x177 h175 hF => ?_)
      refine z_icmp_eq (t := 1246) (q := 598) dL_law_595 (by decide) rfl (fun hc => ?_) (fun hc => ?_)
      · have hF := hF.1 hc
        refine z_iinc (q := 1249) (v := (l3 + 7)) (L' := [some (.ref l0), some (.ref l1), some (.ref l2), some (.int (l3 + 7))]) dL_law_1246 rfl rfl (Nat.le_of_ble_eq_true rfl) rfl rfl rfl ?_
        refine z_goto (q := 18) dL_law_1249 (by decide) ?_
        exact hF
      · have hF := hF.2 hc
        refine z_iconst (q := 599) (v := 0) dL_law_598 (by decide) rfl ?_
        exact z_zreturn dL_law_599 rfl (by decide) ⟨_, rfl, hF⟩
    by_cases e36 : ((zI h l0 (Int32.toNatClampNeg l3)) &&& 31) = 12
    · refine z_tableIn (q := 600) (off := 567) dL_law_33 (by rw [e36]; decide) (by rw [e36]; decide) (by rw [e36]; decide) (by decide) ?_
      have hF := hF.2.2.2.2.2.2.2.2.2.2.2.2.1 e36
      refine z_aload_n (q := 601) dL_law_600 rfl rfl rfl ?_
      refine z_aload_n (q := 602) dL_law_601 rfl rfl rfl ?_
      refine z_iload_n (q := 603) dL_law_602 rfl rfl rfl ?_
      refine z_iconst (q := 604) (v := 1) dL_law_603 (by decide) rfl ?_
      refine z_iadd (q := 605) dL_law_604 rfl ?_
      obtain ⟨g178, hF⟩ := hF
      refine y_iald (j := (Int32.toNatClampNeg (l3 + 1))) (q := 606) dL_law_605 g22 g178 rfl rfl ?_
      obtain ⟨g180, hF⟩ := hF
      refine z_callVI (rc := rc) (rs := rs) (b := l1) (av := [.int (zI h l0 (Int32.toNatClampNeg (l3 + 1)))]) (ci := 10) (r := (RX10, TX10, 15)) (q := 609) hF dL_law_606 ml_L_67 ok_X10_rule in_X10_rule se_X10_rule rfl rfl g180 rfl (Nat.le_of_ble_eq_true rfl) (by decide) (Nat.le_of_ble_eq_true rfl) rfl rfl rfl rfl (fun x181 h179 hF => ?_)
      refine z_aload_n (q := 610) dL_law_609 rfl rfl rfl ?_
      refine z_aload_n (q := 611) dL_law_610 rfl rfl rfl ?_
      refine z_iload_n (q := 612) dL_law_611 rfl rfl rfl ?_
      refine z_iconst (q := 613) (v := 1) dL_law_612 (by decide) rfl ?_
      refine z_iadd (q := 614) dL_law_613 rfl ?_
      obtain ⟨g182, hF⟩ := hF
      obtain ⟨g183, hF⟩ := hF
      refine y_iald (j := (Int32.toNatClampNeg (l3 + 1))) (q := 615) dL_law_614 g182 g183 rfl rfl ?_
      obtain ⟨g185, hF⟩ := hF
      refine z_callVI (rc := rc) (rs := rs) (b := l2) (av := [.int (zI h179 l0 (Int32.toNatClampNeg (l3 + 1)))]) (ci := 11) (r := (RX11, TX11, 54)) (q := 618) hF dL_law_615 ml_L_70 ok_X11_rule in_X11_rule se_X11_rule rfl rfl g185 rfl (Nat.le_of_ble_eq_true rfl) (by decide) (Nat.le_of_ble_eq_true rfl) rfl rfl rfl rfl (fun x186 h184 hF => ?_)
      refine z_icmp_eq (t := 1246) (q := 621) dL_law_618 (by decide) rfl (fun hc => ?_) (fun hc => ?_)
      · have hF := hF.1 hc
        refine z_iinc (q := 1249) (v := (l3 + 7)) (L' := [some (.ref l0), some (.ref l1), some (.ref l2), some (.int (l3 + 7))]) dL_law_1246 rfl rfl (Nat.le_of_ble_eq_true rfl) rfl rfl rfl ?_
        refine z_goto (q := 18) dL_law_1249 (by decide) ?_
        exact hF
      · have hF := hF.2 hc
        refine z_iconst (q := 622) (v := 0) dL_law_621 (by decide) rfl ?_
        exact z_zreturn dL_law_622 rfl (by decide) ⟨_, rfl, hF⟩
    by_cases e37 : ((zI h l0 (Int32.toNatClampNeg l3)) &&& 31) = 13
    · refine z_tableIn (q := 623) (off := 590) dL_law_33 (by rw [e37]; decide) (by rw [e37]; decide) (by rw [e37]; decide) (by decide) ?_
      have hF := hF.2.2.2.2.2.2.2.2.2.2.2.2.2.1 e37
      refine z_aload_n (q := 624) dL_law_623 rfl rfl rfl ?_
      refine z_aload_n (q := 625) dL_law_624 rfl rfl rfl ?_
      refine z_iload_n (q := 626) dL_law_625 rfl rfl rfl ?_
      refine z_iconst (q := 627) (v := 1) dL_law_626 (by decide) rfl ?_
      refine z_iadd (q := 628) dL_law_627 rfl ?_
      obtain ⟨g187, hF⟩ := hF
      refine y_iald (j := (Int32.toNatClampNeg (l3 + 1))) (q := 629) dL_law_628 g22 g187 rfl rfl ?_
      refine z_aload_n (q := 630) dL_law_629 rfl rfl rfl ?_
      refine z_iload_n (q := 631) dL_law_630 rfl rfl rfl ?_
      refine z_iconst (q := 632) (v := 2) dL_law_631 (by decide) rfl ?_
      refine z_iadd (q := 633) dL_law_632 rfl ?_
      obtain ⟨g188, hF⟩ := hF
      refine y_iald (j := (Int32.toNatClampNeg (l3 + 2))) (q := 634) dL_law_633 g22 g188 rfl rfl ?_
      obtain ⟨g190, hF⟩ := hF
      refine z_callVI (rc := rc) (rs := rs) (b := l1) (av := [.int (zI h l0 (Int32.toNatClampNeg (l3 + 1))), .int (zI h l0 (Int32.toNatClampNeg (l3 + 2)))]) (ci := 10) (r := (RX10, TX10, 15)) (q := 637) hF dL_law_634 ml_L_71 ok_X10_worth in_X10_worth se_X10_worth rfl rfl g190 rfl (Nat.le_of_ble_eq_true rfl) (by decide) (Nat.le_of_ble_eq_true rfl) rfl rfl rfl rfl (fun x191 h189 hF => ?_)
      refine z_aload_n (q := 638) dL_law_637 rfl rfl rfl ?_
      refine z_aload_n (q := 639) dL_law_638 rfl rfl rfl ?_
      refine z_iload_n (q := 640) dL_law_639 rfl rfl rfl ?_
      refine z_iconst (q := 641) (v := 1) dL_law_640 (by decide) rfl ?_
      refine z_iadd (q := 642) dL_law_641 rfl ?_
      obtain ⟨g192, hF⟩ := hF
      obtain ⟨g193, hF⟩ := hF
      refine y_iald (j := (Int32.toNatClampNeg (l3 + 1))) (q := 643) dL_law_642 g192 g193 rfl rfl ?_
      refine z_aload_n (q := 644) dL_law_643 rfl rfl rfl ?_
      refine z_iload_n (q := 645) dL_law_644 rfl rfl rfl ?_
      refine z_iconst (q := 646) (v := 2) dL_law_645 (by decide) rfl ?_
      refine z_iadd (q := 647) dL_law_646 rfl ?_
      obtain ⟨g194, hF⟩ := hF
      refine y_iald (j := (Int32.toNatClampNeg (l3 + 2))) (q := 648) dL_law_647 g192 g194 rfl rfl ?_
      obtain ⟨g196, hF⟩ := hF
      refine z_callVI (rc := rc) (rs := rs) (b := l2) (av := [.int (zI h189 l0 (Int32.toNatClampNeg (l3 + 1))), .int (zI h189 l0 (Int32.toNatClampNeg (l3 + 2)))]) (ci := 11) (r := (RX11, TX11, 54)) (q := 651) hF dL_law_648 ml_L_74 ok_X11_worth in_X11_worth se_X11_worth rfl rfl g196 rfl (Nat.le_of_ble_eq_true rfl) (by decide) (Nat.le_of_ble_eq_true rfl) rfl rfl rfl rfl (fun x197 h195 hF => ?_)
      refine z_icmp_eq (t := 1246) (q := 654) dL_law_651 (by decide) rfl (fun hc => ?_) (fun hc => ?_)
      · have hF := hF.1 hc
        refine z_iinc (q := 1249) (v := (l3 + 7)) (L' := [some (.ref l0), some (.ref l1), some (.ref l2), some (.int (l3 + 7))]) dL_law_1246 rfl rfl (Nat.le_of_ble_eq_true rfl) rfl rfl rfl ?_
        refine z_goto (q := 18) dL_law_1249 (by decide) ?_
        exact hF
      · have hF := hF.2 hc
        refine z_iconst (q := 655) (v := 0) dL_law_654 (by decide) rfl ?_
        exact z_zreturn dL_law_655 rfl (by decide) ⟨_, rfl, hF⟩
    by_cases e38 : ((zI h l0 (Int32.toNatClampNeg l3)) &&& 31) = 14
    · refine z_tableIn (q := 656) (off := 623) dL_law_33 (by rw [e38]; decide) (by rw [e38]; decide) (by rw [e38]; decide) (by decide) ?_
      have hF := hF.2.2.2.2.2.2.2.2.2.2.2.2.2.2.1 e38
      refine z_aload_n (q := 657) dL_law_656 rfl rfl rfl ?_
      refine z_aload_n (q := 658) dL_law_657 rfl rfl rfl ?_
      refine z_iload_n (q := 659) dL_law_658 rfl rfl rfl ?_
      refine z_iconst (q := 660) (v := 1) dL_law_659 (by decide) rfl ?_
      refine z_iadd (q := 661) dL_law_660 rfl ?_
      obtain ⟨g198, hF⟩ := hF
      refine y_iald (j := (Int32.toNatClampNeg (l3 + 1))) (q := 662) dL_law_661 g22 g198 rfl rfl ?_
      refine z_aload_n (q := 663) dL_law_662 rfl rfl rfl ?_
      refine z_iload_n (q := 664) dL_law_663 rfl rfl rfl ?_
      refine z_iconst (q := 665) (v := 2) dL_law_664 (by decide) rfl ?_
      refine z_iadd (q := 666) dL_law_665 rfl ?_
      obtain ⟨g199, hF⟩ := hF
      refine y_iald (j := (Int32.toNatClampNeg (l3 + 2))) (q := 667) dL_law_666 g22 g199 rfl rfl ?_
      obtain ⟨g201, hF⟩ := hF
      refine z_callVI (rc := rc) (rs := rs) (b := l1) (av := [.int (zI h l0 (Int32.toNatClampNeg (l3 + 1))), .int (zI h l0 (Int32.toNatClampNeg (l3 + 2)))]) (ci := 10) (r := (RX10, TX10, 15)) (q := 670) hF dL_law_667 ml_L_75 ok_X10_move in_X10_move se_X10_move rfl rfl g201 rfl (Nat.le_of_ble_eq_true rfl) (by decide) (Nat.le_of_ble_eq_true rfl) rfl rfl rfl rfl (fun x202 h200 hF => ?_)
      refine z_aload_n (q := 671) dL_law_670 rfl rfl rfl ?_
      refine z_aload_n (q := 672) dL_law_671 rfl rfl rfl ?_
      refine z_iload_n (q := 673) dL_law_672 rfl rfl rfl ?_
      refine z_iconst (q := 674) (v := 1) dL_law_673 (by decide) rfl ?_
      refine z_iadd (q := 675) dL_law_674 rfl ?_
      obtain ⟨g203, hF⟩ := hF
      obtain ⟨g204, hF⟩ := hF
      refine y_iald (j := (Int32.toNatClampNeg (l3 + 1))) (q := 676) dL_law_675 g203 g204 rfl rfl ?_
      refine z_aload_n (q := 677) dL_law_676 rfl rfl rfl ?_
      refine z_iload_n (q := 678) dL_law_677 rfl rfl rfl ?_
      refine z_iconst (q := 679) (v := 2) dL_law_678 (by decide) rfl ?_
      refine z_iadd (q := 680) dL_law_679 rfl ?_
      obtain ⟨g205, hF⟩ := hF
      refine y_iald (j := (Int32.toNatClampNeg (l3 + 2))) (q := 681) dL_law_680 g203 g205 rfl rfl ?_
      obtain ⟨g207, hF⟩ := hF
      refine z_callVI (rc := rc) (rs := rs) (b := l2) (av := [.int (zI h200 l0 (Int32.toNatClampNeg (l3 + 1))), .int (zI h200 l0 (Int32.toNatClampNeg (l3 + 2)))]) (ci := 11) (r := (RX11, TX11, 54)) (q := 684) hF dL_law_681 ml_L_78 ok_X11_move in_X11_move se_X11_move rfl rfl g207 rfl (Nat.le_of_ble_eq_true rfl) (by decide) (Nat.le_of_ble_eq_true rfl) rfl rfl rfl rfl (fun x208 h206 hF => ?_)
      refine z_icmp_eq (t := 1246) (q := 687) dL_law_684 (by decide) rfl (fun hc => ?_) (fun hc => ?_)
      · have hF := hF.1 hc
        refine z_iinc (q := 1249) (v := (l3 + 7)) (L' := [some (.ref l0), some (.ref l1), some (.ref l2), some (.int (l3 + 7))]) dL_law_1246 rfl rfl (Nat.le_of_ble_eq_true rfl) rfl rfl rfl ?_
        refine z_goto (q := 18) dL_law_1249 (by decide) ?_
        exact hF
      · have hF := hF.2 hc
        refine z_iconst (q := 688) (v := 0) dL_law_687 (by decide) rfl ?_
        exact z_zreturn dL_law_688 rfl (by decide) ⟨_, rfl, hF⟩
    by_cases e39 : ((zI h l0 (Int32.toNatClampNeg l3)) &&& 31) = 15
    · refine z_tableIn (q := 689) (off := 656) dL_law_33 (by rw [e39]; decide) (by rw [e39]; decide) (by rw [e39]; decide) (by decide) ?_
      have hF := hF.2.2.2.2.2.2.2.2.2.2.2.2.2.2.2.1 e39
      refine z_aload_n (q := 690) dL_law_689 rfl rfl rfl ?_
      refine z_aload_n (q := 691) dL_law_690 rfl rfl rfl ?_
      refine z_iload_n (q := 692) dL_law_691 rfl rfl rfl ?_
      refine z_iconst (q := 693) (v := 1) dL_law_692 (by decide) rfl ?_
      refine z_iadd (q := 694) dL_law_693 rfl ?_
      obtain ⟨g209, hF⟩ := hF
      refine y_iald (j := (Int32.toNatClampNeg (l3 + 1))) (q := 695) dL_law_694 g22 g209 rfl rfl ?_
      obtain ⟨g211, hF⟩ := hF
      refine z_callVI (rc := rc) (rs := rs) (b := l1) (av := [.int (zI h l0 (Int32.toNatClampNeg (l3 + 1)))]) (ci := 10) (r := (RX10, TX10, 15)) (q := 698) hF dL_law_695 ml_L_79 ok_X10_close in_X10_close se_X10_close rfl rfl g211 rfl (Nat.le_of_ble_eq_true rfl) (by decide) (Nat.le_of_ble_eq_true rfl) rfl rfl rfl rfl (fun x212 h210 hF => ?_)
      refine z_aload_n (q := 699) dL_law_698 rfl rfl rfl ?_
      refine z_aload_n (q := 700) dL_law_699 rfl rfl rfl ?_
      refine z_iload_n (q := 701) dL_law_700 rfl rfl rfl ?_
      refine z_iconst (q := 702) (v := 1) dL_law_701 (by decide) rfl ?_
      refine z_iadd (q := 703) dL_law_702 rfl ?_
      obtain ⟨g213, hF⟩ := hF
      obtain ⟨g214, hF⟩ := hF
      refine y_iald (j := (Int32.toNatClampNeg (l3 + 1))) (q := 704) dL_law_703 g213 g214 rfl rfl ?_
      obtain ⟨g216, hF⟩ := hF
      refine z_callVI (rc := rc) (rs := rs) (b := l2) (av := [.int (zI h210 l0 (Int32.toNatClampNeg (l3 + 1)))]) (ci := 11) (r := (RX11, TX11, 54)) (q := 707) hF dL_law_704 ml_L_82 ok_X11_close in_X11_close se_X11_close rfl rfl g216 rfl (Nat.le_of_ble_eq_true rfl) (by decide) (Nat.le_of_ble_eq_true rfl) rfl rfl rfl rfl (fun x217 h215 hF => ?_)
      refine z_icmp_eq (t := 1246) (q := 710) dL_law_707 (by decide) rfl (fun hc => ?_) (fun hc => ?_)
      · have hF := hF.1 hc
        refine z_iinc (q := 1249) (v := (l3 + 7)) (L' := [some (.ref l0), some (.ref l1), some (.ref l2), some (.int (l3 + 7))]) dL_law_1246 rfl rfl (Nat.le_of_ble_eq_true rfl) rfl rfl rfl ?_
        refine z_goto (q := 18) dL_law_1249 (by decide) ?_
        exact hF
      · have hF := hF.2 hc
        refine z_iconst (q := 711) (v := 0) dL_law_710 (by decide) rfl ?_
        exact z_zreturn dL_law_711 rfl (by decide) ⟨_, rfl, hF⟩
    by_cases e40 : ((zI h l0 (Int32.toNatClampNeg l3)) &&& 31) = 16
    · refine z_tableIn (q := 712) (off := 679) dL_law_33 (by rw [e40]; decide) (by rw [e40]; decide) (by rw [e40]; decide) (by decide) ?_
      have hF := hF.2.2.2.2.2.2.2.2.2.2.2.2.2.2.2.2.1 e40
      refine z_aload_n (q := 713) dL_law_712 rfl rfl rfl ?_
      refine z_aload_n (q := 714) dL_law_713 rfl rfl rfl ?_
      refine z_iload_n (q := 715) dL_law_714 rfl rfl rfl ?_
      refine z_iconst (q := 716) (v := 1) dL_law_715 (by decide) rfl ?_
      refine z_iadd (q := 717) dL_law_716 rfl ?_
      obtain ⟨g218, hF⟩ := hF
      refine y_iald (j := (Int32.toNatClampNeg (l3 + 1))) (q := 718) dL_law_717 g22 g218 rfl rfl ?_
      refine z_aload_n (q := 719) dL_law_718 rfl rfl rfl ?_
      refine z_iload_n (q := 720) dL_law_719 rfl rfl rfl ?_
      refine z_iconst (q := 721) (v := 2) dL_law_720 (by decide) rfl ?_
      refine z_iadd (q := 722) dL_law_721 rfl ?_
      obtain ⟨g219, hF⟩ := hF
      refine y_iald (j := (Int32.toNatClampNeg (l3 + 2))) (q := 723) dL_law_722 g22 g219 rfl rfl ?_
      obtain ⟨g221, hF⟩ := hF
      refine z_callVI (rc := rc) (rs := rs) (b := l1) (av := [.int (zI h l0 (Int32.toNatClampNeg (l3 + 1))), .int (zI h l0 (Int32.toNatClampNeg (l3 + 2)))]) (ci := 10) (r := (RX10, TX10, 15)) (q := 726) hF dL_law_723 ml_L_83 ok_X10_inflow in_X10_inflow se_X10_inflow rfl rfl g221 rfl (Nat.le_of_ble_eq_true rfl) (by decide) (Nat.le_of_ble_eq_true rfl) rfl rfl rfl rfl (fun x222 h220 hF => ?_)
      refine z_aload_n (q := 727) dL_law_726 rfl rfl rfl ?_
      refine z_aload_n (q := 728) dL_law_727 rfl rfl rfl ?_
      refine z_iload_n (q := 729) dL_law_728 rfl rfl rfl ?_
      refine z_iconst (q := 730) (v := 1) dL_law_729 (by decide) rfl ?_
      refine z_iadd (q := 731) dL_law_730 rfl ?_
      obtain ⟨g223, hF⟩ := hF
      obtain ⟨g224, hF⟩ := hF
      refine y_iald (j := (Int32.toNatClampNeg (l3 + 1))) (q := 732) dL_law_731 g223 g224 rfl rfl ?_
      refine z_aload_n (q := 733) dL_law_732 rfl rfl rfl ?_
      refine z_iload_n (q := 734) dL_law_733 rfl rfl rfl ?_
      refine z_iconst (q := 735) (v := 2) dL_law_734 (by decide) rfl ?_
      refine z_iadd (q := 736) dL_law_735 rfl ?_
      obtain ⟨g225, hF⟩ := hF
      refine y_iald (j := (Int32.toNatClampNeg (l3 + 2))) (q := 737) dL_law_736 g223 g225 rfl rfl ?_
      obtain ⟨g227, hF⟩ := hF
      refine z_callVI (rc := rc) (rs := rs) (b := l2) (av := [.int (zI h220 l0 (Int32.toNatClampNeg (l3 + 1))), .int (zI h220 l0 (Int32.toNatClampNeg (l3 + 2)))]) (ci := 11) (r := (RX11, TX11, 54)) (q := 740) hF dL_law_737 ml_L_86 ok_X11_inflow in_X11_inflow se_X11_inflow rfl rfl g227 rfl (Nat.le_of_ble_eq_true rfl) (by decide) (Nat.le_of_ble_eq_true rfl) rfl rfl rfl rfl (fun x228 h226 hF => ?_)
      refine z_icmp_eq (t := 1246) (q := 743) dL_law_740 (by decide) rfl (fun hc => ?_) (fun hc => ?_)
      · have hF := hF.1 hc
        refine z_iinc (q := 1249) (v := (l3 + 7)) (L' := [some (.ref l0), some (.ref l1), some (.ref l2), some (.int (l3 + 7))]) dL_law_1246 rfl rfl (Nat.le_of_ble_eq_true rfl) rfl rfl rfl ?_
        refine z_goto (q := 18) dL_law_1249 (by decide) ?_
        exact hF
      · have hF := hF.2 hc
        refine z_iconst (q := 744) (v := 0) dL_law_743 (by decide) rfl ?_
        exact z_zreturn dL_law_744 rfl (by decide) ⟨_, rfl, hF⟩
    by_cases e41 : ((zI h l0 (Int32.toNatClampNeg l3)) &&& 31) = 17
    · refine z_tableIn (q := 745) (off := 712) dL_law_33 (by rw [e41]; decide) (by rw [e41]; decide) (by rw [e41]; decide) (by decide) ?_
      have hF := hF.2.2.2.2.2.2.2.2.2.2.2.2.2.2.2.2.2.1 e41
      refine z_aload_n (q := 746) dL_law_745 rfl rfl rfl ?_
      refine z_aload_n (q := 747) dL_law_746 rfl rfl rfl ?_
      refine z_iload_n (q := 748) dL_law_747 rfl rfl rfl ?_
      refine z_iconst (q := 749) (v := 1) dL_law_748 (by decide) rfl ?_
      refine z_iadd (q := 750) dL_law_749 rfl ?_
      obtain ⟨g229, hF⟩ := hF
      refine y_iald (j := (Int32.toNatClampNeg (l3 + 1))) (q := 751) dL_law_750 g22 g229 rfl rfl ?_
      refine z_aload_n (q := 752) dL_law_751 rfl rfl rfl ?_
      refine z_iload_n (q := 753) dL_law_752 rfl rfl rfl ?_
      refine z_iconst (q := 754) (v := 2) dL_law_753 (by decide) rfl ?_
      refine z_iadd (q := 755) dL_law_754 rfl ?_
      obtain ⟨g230, hF⟩ := hF
      refine y_iald (j := (Int32.toNatClampNeg (l3 + 2))) (q := 756) dL_law_755 g22 g230 rfl rfl ?_
      refine z_if_eq (t := 763) (q := 759) dL_law_756 (by decide) rfl (fun hc => ?_) (fun hc => ?_)
      · have hF := hF.1 hc
        refine z_iconst (q := 764) (v := 0) dL_law_763 (by decide) rfl ?_
        obtain ⟨g232, hF⟩ := hF
        refine z_callVI (rc := rc) (rs := rs) (b := l1) (av := [.int (zI h l0 (Int32.toNatClampNeg (l3 + 1))), .int 0]) (ci := 10) (r := (RX10, TX10, 15)) (q := 767) hF dL_law_764 ml_L_87 ok_X10_pump in_X10_pump se_X10_pump rfl rfl g232 rfl (Nat.le_of_ble_eq_true rfl) (by decide) (Nat.le_of_ble_eq_true rfl) rfl rfl rfl rfl (fun x233 h231 hF => ?_)
        refine z_aload_n (q := 768) dL_law_767 rfl rfl rfl ?_
        refine z_aload_n (q := 769) dL_law_768 rfl rfl rfl ?_
        refine z_iload_n (q := 770) dL_law_769 rfl rfl rfl ?_
        refine z_iconst (q := 771) (v := 1) dL_law_770 (by decide) rfl ?_
        refine z_iadd (q := 772) dL_law_771 rfl ?_
        obtain ⟨g234, hF⟩ := hF
        obtain ⟨g235, hF⟩ := hF
        refine y_iald (j := (Int32.toNatClampNeg (l3 + 1))) (q := 773) dL_law_772 g234 g235 rfl rfl ?_
        refine z_aload_n (q := 774) dL_law_773 rfl rfl rfl ?_
        refine z_iload_n (q := 775) dL_law_774 rfl rfl rfl ?_
        refine z_iconst (q := 776) (v := 2) dL_law_775 (by decide) rfl ?_
        refine z_iadd (q := 777) dL_law_776 rfl ?_
        obtain ⟨g236, hF⟩ := hF
        refine y_iald (j := (Int32.toNatClampNeg (l3 + 2))) (q := 778) dL_law_777 g234 g236 rfl rfl ?_
        refine z_if_eq (t := 785) (q := 781) dL_law_778 (by decide) rfl (fun hc => ?_) (fun hc => ?_)
        · have hF := hF.1 hc
          refine z_iconst (q := 786) (v := 0) dL_law_785 (by decide) rfl ?_
          obtain ⟨g238, hF⟩ := hF
          refine z_callVI (rc := rc) (rs := rs) (b := l2) (av := [.int (zI h231 l0 (Int32.toNatClampNeg (l3 + 1))), .int 0]) (ci := 11) (r := (RX11, TX11, 54)) (q := 789) hF dL_law_786 ml_L_91 ok_X11_pump in_X11_pump se_X11_pump rfl rfl g238 rfl (Nat.le_of_ble_eq_true rfl) (by decide) (Nat.le_of_ble_eq_true rfl) rfl rfl rfl rfl (fun x239 h237 hF => ?_)
          refine z_icmp_eq (t := 1246) (q := 792) dL_law_789 (by decide) rfl (fun hc => ?_) (fun hc => ?_)
          · have hF := hF.1 hc
            refine z_iinc (q := 1249) (v := (l3 + 7)) (L' := [some (.ref l0), some (.ref l1), some (.ref l2), some (.int (l3 + 7))]) dL_law_1246 rfl rfl (Nat.le_of_ble_eq_true rfl) rfl rfl rfl ?_
            refine z_goto (q := 18) dL_law_1249 (by decide) ?_
            exact hF
          · have hF := hF.2 hc
            refine z_iconst (q := 793) (v := 0) dL_law_792 (by decide) rfl ?_
            exact z_zreturn dL_law_793 rfl (by decide) ⟨_, rfl, hF⟩
        · have hF := hF.2 hc
          refine z_iconst (q := 782) (v := 1) dL_law_781 (by decide) rfl ?_
          refine z_goto (q := 786) dL_law_782 (by decide) ?_
          obtain ⟨g241, hF⟩ := hF
          refine z_callVI (rc := rc) (rs := rs) (b := l2) (av := [.int (zI h231 l0 (Int32.toNatClampNeg (l3 + 1))), .int 1]) (ci := 11) (r := (RX11, TX11, 54)) (q := 789) hF dL_law_786 ml_L_91 ok_X11_pump in_X11_pump se_X11_pump rfl rfl g241 rfl (Nat.le_of_ble_eq_true rfl) (by decide) (Nat.le_of_ble_eq_true rfl) rfl rfl rfl rfl (fun x242 h240 hF => ?_)
          refine z_icmp_eq (t := 1246) (q := 792) dL_law_789 (by decide) rfl (fun hc => ?_) (fun hc => ?_)
          · have hF := hF.1 hc
            refine z_iinc (q := 1249) (v := (l3 + 7)) (L' := [some (.ref l0), some (.ref l1), some (.ref l2), some (.int (l3 + 7))]) dL_law_1246 rfl rfl (Nat.le_of_ble_eq_true rfl) rfl rfl rfl ?_
            refine z_goto (q := 18) dL_law_1249 (by decide) ?_
            exact hF
          · have hF := hF.2 hc
            refine z_iconst (q := 793) (v := 0) dL_law_792 (by decide) rfl ?_
            exact z_zreturn dL_law_793 rfl (by decide) ⟨_, rfl, hF⟩
      · have hF := hF.2 hc
        refine z_iconst (q := 760) (v := 1) dL_law_759 (by decide) rfl ?_
        refine z_goto (q := 764) dL_law_760 (by decide) ?_
        obtain ⟨g244, hF⟩ := hF
        refine z_callVI (rc := rc) (rs := rs) (b := l1) (av := [.int (zI h l0 (Int32.toNatClampNeg (l3 + 1))), .int 1]) (ci := 10) (r := (RX10, TX10, 15)) (q := 767) hF dL_law_764 ml_L_87 ok_X10_pump in_X10_pump se_X10_pump rfl rfl g244 rfl (Nat.le_of_ble_eq_true rfl) (by decide) (Nat.le_of_ble_eq_true rfl) rfl rfl rfl rfl (fun x245 h243 hF => ?_)
        refine z_aload_n (q := 768) dL_law_767 rfl rfl rfl ?_
        refine z_aload_n (q := 769) dL_law_768 rfl rfl rfl ?_
        refine z_iload_n (q := 770) dL_law_769 rfl rfl rfl ?_
        refine z_iconst (q := 771) (v := 1) dL_law_770 (by decide) rfl ?_
        refine z_iadd (q := 772) dL_law_771 rfl ?_
        obtain ⟨g246, hF⟩ := hF
        obtain ⟨g247, hF⟩ := hF
        refine y_iald (j := (Int32.toNatClampNeg (l3 + 1))) (q := 773) dL_law_772 g246 g247 rfl rfl ?_
        refine z_aload_n (q := 774) dL_law_773 rfl rfl rfl ?_
        refine z_iload_n (q := 775) dL_law_774 rfl rfl rfl ?_
        refine z_iconst (q := 776) (v := 2) dL_law_775 (by decide) rfl ?_
        refine z_iadd (q := 777) dL_law_776 rfl ?_
        obtain ⟨g248, hF⟩ := hF
        refine y_iald (j := (Int32.toNatClampNeg (l3 + 2))) (q := 778) dL_law_777 g246 g248 rfl rfl ?_
        refine z_if_eq (t := 785) (q := 781) dL_law_778 (by decide) rfl (fun hc => ?_) (fun hc => ?_)
        · have hF := hF.1 hc
          refine z_iconst (q := 786) (v := 0) dL_law_785 (by decide) rfl ?_
          obtain ⟨g250, hF⟩ := hF
          refine z_callVI (rc := rc) (rs := rs) (b := l2) (av := [.int (zI h243 l0 (Int32.toNatClampNeg (l3 + 1))), .int 0]) (ci := 11) (r := (RX11, TX11, 54)) (q := 789) hF dL_law_786 ml_L_91 ok_X11_pump in_X11_pump se_X11_pump rfl rfl g250 rfl (Nat.le_of_ble_eq_true rfl) (by decide) (Nat.le_of_ble_eq_true rfl) rfl rfl rfl rfl (fun x251 h249 hF => ?_)
          refine z_icmp_eq (t := 1246) (q := 792) dL_law_789 (by decide) rfl (fun hc => ?_) (fun hc => ?_)
          · have hF := hF.1 hc
            refine z_iinc (q := 1249) (v := (l3 + 7)) (L' := [some (.ref l0), some (.ref l1), some (.ref l2), some (.int (l3 + 7))]) dL_law_1246 rfl rfl (Nat.le_of_ble_eq_true rfl) rfl rfl rfl ?_
            refine z_goto (q := 18) dL_law_1249 (by decide) ?_
            exact hF
          · have hF := hF.2 hc
            refine z_iconst (q := 793) (v := 0) dL_law_792 (by decide) rfl ?_
            exact z_zreturn dL_law_793 rfl (by decide) ⟨_, rfl, hF⟩
        · have hF := hF.2 hc
          refine z_iconst (q := 782) (v := 1) dL_law_781 (by decide) rfl ?_
          refine z_goto (q := 786) dL_law_782 (by decide) ?_
          obtain ⟨g253, hF⟩ := hF
          refine z_callVI (rc := rc) (rs := rs) (b := l2) (av := [.int (zI h243 l0 (Int32.toNatClampNeg (l3 + 1))), .int 1]) (ci := 11) (r := (RX11, TX11, 54)) (q := 789) hF dL_law_786 ml_L_91 ok_X11_pump in_X11_pump se_X11_pump rfl rfl g253 rfl (Nat.le_of_ble_eq_true rfl) (by decide) (Nat.le_of_ble_eq_true rfl) rfl rfl rfl rfl (fun x254 h252 hF => ?_)
          refine z_icmp_eq (t := 1246) (q := 792) dL_law_789 (by decide) rfl (fun hc => ?_) (fun hc => ?_)
          · have hF := hF.1 hc
            refine z_iinc (q := 1249) (v := (l3 + 7)) (L' := [some (.ref l0), some (.ref l1), some (.ref l2), some (.int (l3 + 7))]) dL_law_1246 rfl rfl (Nat.le_of_ble_eq_true rfl) rfl rfl rfl ?_
            refine z_goto (q := 18) dL_law_1249 (by decide) ?_
            exact hF
          · have hF := hF.2 hc
            refine z_iconst (q := 793) (v := 0) dL_law_792 (by decide) rfl ?_
            exact z_zreturn dL_law_793 rfl (by decide) ⟨_, rfl, hF⟩
    by_cases e42 : ((zI h l0 (Int32.toNatClampNeg l3)) &&& 31) = 18
    · refine z_tableIn (q := 794) (off := 761) dL_law_33 (by rw [e42]; decide) (by rw [e42]; decide) (by rw [e42]; decide) (by decide) ?_
      have hF := hF.2.2.2.2.2.2.2.2.2.2.2.2.2.2.2.2.2.2.1 e42
      refine z_aload_n (q := 795) dL_law_794 rfl rfl rfl ?_
      refine z_aload_n (q := 796) dL_law_795 rfl rfl rfl ?_
      refine z_iload_n (q := 797) dL_law_796 rfl rfl rfl ?_
      refine z_iconst (q := 798) (v := 1) dL_law_797 (by decide) rfl ?_
      refine z_iadd (q := 799) dL_law_798 rfl ?_
      obtain ⟨g255, hF⟩ := hF
      refine y_iald (j := (Int32.toNatClampNeg (l3 + 1))) (q := 800) dL_law_799 g22 g255 rfl rfl ?_
      refine z_aload_n (q := 801) dL_law_800 rfl rfl rfl ?_
      refine z_iload_n (q := 802) dL_law_801 rfl rfl rfl ?_
      refine z_iconst (q := 803) (v := 2) dL_law_802 (by decide) rfl ?_
      refine z_iadd (q := 804) dL_law_803 rfl ?_
      obtain ⟨g256, hF⟩ := hF
      refine y_iald (j := (Int32.toNatClampNeg (l3 + 2))) (q := 805) dL_law_804 g22 g256 rfl rfl ?_
      refine z_aload_n (q := 806) dL_law_805 rfl rfl rfl ?_
      refine z_iload_n (q := 807) dL_law_806 rfl rfl rfl ?_
      refine z_iconst (q := 808) (v := 3) dL_law_807 (by decide) rfl ?_
      refine z_iadd (q := 809) dL_law_808 rfl ?_
      obtain ⟨g257, hF⟩ := hF
      refine y_iald (j := (Int32.toNatClampNeg (l3 + 3))) (q := 810) dL_law_809 g22 g257 rfl rfl ?_
      obtain ⟨g259, hF⟩ := hF
      refine z_callVI (rc := rc) (rs := rs) (b := l1) (av := [.int (zI h l0 (Int32.toNatClampNeg (l3 + 1))), .int (zI h l0 (Int32.toNatClampNeg (l3 + 2))), .int (zI h l0 (Int32.toNatClampNeg (l3 + 3)))]) (ci := 10) (r := (RX10, TX10, 15)) (q := 813) hF dL_law_810 ml_L_92 ok_X10_way in_X10_way se_X10_way rfl rfl g259 rfl (Nat.le_of_ble_eq_true rfl) (by decide) (Nat.le_of_ble_eq_true rfl) rfl rfl rfl rfl (fun x260 h258 hF => ?_)
      refine z_aload_n (q := 814) dL_law_813 rfl rfl rfl ?_
      refine z_aload_n (q := 815) dL_law_814 rfl rfl rfl ?_
      refine z_iload_n (q := 816) dL_law_815 rfl rfl rfl ?_
      refine z_iconst (q := 817) (v := 1) dL_law_816 (by decide) rfl ?_
      refine z_iadd (q := 818) dL_law_817 rfl ?_
      obtain ⟨g261, hF⟩ := hF
      obtain ⟨g262, hF⟩ := hF
      refine y_iald (j := (Int32.toNatClampNeg (l3 + 1))) (q := 819) dL_law_818 g261 g262 rfl rfl ?_
      refine z_aload_n (q := 820) dL_law_819 rfl rfl rfl ?_
      refine z_iload_n (q := 821) dL_law_820 rfl rfl rfl ?_
      refine z_iconst (q := 822) (v := 2) dL_law_821 (by decide) rfl ?_
      refine z_iadd (q := 823) dL_law_822 rfl ?_
      obtain ⟨g263, hF⟩ := hF
      refine y_iald (j := (Int32.toNatClampNeg (l3 + 2))) (q := 824) dL_law_823 g261 g263 rfl rfl ?_
      refine z_aload_n (q := 825) dL_law_824 rfl rfl rfl ?_
      refine z_iload_n (q := 826) dL_law_825 rfl rfl rfl ?_
      refine z_iconst (q := 827) (v := 3) dL_law_826 (by decide) rfl ?_
      refine z_iadd (q := 828) dL_law_827 rfl ?_
      obtain ⟨g264, hF⟩ := hF
      refine y_iald (j := (Int32.toNatClampNeg (l3 + 3))) (q := 829) dL_law_828 g261 g264 rfl rfl ?_
      obtain ⟨g266, hF⟩ := hF
      refine z_callVI (rc := rc) (rs := rs) (b := l2) (av := [.int (zI h258 l0 (Int32.toNatClampNeg (l3 + 1))), .int (zI h258 l0 (Int32.toNatClampNeg (l3 + 2))), .int (zI h258 l0 (Int32.toNatClampNeg (l3 + 3)))]) (ci := 11) (r := (RX11, TX11, 54)) (q := 832) hF dL_law_829 ml_L_95 ok_X11_way in_X11_way se_X11_way rfl rfl g266 rfl (Nat.le_of_ble_eq_true rfl) (by decide) (Nat.le_of_ble_eq_true rfl) rfl rfl rfl rfl (fun x267 h265 hF => ?_)
      refine z_icmp_eq (t := 1246) (q := 835) dL_law_832 (by decide) rfl (fun hc => ?_) (fun hc => ?_)
      · have hF := hF.1 hc
        refine z_iinc (q := 1249) (v := (l3 + 7)) (L' := [some (.ref l0), some (.ref l1), some (.ref l2), some (.int (l3 + 7))]) dL_law_1246 rfl rfl (Nat.le_of_ble_eq_true rfl) rfl rfl rfl ?_
        refine z_goto (q := 18) dL_law_1249 (by decide) ?_
        exact hF
      · have hF := hF.2 hc
        refine z_iconst (q := 836) (v := 0) dL_law_835 (by decide) rfl ?_
        exact z_zreturn dL_law_836 rfl (by decide) ⟨_, rfl, hF⟩
    by_cases e43 : ((zI h l0 (Int32.toNatClampNeg l3)) &&& 31) = 19
    · refine z_tableIn (q := 837) (off := 804) dL_law_33 (by rw [e43]; decide) (by rw [e43]; decide) (by rw [e43]; decide) (by decide) ?_
      have hF := hF.2.2.2.2.2.2.2.2.2.2.2.2.2.2.2.2.2.2.2.1 e43
      refine z_aload_n (q := 838) dL_law_837 rfl rfl rfl ?_
      refine z_aload_n (q := 839) dL_law_838 rfl rfl rfl ?_
      refine z_iload_n (q := 840) dL_law_839 rfl rfl rfl ?_
      refine z_iconst (q := 841) (v := 1) dL_law_840 (by decide) rfl ?_
      refine z_iadd (q := 842) dL_law_841 rfl ?_
      obtain ⟨g268, hF⟩ := hF
      refine y_iald (j := (Int32.toNatClampNeg (l3 + 1))) (q := 843) dL_law_842 g22 g268 rfl rfl ?_
      obtain ⟨g270, hF⟩ := hF
      refine z_callVI (rc := rc) (rs := rs) (b := l1) (av := [.int (zI h l0 (Int32.toNatClampNeg (l3 + 1)))]) (ci := 10) (r := (RX10, TX10, 15)) (q := 846) hF dL_law_843 ml_L_96 ok_X10_months in_X10_months se_X10_months rfl rfl g270 rfl (Nat.le_of_ble_eq_true rfl) (by decide) (Nat.le_of_ble_eq_true rfl) rfl rfl rfl rfl (fun x271 h269 hF => ?_)
      refine z_aload_n (q := 847) dL_law_846 rfl rfl rfl ?_
      refine z_aload_n (q := 848) dL_law_847 rfl rfl rfl ?_
      refine z_iload_n (q := 849) dL_law_848 rfl rfl rfl ?_
      refine z_iconst (q := 850) (v := 1) dL_law_849 (by decide) rfl ?_
      refine z_iadd (q := 851) dL_law_850 rfl ?_
      obtain ⟨g272, hF⟩ := hF
      obtain ⟨g273, hF⟩ := hF
      refine y_iald (j := (Int32.toNatClampNeg (l3 + 1))) (q := 852) dL_law_851 g272 g273 rfl rfl ?_
      obtain ⟨g275, hF⟩ := hF
      refine z_callVI (rc := rc) (rs := rs) (b := l2) (av := [.int (zI h269 l0 (Int32.toNatClampNeg (l3 + 1)))]) (ci := 11) (r := (RX11, TX11, 54)) (q := 855) hF dL_law_852 ml_L_99 ok_X11_months in_X11_months se_X11_months rfl rfl g275 rfl (Nat.le_of_ble_eq_true rfl) (by decide) (Nat.le_of_ble_eq_true rfl) rfl rfl rfl rfl (fun x276 h274 hF => ?_)
      refine z_icmp_eq (t := 1246) (q := 858) dL_law_855 (by decide) rfl (fun hc => ?_) (fun hc => ?_)
      · have hF := hF.1 hc
        refine z_iinc (q := 1249) (v := (l3 + 7)) (L' := [some (.ref l0), some (.ref l1), some (.ref l2), some (.int (l3 + 7))]) dL_law_1246 rfl rfl (Nat.le_of_ble_eq_true rfl) rfl rfl rfl ?_
        refine z_goto (q := 18) dL_law_1249 (by decide) ?_
        exact hF
      · have hF := hF.2 hc
        refine z_iconst (q := 859) (v := 0) dL_law_858 (by decide) rfl ?_
        exact z_zreturn dL_law_859 rfl (by decide) ⟨_, rfl, hF⟩
    by_cases e44 : ((zI h l0 (Int32.toNatClampNeg l3)) &&& 31) = 20
    · refine z_tableIn (q := 860) (off := 827) dL_law_33 (by rw [e44]; decide) (by rw [e44]; decide) (by rw [e44]; decide) (by decide) ?_
      have hF := hF.2.2.2.2.2.2.2.2.2.2.2.2.2.2.2.2.2.2.2.2.1 e44
      refine z_aload_n (q := 861) dL_law_860 rfl rfl rfl ?_
      refine z_aload_n (q := 862) dL_law_861 rfl rfl rfl ?_
      refine z_iload_n (q := 863) dL_law_862 rfl rfl rfl ?_
      refine z_iconst (q := 864) (v := 1) dL_law_863 (by decide) rfl ?_
      refine z_iadd (q := 865) dL_law_864 rfl ?_
      obtain ⟨g277, hF⟩ := hF
      refine y_iald (j := (Int32.toNatClampNeg (l3 + 1))) (q := 866) dL_law_865 g22 g277 rfl rfl ?_
      refine z_aload_n (q := 867) dL_law_866 rfl rfl rfl ?_
      refine z_iload_n (q := 868) dL_law_867 rfl rfl rfl ?_
      refine z_iconst (q := 869) (v := 2) dL_law_868 (by decide) rfl ?_
      refine z_iadd (q := 870) dL_law_869 rfl ?_
      obtain ⟨g278, hF⟩ := hF
      refine y_iald (j := (Int32.toNatClampNeg (l3 + 2))) (q := 871) dL_law_870 g22 g278 rfl rfl ?_
      obtain ⟨g280, hF⟩ := hF
      refine z_callVI (rc := rc) (rs := rs) (b := l1) (av := [.int (zI h l0 (Int32.toNatClampNeg (l3 + 1))), .int (zI h l0 (Int32.toNatClampNeg (l3 + 2)))]) (ci := 10) (r := (RX10, TX10, 15)) (q := 874) hF dL_law_871 ml_L_100 ok_X10_threat in_X10_threat se_X10_threat rfl rfl g280 rfl (Nat.le_of_ble_eq_true rfl) (by decide) (Nat.le_of_ble_eq_true rfl) rfl rfl rfl rfl (fun x281 h279 hF => ?_)
      refine z_aload_n (q := 875) dL_law_874 rfl rfl rfl ?_
      refine z_aload_n (q := 876) dL_law_875 rfl rfl rfl ?_
      refine z_iload_n (q := 877) dL_law_876 rfl rfl rfl ?_
      refine z_iconst (q := 878) (v := 1) dL_law_877 (by decide) rfl ?_
      refine z_iadd (q := 879) dL_law_878 rfl ?_
      obtain ⟨g282, hF⟩ := hF
      obtain ⟨g283, hF⟩ := hF
      refine y_iald (j := (Int32.toNatClampNeg (l3 + 1))) (q := 880) dL_law_879 g282 g283 rfl rfl ?_
      refine z_aload_n (q := 881) dL_law_880 rfl rfl rfl ?_
      refine z_iload_n (q := 882) dL_law_881 rfl rfl rfl ?_
      refine z_iconst (q := 883) (v := 2) dL_law_882 (by decide) rfl ?_
      refine z_iadd (q := 884) dL_law_883 rfl ?_
      obtain ⟨g284, hF⟩ := hF
      refine y_iald (j := (Int32.toNatClampNeg (l3 + 2))) (q := 885) dL_law_884 g282 g284 rfl rfl ?_
      obtain ⟨g286, hF⟩ := hF
      refine z_callVI (rc := rc) (rs := rs) (b := l2) (av := [.int (zI h279 l0 (Int32.toNatClampNeg (l3 + 1))), .int (zI h279 l0 (Int32.toNatClampNeg (l3 + 2)))]) (ci := 11) (r := (RX11, TX11, 54)) (q := 888) hF dL_law_885 ml_L_103 ok_X11_threat in_X11_threat se_X11_threat rfl rfl g286 rfl (Nat.le_of_ble_eq_true rfl) (by decide) (Nat.le_of_ble_eq_true rfl) rfl rfl rfl rfl (fun x287 h285 hF => ?_)
      refine z_icmp_eq (t := 1246) (q := 891) dL_law_888 (by decide) rfl (fun hc => ?_) (fun hc => ?_)
      · have hF := hF.1 hc
        refine z_iinc (q := 1249) (v := (l3 + 7)) (L' := [some (.ref l0), some (.ref l1), some (.ref l2), some (.int (l3 + 7))]) dL_law_1246 rfl rfl (Nat.le_of_ble_eq_true rfl) rfl rfl rfl ?_
        refine z_goto (q := 18) dL_law_1249 (by decide) ?_
        exact hF
      · have hF := hF.2 hc
        refine z_iconst (q := 892) (v := 0) dL_law_891 (by decide) rfl ?_
        exact z_zreturn dL_law_892 rfl (by decide) ⟨_, rfl, hF⟩
    by_cases e45 : ((zI h l0 (Int32.toNatClampNeg l3)) &&& 31) = 21
    · refine z_tableIn (q := 893) (off := 860) dL_law_33 (by rw [e45]; decide) (by rw [e45]; decide) (by rw [e45]; decide) (by decide) ?_
      have hF := hF.2.2.2.2.2.2.2.2.2.2.2.2.2.2.2.2.2.2.2.2.2.1 e45
      refine z_aload_n (q := 894) dL_law_893 rfl rfl rfl ?_
      refine z_aload_n (q := 895) dL_law_894 rfl rfl rfl ?_
      refine z_iload_n (q := 896) dL_law_895 rfl rfl rfl ?_
      refine z_iconst (q := 897) (v := 1) dL_law_896 (by decide) rfl ?_
      refine z_iadd (q := 898) dL_law_897 rfl ?_
      obtain ⟨g288, hF⟩ := hF
      refine y_iald (j := (Int32.toNatClampNeg (l3 + 1))) (q := 899) dL_law_898 g22 g288 rfl rfl ?_
      refine z_aload_n (q := 900) dL_law_899 rfl rfl rfl ?_
      refine z_iload_n (q := 901) dL_law_900 rfl rfl rfl ?_
      refine z_iconst (q := 902) (v := 2) dL_law_901 (by decide) rfl ?_
      refine z_iadd (q := 903) dL_law_902 rfl ?_
      obtain ⟨g289, hF⟩ := hF
      refine y_iald (j := (Int32.toNatClampNeg (l3 + 2))) (q := 904) dL_law_903 g22 g289 rfl rfl ?_
      refine z_aload_n (q := 905) dL_law_904 rfl rfl rfl ?_
      refine z_iload_n (q := 906) dL_law_905 rfl rfl rfl ?_
      refine z_iconst (q := 907) (v := 3) dL_law_906 (by decide) rfl ?_
      refine z_iadd (q := 908) dL_law_907 rfl ?_
      obtain ⟨g290, hF⟩ := hF
      refine y_iald (j := (Int32.toNatClampNeg (l3 + 3))) (q := 909) dL_law_908 g22 g290 rfl rfl ?_
      obtain ⟨g292, hF⟩ := hF
      refine z_callVI (rc := rc) (rs := rs) (b := l1) (av := [.int (zI h l0 (Int32.toNatClampNeg (l3 + 1))), .int (zI h l0 (Int32.toNatClampNeg (l3 + 2))), .int (zI h l0 (Int32.toNatClampNeg (l3 + 3)))]) (ci := 10) (r := (RX10, TX10, 15)) (q := 912) hF dL_law_909 ml_L_104 ok_X10_price in_X10_price se_X10_price rfl rfl g292 rfl (Nat.le_of_ble_eq_true rfl) (by decide) (Nat.le_of_ble_eq_true rfl) rfl rfl rfl rfl (fun x293 h291 hF => ?_)
      refine z_aload_n (q := 913) dL_law_912 rfl rfl rfl ?_
      refine z_aload_n (q := 914) dL_law_913 rfl rfl rfl ?_
      refine z_iload_n (q := 915) dL_law_914 rfl rfl rfl ?_
      refine z_iconst (q := 916) (v := 1) dL_law_915 (by decide) rfl ?_
      refine z_iadd (q := 917) dL_law_916 rfl ?_
      obtain ⟨g294, hF⟩ := hF
      obtain ⟨g295, hF⟩ := hF
      refine y_iald (j := (Int32.toNatClampNeg (l3 + 1))) (q := 918) dL_law_917 g294 g295 rfl rfl ?_
      refine z_aload_n (q := 919) dL_law_918 rfl rfl rfl ?_
      refine z_iload_n (q := 920) dL_law_919 rfl rfl rfl ?_
      refine z_iconst (q := 921) (v := 2) dL_law_920 (by decide) rfl ?_
      refine z_iadd (q := 922) dL_law_921 rfl ?_
      obtain ⟨g296, hF⟩ := hF
      refine y_iald (j := (Int32.toNatClampNeg (l3 + 2))) (q := 923) dL_law_922 g294 g296 rfl rfl ?_
      refine z_aload_n (q := 924) dL_law_923 rfl rfl rfl ?_
      refine z_iload_n (q := 925) dL_law_924 rfl rfl rfl ?_
      refine z_iconst (q := 926) (v := 3) dL_law_925 (by decide) rfl ?_
      refine z_iadd (q := 927) dL_law_926 rfl ?_
      obtain ⟨g297, hF⟩ := hF
      refine y_iald (j := (Int32.toNatClampNeg (l3 + 3))) (q := 928) dL_law_927 g294 g297 rfl rfl ?_
      obtain ⟨g299, hF⟩ := hF
      refine z_callVI (rc := rc) (rs := rs) (b := l2) (av := [.int (zI h291 l0 (Int32.toNatClampNeg (l3 + 1))), .int (zI h291 l0 (Int32.toNatClampNeg (l3 + 2))), .int (zI h291 l0 (Int32.toNatClampNeg (l3 + 3)))]) (ci := 11) (r := (RX11, TX11, 54)) (q := 931) hF dL_law_928 ml_L_107 ok_X11_price in_X11_price se_X11_price rfl rfl g299 rfl (Nat.le_of_ble_eq_true rfl) (by decide) (Nat.le_of_ble_eq_true rfl) rfl rfl rfl rfl (fun x300 h298 hF => ?_)
      refine z_icmp_eq (t := 1246) (q := 934) dL_law_931 (by decide) rfl (fun hc => ?_) (fun hc => ?_)
      · have hF := hF.1 hc
        refine z_iinc (q := 1249) (v := (l3 + 7)) (L' := [some (.ref l0), some (.ref l1), some (.ref l2), some (.int (l3 + 7))]) dL_law_1246 rfl rfl (Nat.le_of_ble_eq_true rfl) rfl rfl rfl ?_
        refine z_goto (q := 18) dL_law_1249 (by decide) ?_
        exact hF
      · have hF := hF.2 hc
        refine z_iconst (q := 935) (v := 0) dL_law_934 (by decide) rfl ?_
        exact z_zreturn dL_law_935 rfl (by decide) ⟨_, rfl, hF⟩
    by_cases e46 : ((zI h l0 (Int32.toNatClampNeg l3)) &&& 31) = 22
    · refine z_tableIn (q := 936) (off := 903) dL_law_33 (by rw [e46]; decide) (by rw [e46]; decide) (by rw [e46]; decide) (by decide) ?_
      have hF := hF.2.2.2.2.2.2.2.2.2.2.2.2.2.2.2.2.2.2.2.2.2.2.1 e46
      refine z_aload_n (q := 937) dL_law_936 rfl rfl rfl ?_
      refine z_aload_n (q := 938) dL_law_937 rfl rfl rfl ?_
      refine z_iload_n (q := 939) dL_law_938 rfl rfl rfl ?_
      refine z_iconst (q := 940) (v := 1) dL_law_939 (by decide) rfl ?_
      refine z_iadd (q := 941) dL_law_940 rfl ?_
      obtain ⟨g301, hF⟩ := hF
      refine y_iald (j := (Int32.toNatClampNeg (l3 + 1))) (q := 942) dL_law_941 g22 g301 rfl rfl ?_
      refine z_aload_n (q := 943) dL_law_942 rfl rfl rfl ?_
      refine z_iload_n (q := 944) dL_law_943 rfl rfl rfl ?_
      refine z_iconst (q := 945) (v := 2) dL_law_944 (by decide) rfl ?_
      refine z_iadd (q := 946) dL_law_945 rfl ?_
      obtain ⟨g302, hF⟩ := hF
      refine y_iald (j := (Int32.toNatClampNeg (l3 + 2))) (q := 947) dL_law_946 g22 g302 rfl rfl ?_
      obtain ⟨g304, hF⟩ := hF
      refine z_callVI (rc := rc) (rs := rs) (b := l1) (av := [.int (zI h l0 (Int32.toNatClampNeg (l3 + 1))), .int (zI h l0 (Int32.toNatClampNeg (l3 + 2)))]) (ci := 10) (r := (RX10, TX10, 15)) (q := 950) hF dL_law_947 ml_L_108 ok_X10_plan in_X10_plan se_X10_plan rfl rfl g304 rfl (Nat.le_of_ble_eq_true rfl) (by decide) (Nat.le_of_ble_eq_true rfl) rfl rfl rfl rfl (fun x305 h303 hF => ?_)
      refine z_aload_n (q := 951) dL_law_950 rfl rfl rfl ?_
      refine z_aload_n (q := 952) dL_law_951 rfl rfl rfl ?_
      refine z_iload_n (q := 953) dL_law_952 rfl rfl rfl ?_
      refine z_iconst (q := 954) (v := 1) dL_law_953 (by decide) rfl ?_
      refine z_iadd (q := 955) dL_law_954 rfl ?_
      obtain ⟨g306, hF⟩ := hF
      obtain ⟨g307, hF⟩ := hF
      refine y_iald (j := (Int32.toNatClampNeg (l3 + 1))) (q := 956) dL_law_955 g306 g307 rfl rfl ?_
      refine z_aload_n (q := 957) dL_law_956 rfl rfl rfl ?_
      refine z_iload_n (q := 958) dL_law_957 rfl rfl rfl ?_
      refine z_iconst (q := 959) (v := 2) dL_law_958 (by decide) rfl ?_
      refine z_iadd (q := 960) dL_law_959 rfl ?_
      obtain ⟨g308, hF⟩ := hF
      refine y_iald (j := (Int32.toNatClampNeg (l3 + 2))) (q := 961) dL_law_960 g306 g308 rfl rfl ?_
      obtain ⟨g310, hF⟩ := hF
      refine z_callVI (rc := rc) (rs := rs) (b := l2) (av := [.int (zI h303 l0 (Int32.toNatClampNeg (l3 + 1))), .int (zI h303 l0 (Int32.toNatClampNeg (l3 + 2)))]) (ci := 11) (r := (RX11, TX11, 54)) (q := 964) hF dL_law_961 ml_L_111 ok_X11_plan in_X11_plan se_X11_plan rfl rfl g310 rfl (Nat.le_of_ble_eq_true rfl) (by decide) (Nat.le_of_ble_eq_true rfl) rfl rfl rfl rfl (fun x311 h309 hF => ?_)
      refine z_icmp_eq (t := 1246) (q := 967) dL_law_964 (by decide) rfl (fun hc => ?_) (fun hc => ?_)
      · have hF := hF.1 hc
        refine z_iinc (q := 1249) (v := (l3 + 7)) (L' := [some (.ref l0), some (.ref l1), some (.ref l2), some (.int (l3 + 7))]) dL_law_1246 rfl rfl (Nat.le_of_ble_eq_true rfl) rfl rfl rfl ?_
        refine z_goto (q := 18) dL_law_1249 (by decide) ?_
        exact hF
      · have hF := hF.2 hc
        refine z_iconst (q := 968) (v := 0) dL_law_967 (by decide) rfl ?_
        exact z_zreturn dL_law_968 rfl (by decide) ⟨_, rfl, hF⟩
    by_cases e47 : ((zI h l0 (Int32.toNatClampNeg l3)) &&& 31) = 23
    · refine z_tableIn (q := 969) (off := 936) dL_law_33 (by rw [e47]; decide) (by rw [e47]; decide) (by rw [e47]; decide) (by decide) ?_
      have hF := hF.2.2.2.2.2.2.2.2.2.2.2.2.2.2.2.2.2.2.2.2.2.2.2.1 e47
      refine z_aload_n (q := 970) dL_law_969 rfl rfl rfl ?_
      refine z_aload_n (q := 971) dL_law_970 rfl rfl rfl ?_
      refine z_iload_n (q := 972) dL_law_971 rfl rfl rfl ?_
      refine z_iconst (q := 973) (v := 1) dL_law_972 (by decide) rfl ?_
      refine z_iadd (q := 974) dL_law_973 rfl ?_
      obtain ⟨g312, hF⟩ := hF
      refine y_iald (j := (Int32.toNatClampNeg (l3 + 1))) (q := 975) dL_law_974 g22 g312 rfl rfl ?_
      obtain ⟨g314, hF⟩ := hF
      refine z_callVI (rc := rc) (rs := rs) (b := l1) (av := [.int (zI h l0 (Int32.toNatClampNeg (l3 + 1)))]) (ci := 10) (r := (RX10, TX10, 15)) (q := 978) hF dL_law_975 ml_L_112 ok_X10_best in_X10_best se_X10_best rfl rfl g314 rfl (Nat.le_of_ble_eq_true rfl) (by decide) (Nat.le_of_ble_eq_true rfl) rfl rfl rfl rfl (fun x315 h313 hF => ?_)
      refine z_aload_n (q := 979) dL_law_978 rfl rfl rfl ?_
      refine z_aload_n (q := 980) dL_law_979 rfl rfl rfl ?_
      refine z_iload_n (q := 981) dL_law_980 rfl rfl rfl ?_
      refine z_iconst (q := 982) (v := 1) dL_law_981 (by decide) rfl ?_
      refine z_iadd (q := 983) dL_law_982 rfl ?_
      obtain ⟨g316, hF⟩ := hF
      obtain ⟨g317, hF⟩ := hF
      refine y_iald (j := (Int32.toNatClampNeg (l3 + 1))) (q := 984) dL_law_983 g316 g317 rfl rfl ?_
      obtain ⟨g319, hF⟩ := hF
      refine z_callVI (rc := rc) (rs := rs) (b := l2) (av := [.int (zI h313 l0 (Int32.toNatClampNeg (l3 + 1)))]) (ci := 11) (r := (RX11, TX11, 54)) (q := 987) hF dL_law_984 ml_L_115 ok_X11_best in_X11_best se_X11_best rfl rfl g319 rfl (Nat.le_of_ble_eq_true rfl) (by decide) (Nat.le_of_ble_eq_true rfl) rfl rfl rfl rfl (fun x320 h318 hF => ?_)
      refine z_icmp_eq (t := 1246) (q := 990) dL_law_987 (by decide) rfl (fun hc => ?_) (fun hc => ?_)
      · have hF := hF.1 hc
        refine z_iinc (q := 1249) (v := (l3 + 7)) (L' := [some (.ref l0), some (.ref l1), some (.ref l2), some (.int (l3 + 7))]) dL_law_1246 rfl rfl (Nat.le_of_ble_eq_true rfl) rfl rfl rfl ?_
        refine z_goto (q := 18) dL_law_1249 (by decide) ?_
        exact hF
      · have hF := hF.2 hc
        refine z_iconst (q := 991) (v := 0) dL_law_990 (by decide) rfl ?_
        exact z_zreturn dL_law_991 rfl (by decide) ⟨_, rfl, hF⟩
    by_cases e48 : ((zI h l0 (Int32.toNatClampNeg l3)) &&& 31) = 24
    · refine z_tableIn (q := 992) (off := 959) dL_law_33 (by rw [e48]; decide) (by rw [e48]; decide) (by rw [e48]; decide) (by decide) ?_
      have hF := hF.2.2.2.2.2.2.2.2.2.2.2.2.2.2.2.2.2.2.2.2.2.2.2.2.1 e48
      refine z_aload_n (q := 993) dL_law_992 rfl rfl rfl ?_
      refine z_aload_n (q := 994) dL_law_993 rfl rfl rfl ?_
      refine z_iload_n (q := 995) dL_law_994 rfl rfl rfl ?_
      refine z_iconst (q := 996) (v := 1) dL_law_995 (by decide) rfl ?_
      refine z_iadd (q := 997) dL_law_996 rfl ?_
      obtain ⟨g321, hF⟩ := hF
      refine y_iald (j := (Int32.toNatClampNeg (l3 + 1))) (q := 998) dL_law_997 g22 g321 rfl rfl ?_
      refine z_aload_n (q := 999) dL_law_998 rfl rfl rfl ?_
      refine z_iload_n (q := 1000) dL_law_999 rfl rfl rfl ?_
      refine z_iconst (q := 1001) (v := 2) dL_law_1000 (by decide) rfl ?_
      refine z_iadd (q := 1002) dL_law_1001 rfl ?_
      obtain ⟨g322, hF⟩ := hF
      refine y_iald (j := (Int32.toNatClampNeg (l3 + 2))) (q := 1003) dL_law_1002 g22 g322 rfl rfl ?_
      obtain ⟨g324, hF⟩ := hF
      refine z_callVI (rc := rc) (rs := rs) (b := l1) (av := [.int (zI h l0 (Int32.toNatClampNeg (l3 + 1))), .int (zI h l0 (Int32.toNatClampNeg (l3 + 2)))]) (ci := 10) (r := (RX10, TX10, 15)) (q := 1006) hF dL_law_1003 ml_L_116 ok_X10_vote in_X10_vote se_X10_vote rfl rfl g324 rfl (Nat.le_of_ble_eq_true rfl) (by decide) (Nat.le_of_ble_eq_true rfl) rfl rfl rfl rfl (fun x325 h323 hF => ?_)
      refine z_aload_n (q := 1007) dL_law_1006 rfl rfl rfl ?_
      refine z_aload_n (q := 1008) dL_law_1007 rfl rfl rfl ?_
      refine z_iload_n (q := 1009) dL_law_1008 rfl rfl rfl ?_
      refine z_iconst (q := 1010) (v := 1) dL_law_1009 (by decide) rfl ?_
      refine z_iadd (q := 1011) dL_law_1010 rfl ?_
      obtain ⟨g326, hF⟩ := hF
      obtain ⟨g327, hF⟩ := hF
      refine y_iald (j := (Int32.toNatClampNeg (l3 + 1))) (q := 1012) dL_law_1011 g326 g327 rfl rfl ?_
      refine z_aload_n (q := 1013) dL_law_1012 rfl rfl rfl ?_
      refine z_iload_n (q := 1014) dL_law_1013 rfl rfl rfl ?_
      refine z_iconst (q := 1015) (v := 2) dL_law_1014 (by decide) rfl ?_
      refine z_iadd (q := 1016) dL_law_1015 rfl ?_
      obtain ⟨g328, hF⟩ := hF
      refine y_iald (j := (Int32.toNatClampNeg (l3 + 2))) (q := 1017) dL_law_1016 g326 g328 rfl rfl ?_
      obtain ⟨g330, hF⟩ := hF
      refine z_callVI (rc := rc) (rs := rs) (b := l2) (av := [.int (zI h323 l0 (Int32.toNatClampNeg (l3 + 1))), .int (zI h323 l0 (Int32.toNatClampNeg (l3 + 2)))]) (ci := 11) (r := (RX11, TX11, 54)) (q := 1020) hF dL_law_1017 ml_L_119 ok_X11_vote in_X11_vote se_X11_vote rfl rfl g330 rfl (Nat.le_of_ble_eq_true rfl) (by decide) (Nat.le_of_ble_eq_true rfl) rfl rfl rfl rfl (fun x331 h329 hF => ?_)
      refine z_icmp_eq (t := 1246) (q := 1023) dL_law_1020 (by decide) rfl (fun hc => ?_) (fun hc => ?_)
      · have hF := hF.1 hc
        refine z_iinc (q := 1249) (v := (l3 + 7)) (L' := [some (.ref l0), some (.ref l1), some (.ref l2), some (.int (l3 + 7))]) dL_law_1246 rfl rfl (Nat.le_of_ble_eq_true rfl) rfl rfl rfl ?_
        refine z_goto (q := 18) dL_law_1249 (by decide) ?_
        exact hF
      · have hF := hF.2 hc
        refine z_iconst (q := 1024) (v := 0) dL_law_1023 (by decide) rfl ?_
        exact z_zreturn dL_law_1024 rfl (by decide) ⟨_, rfl, hF⟩
    by_cases e49 : ((zI h l0 (Int32.toNatClampNeg l3)) &&& 31) = 25
    · refine z_tableIn (q := 1025) (off := 992) dL_law_33 (by rw [e49]; decide) (by rw [e49]; decide) (by rw [e49]; decide) (by decide) ?_
      have hF := hF.2.2.2.2.2.2.2.2.2.2.2.2.2.2.2.2.2.2.2.2.2.2.2.2.2.1 e49
      refine z_aload_n (q := 1026) dL_law_1025 rfl rfl rfl ?_
      refine z_aload_n (q := 1027) dL_law_1026 rfl rfl rfl ?_
      refine z_iload_n (q := 1028) dL_law_1027 rfl rfl rfl ?_
      refine z_iconst (q := 1029) (v := 1) dL_law_1028 (by decide) rfl ?_
      refine z_iadd (q := 1030) dL_law_1029 rfl ?_
      obtain ⟨g332, hF⟩ := hF
      refine y_iald (j := (Int32.toNatClampNeg (l3 + 1))) (q := 1031) dL_law_1030 g22 g332 rfl rfl ?_
      refine z_aload_n (q := 1032) dL_law_1031 rfl rfl rfl ?_
      refine z_iload_n (q := 1033) dL_law_1032 rfl rfl rfl ?_
      refine z_iconst (q := 1034) (v := 2) dL_law_1033 (by decide) rfl ?_
      refine z_iadd (q := 1035) dL_law_1034 rfl ?_
      obtain ⟨g333, hF⟩ := hF
      refine y_iald (j := (Int32.toNatClampNeg (l3 + 2))) (q := 1036) dL_law_1035 g22 g333 rfl rfl ?_
      refine z_aload_n (q := 1037) dL_law_1036 rfl rfl rfl ?_
      refine z_iload_n (q := 1038) dL_law_1037 rfl rfl rfl ?_
      refine z_iconst (q := 1039) (v := 3) dL_law_1038 (by decide) rfl ?_
      refine z_iadd (q := 1040) dL_law_1039 rfl ?_
      obtain ⟨g334, hF⟩ := hF
      refine y_iald (j := (Int32.toNatClampNeg (l3 + 3))) (q := 1041) dL_law_1040 g22 g334 rfl rfl ?_
      obtain ⟨g336, hF⟩ := hF
      refine z_callVI (rc := rc) (rs := rs) (b := l1) (av := [.int (zI h l0 (Int32.toNatClampNeg (l3 + 1))), .int (zI h l0 (Int32.toNatClampNeg (l3 + 2))), .int (zI h l0 (Int32.toNatClampNeg (l3 + 3)))]) (ci := 10) (r := (RX10, TX10, 15)) (q := 1044) hF dL_law_1041 ml_L_120 ok_X10_worked in_X10_worked se_X10_worked rfl rfl g336 rfl (Nat.le_of_ble_eq_true rfl) (by decide) (Nat.le_of_ble_eq_true rfl) rfl rfl rfl rfl (fun x337 h335 hF => ?_)
      refine z_aload_n (q := 1045) dL_law_1044 rfl rfl rfl ?_
      refine z_aload_n (q := 1046) dL_law_1045 rfl rfl rfl ?_
      refine z_iload_n (q := 1047) dL_law_1046 rfl rfl rfl ?_
      refine z_iconst (q := 1048) (v := 1) dL_law_1047 (by decide) rfl ?_
      refine z_iadd (q := 1049) dL_law_1048 rfl ?_
      obtain ⟨g338, hF⟩ := hF
      obtain ⟨g339, hF⟩ := hF
      refine y_iald (j := (Int32.toNatClampNeg (l3 + 1))) (q := 1050) dL_law_1049 g338 g339 rfl rfl ?_
      refine z_aload_n (q := 1051) dL_law_1050 rfl rfl rfl ?_
      refine z_iload_n (q := 1052) dL_law_1051 rfl rfl rfl ?_
      refine z_iconst (q := 1053) (v := 2) dL_law_1052 (by decide) rfl ?_
      refine z_iadd (q := 1054) dL_law_1053 rfl ?_
      obtain ⟨g340, hF⟩ := hF
      refine y_iald (j := (Int32.toNatClampNeg (l3 + 2))) (q := 1055) dL_law_1054 g338 g340 rfl rfl ?_
      refine z_aload_n (q := 1056) dL_law_1055 rfl rfl rfl ?_
      refine z_iload_n (q := 1057) dL_law_1056 rfl rfl rfl ?_
      refine z_iconst (q := 1058) (v := 3) dL_law_1057 (by decide) rfl ?_
      refine z_iadd (q := 1059) dL_law_1058 rfl ?_
      obtain ⟨g341, hF⟩ := hF
      refine y_iald (j := (Int32.toNatClampNeg (l3 + 3))) (q := 1060) dL_law_1059 g338 g341 rfl rfl ?_
      obtain ⟨g343, hF⟩ := hF
      refine z_callVI (rc := rc) (rs := rs) (b := l2) (av := [.int (zI h335 l0 (Int32.toNatClampNeg (l3 + 1))), .int (zI h335 l0 (Int32.toNatClampNeg (l3 + 2))), .int (zI h335 l0 (Int32.toNatClampNeg (l3 + 3)))]) (ci := 11) (r := (RX11, TX11, 54)) (q := 1063) hF dL_law_1060 ml_L_123 ok_X11_worked in_X11_worked se_X11_worked rfl rfl g343 rfl (Nat.le_of_ble_eq_true rfl) (by decide) (Nat.le_of_ble_eq_true rfl) rfl rfl rfl rfl (fun x344 h342 hF => ?_)
      refine z_icmp_eq (t := 1246) (q := 1066) dL_law_1063 (by decide) rfl (fun hc => ?_) (fun hc => ?_)
      · have hF := hF.1 hc
        refine z_iinc (q := 1249) (v := (l3 + 7)) (L' := [some (.ref l0), some (.ref l1), some (.ref l2), some (.int (l3 + 7))]) dL_law_1246 rfl rfl (Nat.le_of_ble_eq_true rfl) rfl rfl rfl ?_
        refine z_goto (q := 18) dL_law_1249 (by decide) ?_
        exact hF
      · have hF := hF.2 hc
        refine z_iconst (q := 1067) (v := 0) dL_law_1066 (by decide) rfl ?_
        exact z_zreturn dL_law_1067 rfl (by decide) ⟨_, rfl, hF⟩
    by_cases e50 : ((zI h l0 (Int32.toNatClampNeg l3)) &&& 31) = 26
    · refine z_tableIn (q := 1068) (off := 1035) dL_law_33 (by rw [e50]; decide) (by rw [e50]; decide) (by rw [e50]; decide) (by decide) ?_
      have hF := hF.2.2.2.2.2.2.2.2.2.2.2.2.2.2.2.2.2.2.2.2.2.2.2.2.2.2.1 e50
      refine z_aload_n (q := 1069) dL_law_1068 rfl rfl rfl ?_
      refine z_aload_n (q := 1070) dL_law_1069 rfl rfl rfl ?_
      refine z_iload_n (q := 1071) dL_law_1070 rfl rfl rfl ?_
      refine z_iconst (q := 1072) (v := 1) dL_law_1071 (by decide) rfl ?_
      refine z_iadd (q := 1073) dL_law_1072 rfl ?_
      obtain ⟨g345, hF⟩ := hF
      refine y_iald (j := (Int32.toNatClampNeg (l3 + 1))) (q := 1074) dL_law_1073 g22 g345 rfl rfl ?_
      refine z_aload_n (q := 1075) dL_law_1074 rfl rfl rfl ?_
      refine z_iload_n (q := 1076) dL_law_1075 rfl rfl rfl ?_
      refine z_iconst (q := 1077) (v := 2) dL_law_1076 (by decide) rfl ?_
      refine z_iadd (q := 1078) dL_law_1077 rfl ?_
      obtain ⟨g346, hF⟩ := hF
      refine y_iald (j := (Int32.toNatClampNeg (l3 + 2))) (q := 1079) dL_law_1078 g22 g346 rfl rfl ?_
      refine z_aload_n (q := 1080) dL_law_1079 rfl rfl rfl ?_
      refine z_iload_n (q := 1081) dL_law_1080 rfl rfl rfl ?_
      refine z_iconst (q := 1082) (v := 3) dL_law_1081 (by decide) rfl ?_
      refine z_iadd (q := 1083) dL_law_1082 rfl ?_
      obtain ⟨g347, hF⟩ := hF
      refine y_iald (j := (Int32.toNatClampNeg (l3 + 3))) (q := 1084) dL_law_1083 g22 g347 rfl rfl ?_
      refine z_aload_n (q := 1085) dL_law_1084 rfl rfl rfl ?_
      refine z_iload_n (q := 1086) dL_law_1085 rfl rfl rfl ?_
      refine z_iconst (q := 1087) (v := 4) dL_law_1086 (by decide) rfl ?_
      refine z_iadd (q := 1088) dL_law_1087 rfl ?_
      obtain ⟨g348, hF⟩ := hF
      refine y_iald (j := (Int32.toNatClampNeg (l3 + 4))) (q := 1089) dL_law_1088 g22 g348 rfl rfl ?_
      obtain ⟨rc349, rs350, e351, e352, hF⟩ := hF
      refine Zt.room (rc' := rc349 + 2) (rs' := rs350 + 5) e351 e352 ?_
      obtain ⟨g354, hF⟩ := hF
      refine z_callVI (rc := rc349) (rs := rs350) (b := l1) (av := [.int (zI h l0 (Int32.toNatClampNeg (l3 + 1))), .int (zI h l0 (Int32.toNatClampNeg (l3 + 2))), .int (zI h l0 (Int32.toNatClampNeg (l3 + 3))), .int (zI h l0 (Int32.toNatClampNeg (l3 + 4)))]) (ci := 10) (r := (RX10, TX10, 15)) (q := 1092) hF dL_law_1089 ml_L_124 ok_X10_harm in_X10_harm se_X10_harm rfl rfl g354 rfl (Nat.le_of_ble_eq_true rfl) (by decide) (Nat.le_of_ble_eq_true rfl) rfl rfl rfl rfl (fun x355 h353 hF => ?_)
      refine z_aload_n (q := 1093) dL_law_1092 rfl rfl rfl ?_
      refine z_aload_n (q := 1094) dL_law_1093 rfl rfl rfl ?_
      refine z_iload_n (q := 1095) dL_law_1094 rfl rfl rfl ?_
      refine z_iconst (q := 1096) (v := 1) dL_law_1095 (by decide) rfl ?_
      refine z_iadd (q := 1097) dL_law_1096 rfl ?_
      obtain ⟨g356, hF⟩ := hF
      obtain ⟨g357, hF⟩ := hF
      refine y_iald (j := (Int32.toNatClampNeg (l3 + 1))) (q := 1098) dL_law_1097 g356 g357 rfl rfl ?_
      refine z_aload_n (q := 1099) dL_law_1098 rfl rfl rfl ?_
      refine z_iload_n (q := 1100) dL_law_1099 rfl rfl rfl ?_
      refine z_iconst (q := 1101) (v := 2) dL_law_1100 (by decide) rfl ?_
      refine z_iadd (q := 1102) dL_law_1101 rfl ?_
      obtain ⟨g358, hF⟩ := hF
      refine y_iald (j := (Int32.toNatClampNeg (l3 + 2))) (q := 1103) dL_law_1102 g356 g358 rfl rfl ?_
      refine z_aload_n (q := 1104) dL_law_1103 rfl rfl rfl ?_
      refine z_iload_n (q := 1105) dL_law_1104 rfl rfl rfl ?_
      refine z_iconst (q := 1106) (v := 3) dL_law_1105 (by decide) rfl ?_
      refine z_iadd (q := 1107) dL_law_1106 rfl ?_
      obtain ⟨g359, hF⟩ := hF
      refine y_iald (j := (Int32.toNatClampNeg (l3 + 3))) (q := 1108) dL_law_1107 g356 g359 rfl rfl ?_
      refine z_aload_n (q := 1109) dL_law_1108 rfl rfl rfl ?_
      refine z_iload_n (q := 1110) dL_law_1109 rfl rfl rfl ?_
      refine z_iconst (q := 1111) (v := 4) dL_law_1110 (by decide) rfl ?_
      refine z_iadd (q := 1112) dL_law_1111 rfl ?_
      obtain ⟨g360, hF⟩ := hF
      refine y_iald (j := (Int32.toNatClampNeg (l3 + 4))) (q := 1113) dL_law_1112 g356 g360 rfl rfl ?_
      obtain ⟨g362, hF⟩ := hF
      refine z_callVI (rc := rc349) (rs := rs350) (b := l2) (av := [.int (zI h353 l0 (Int32.toNatClampNeg (l3 + 1))), .int (zI h353 l0 (Int32.toNatClampNeg (l3 + 2))), .int (zI h353 l0 (Int32.toNatClampNeg (l3 + 3))), .int (zI h353 l0 (Int32.toNatClampNeg (l3 + 4)))]) (ci := 11) (r := (RX11, TX11, 54)) (q := 1116) hF dL_law_1113 ml_L_128 ok_X11_harm in_X11_harm se_X11_harm rfl rfl g362 rfl (Nat.le_of_ble_eq_true rfl) (by decide) (Nat.le_of_ble_eq_true rfl) rfl rfl rfl rfl (fun x363 h361 hF => ?_)
      refine z_icmp_eq (t := 1246) (q := 1119) dL_law_1116 (by decide) rfl (fun hc => ?_) (fun hc => ?_)
      · have hF := hF.1 hc
        refine z_iinc (q := 1249) (v := (l3 + 7)) (L' := [some (.ref l0), some (.ref l1), some (.ref l2), some (.int (l3 + 7))]) dL_law_1246 rfl rfl (Nat.le_of_ble_eq_true rfl) rfl rfl rfl ?_
        refine z_goto (q := 18) dL_law_1249 (by decide) ?_
        exact hF
      · have hF := hF.2 hc
        refine z_iconst (q := 1120) (v := 0) dL_law_1119 (by decide) rfl ?_
        exact z_zreturn dL_law_1120 rfl (by decide) ⟨_, rfl, hF⟩
    by_cases e51 : ((zI h l0 (Int32.toNatClampNeg l3)) &&& 31) = 27
    · refine z_tableIn (q := 1121) (off := 1088) dL_law_33 (by rw [e51]; decide) (by rw [e51]; decide) (by rw [e51]; decide) (by decide) ?_
      have hF := hF.2.2.2.2.2.2.2.2.2.2.2.2.2.2.2.2.2.2.2.2.2.2.2.2.2.2.2.1 e51
      refine z_aload_n (q := 1122) dL_law_1121 rfl rfl rfl ?_
      refine z_aload_n (q := 1123) dL_law_1122 rfl rfl rfl ?_
      refine z_iload_n (q := 1124) dL_law_1123 rfl rfl rfl ?_
      refine z_iconst (q := 1125) (v := 1) dL_law_1124 (by decide) rfl ?_
      refine z_iadd (q := 1126) dL_law_1125 rfl ?_
      obtain ⟨g364, hF⟩ := hF
      refine y_iald (j := (Int32.toNatClampNeg (l3 + 1))) (q := 1127) dL_law_1126 g22 g364 rfl rfl ?_
      obtain ⟨g366, hF⟩ := hF
      refine z_callVI (rc := rc) (rs := rs) (b := l1) (av := [.int (zI h l0 (Int32.toNatClampNeg (l3 + 1)))]) (ci := 10) (r := (RX10, TX10, 15)) (q := 1130) hF dL_law_1127 ml_L_129 ok_X10_whose in_X10_whose se_X10_whose rfl rfl g366 rfl (Nat.le_of_ble_eq_true rfl) (by decide) (Nat.le_of_ble_eq_true rfl) rfl rfl rfl rfl (fun x367 h365 hF => ?_)
      refine z_aload_n (q := 1131) dL_law_1130 rfl rfl rfl ?_
      refine z_aload_n (q := 1132) dL_law_1131 rfl rfl rfl ?_
      refine z_iload_n (q := 1133) dL_law_1132 rfl rfl rfl ?_
      refine z_iconst (q := 1134) (v := 1) dL_law_1133 (by decide) rfl ?_
      refine z_iadd (q := 1135) dL_law_1134 rfl ?_
      obtain ⟨g368, hF⟩ := hF
      obtain ⟨g369, hF⟩ := hF
      refine y_iald (j := (Int32.toNatClampNeg (l3 + 1))) (q := 1136) dL_law_1135 g368 g369 rfl rfl ?_
      obtain ⟨g371, hF⟩ := hF
      refine z_callVI (rc := rc) (rs := rs) (b := l2) (av := [.int (zI h365 l0 (Int32.toNatClampNeg (l3 + 1)))]) (ci := 11) (r := (RX11, TX11, 54)) (q := 1139) hF dL_law_1136 ml_L_132 ok_X11_whose in_X11_whose se_X11_whose rfl rfl g371 rfl (Nat.le_of_ble_eq_true rfl) (by decide) (Nat.le_of_ble_eq_true rfl) rfl rfl rfl rfl (fun x372 h370 hF => ?_)
      refine z_icmp_eq (t := 1246) (q := 1142) dL_law_1139 (by decide) rfl (fun hc => ?_) (fun hc => ?_)
      · have hF := hF.1 hc
        refine z_iinc (q := 1249) (v := (l3 + 7)) (L' := [some (.ref l0), some (.ref l1), some (.ref l2), some (.int (l3 + 7))]) dL_law_1246 rfl rfl (Nat.le_of_ble_eq_true rfl) rfl rfl rfl ?_
        refine z_goto (q := 18) dL_law_1249 (by decide) ?_
        exact hF
      · have hF := hF.2 hc
        refine z_iconst (q := 1143) (v := 0) dL_law_1142 (by decide) rfl ?_
        exact z_zreturn dL_law_1143 rfl (by decide) ⟨_, rfl, hF⟩
    by_cases e52 : ((zI h l0 (Int32.toNatClampNeg l3)) &&& 31) = 28
    · refine z_tableIn (q := 1144) (off := 1111) dL_law_33 (by rw [e52]; decide) (by rw [e52]; decide) (by rw [e52]; decide) (by decide) ?_
      have hF := hF.2.2.2.2.2.2.2.2.2.2.2.2.2.2.2.2.2.2.2.2.2.2.2.2.2.2.2.2.1 e52
      refine z_aload_n (q := 1145) dL_law_1144 rfl rfl rfl ?_
      refine z_aload_n (q := 1146) dL_law_1145 rfl rfl rfl ?_
      refine z_iload_n (q := 1147) dL_law_1146 rfl rfl rfl ?_
      refine z_iconst (q := 1148) (v := 1) dL_law_1147 (by decide) rfl ?_
      refine z_iadd (q := 1149) dL_law_1148 rfl ?_
      obtain ⟨g373, hF⟩ := hF
      refine y_iald (j := (Int32.toNatClampNeg (l3 + 1))) (q := 1150) dL_law_1149 g22 g373 rfl rfl ?_
      refine z_aload_n (q := 1151) dL_law_1150 rfl rfl rfl ?_
      refine z_iload_n (q := 1152) dL_law_1151 rfl rfl rfl ?_
      refine z_iconst (q := 1153) (v := 2) dL_law_1152 (by decide) rfl ?_
      refine z_iadd (q := 1154) dL_law_1153 rfl ?_
      obtain ⟨g374, hF⟩ := hF
      refine y_iald (j := (Int32.toNatClampNeg (l3 + 2))) (q := 1155) dL_law_1154 g22 g374 rfl rfl ?_
      obtain ⟨g376, hF⟩ := hF
      refine z_callVI (rc := rc) (rs := rs) (b := l1) (av := [.int (zI h l0 (Int32.toNatClampNeg (l3 + 1))), .int (zI h l0 (Int32.toNatClampNeg (l3 + 2)))]) (ci := 10) (r := (RX10, TX10, 15)) (q := 1158) hF dL_law_1155 ml_L_133 ok_X10_part in_X10_part se_X10_part rfl rfl g376 rfl (Nat.le_of_ble_eq_true rfl) (by decide) (Nat.le_of_ble_eq_true rfl) rfl rfl rfl rfl (fun x377 h375 hF => ?_)
      refine z_aload_n (q := 1159) dL_law_1158 rfl rfl rfl ?_
      refine z_aload_n (q := 1160) dL_law_1159 rfl rfl rfl ?_
      refine z_iload_n (q := 1161) dL_law_1160 rfl rfl rfl ?_
      refine z_iconst (q := 1162) (v := 1) dL_law_1161 (by decide) rfl ?_
      refine z_iadd (q := 1163) dL_law_1162 rfl ?_
      obtain ⟨g378, hF⟩ := hF
      obtain ⟨g379, hF⟩ := hF
      refine y_iald (j := (Int32.toNatClampNeg (l3 + 1))) (q := 1164) dL_law_1163 g378 g379 rfl rfl ?_
      refine z_aload_n (q := 1165) dL_law_1164 rfl rfl rfl ?_
      refine z_iload_n (q := 1166) dL_law_1165 rfl rfl rfl ?_
      refine z_iconst (q := 1167) (v := 2) dL_law_1166 (by decide) rfl ?_
      refine z_iadd (q := 1168) dL_law_1167 rfl ?_
      obtain ⟨g380, hF⟩ := hF
      refine y_iald (j := (Int32.toNatClampNeg (l3 + 2))) (q := 1169) dL_law_1168 g378 g380 rfl rfl ?_
      obtain ⟨g382, hF⟩ := hF
      refine z_callVI (rc := rc) (rs := rs) (b := l2) (av := [.int (zI h375 l0 (Int32.toNatClampNeg (l3 + 1))), .int (zI h375 l0 (Int32.toNatClampNeg (l3 + 2)))]) (ci := 11) (r := (RX11, TX11, 54)) (q := 1172) hF dL_law_1169 ml_L_136 ok_X11_part in_X11_part se_X11_part rfl rfl g382 rfl (Nat.le_of_ble_eq_true rfl) (by decide) (Nat.le_of_ble_eq_true rfl) rfl rfl rfl rfl (fun x383 h381 hF => ?_)
      refine z_icmp_eq (t := 1246) (q := 1175) dL_law_1172 (by decide) rfl (fun hc => ?_) (fun hc => ?_)
      · have hF := hF.1 hc
        refine z_iinc (q := 1249) (v := (l3 + 7)) (L' := [some (.ref l0), some (.ref l1), some (.ref l2), some (.int (l3 + 7))]) dL_law_1246 rfl rfl (Nat.le_of_ble_eq_true rfl) rfl rfl rfl ?_
        refine z_goto (q := 18) dL_law_1249 (by decide) ?_
        exact hF
      · have hF := hF.2 hc
        refine z_iconst (q := 1176) (v := 0) dL_law_1175 (by decide) rfl ?_
        exact z_zreturn dL_law_1176 rfl (by decide) ⟨_, rfl, hF⟩
    by_cases e53 : ((zI h l0 (Int32.toNatClampNeg l3)) &&& 31) = 29
    · refine z_tableIn (q := 1177) (off := 1144) dL_law_33 (by rw [e53]; decide) (by rw [e53]; decide) (by rw [e53]; decide) (by decide) ?_
      have hF := hF.2.2.2.2.2.2.2.2.2.2.2.2.2.2.2.2.2.2.2.2.2.2.2.2.2.2.2.2.2.1 e53
      refine z_aload_n (q := 1178) dL_law_1177 rfl rfl rfl ?_
      refine z_aload_n (q := 1179) dL_law_1178 rfl rfl rfl ?_
      refine z_iload_n (q := 1180) dL_law_1179 rfl rfl rfl ?_
      refine z_iconst (q := 1181) (v := 1) dL_law_1180 (by decide) rfl ?_
      refine z_iadd (q := 1182) dL_law_1181 rfl ?_
      obtain ⟨g384, hF⟩ := hF
      refine y_iald (j := (Int32.toNatClampNeg (l3 + 1))) (q := 1183) dL_law_1182 g22 g384 rfl rfl ?_
      refine z_aload_n (q := 1184) dL_law_1183 rfl rfl rfl ?_
      refine z_iload_n (q := 1185) dL_law_1184 rfl rfl rfl ?_
      refine z_iconst (q := 1186) (v := 2) dL_law_1185 (by decide) rfl ?_
      refine z_iadd (q := 1187) dL_law_1186 rfl ?_
      obtain ⟨g385, hF⟩ := hF
      refine y_iald (j := (Int32.toNatClampNeg (l3 + 2))) (q := 1188) dL_law_1187 g22 g385 rfl rfl ?_
      obtain ⟨g387, hF⟩ := hF
      refine z_callVI (rc := rc) (rs := rs) (b := l1) (av := [.int (zI h l0 (Int32.toNatClampNeg (l3 + 1))), .int (zI h l0 (Int32.toNatClampNeg (l3 + 2)))]) (ci := 10) (r := (RX10, TX10, 15)) (q := 1191) hF dL_law_1188 ml_L_137 ok_X10_work in_X10_work se_X10_work rfl rfl g387 rfl (Nat.le_of_ble_eq_true rfl) (by decide) (Nat.le_of_ble_eq_true rfl) rfl rfl rfl rfl (fun x388 h386 hF => ?_)
      refine z_aload_n (q := 1192) dL_law_1191 rfl rfl rfl ?_
      refine z_aload_n (q := 1193) dL_law_1192 rfl rfl rfl ?_
      refine z_iload_n (q := 1194) dL_law_1193 rfl rfl rfl ?_
      refine z_iconst (q := 1195) (v := 1) dL_law_1194 (by decide) rfl ?_
      refine z_iadd (q := 1196) dL_law_1195 rfl ?_
      obtain ⟨g389, hF⟩ := hF
      obtain ⟨g390, hF⟩ := hF
      refine y_iald (j := (Int32.toNatClampNeg (l3 + 1))) (q := 1197) dL_law_1196 g389 g390 rfl rfl ?_
      refine z_aload_n (q := 1198) dL_law_1197 rfl rfl rfl ?_
      refine z_iload_n (q := 1199) dL_law_1198 rfl rfl rfl ?_
      refine z_iconst (q := 1200) (v := 2) dL_law_1199 (by decide) rfl ?_
      refine z_iadd (q := 1201) dL_law_1200 rfl ?_
      obtain ⟨g391, hF⟩ := hF
      refine y_iald (j := (Int32.toNatClampNeg (l3 + 2))) (q := 1202) dL_law_1201 g389 g391 rfl rfl ?_
      obtain ⟨g393, hF⟩ := hF
      refine z_callVI (rc := rc) (rs := rs) (b := l2) (av := [.int (zI h386 l0 (Int32.toNatClampNeg (l3 + 1))), .int (zI h386 l0 (Int32.toNatClampNeg (l3 + 2)))]) (ci := 11) (r := (RX11, TX11, 54)) (q := 1205) hF dL_law_1202 ml_L_140 ok_X11_work in_X11_work se_X11_work rfl rfl g393 rfl (Nat.le_of_ble_eq_true rfl) (by decide) (Nat.le_of_ble_eq_true rfl) rfl rfl rfl rfl (fun x394 h392 hF => ?_)
      refine z_icmp_eq (t := 1246) (q := 1208) dL_law_1205 (by decide) rfl (fun hc => ?_) (fun hc => ?_)
      · have hF := hF.1 hc
        refine z_iinc (q := 1249) (v := (l3 + 7)) (L' := [some (.ref l0), some (.ref l1), some (.ref l2), some (.int (l3 + 7))]) dL_law_1246 rfl rfl (Nat.le_of_ble_eq_true rfl) rfl rfl rfl ?_
        refine z_goto (q := 18) dL_law_1249 (by decide) ?_
        exact hF
      · have hF := hF.2 hc
        refine z_iconst (q := 1209) (v := 0) dL_law_1208 (by decide) rfl ?_
        exact z_zreturn dL_law_1209 rfl (by decide) ⟨_, rfl, hF⟩
    by_cases e54 : ((zI h l0 (Int32.toNatClampNeg l3)) &&& 31) = 30
    · refine z_tableIn (q := 1210) (off := 1177) dL_law_33 (by rw [e54]; decide) (by rw [e54]; decide) (by rw [e54]; decide) (by decide) ?_
      have hF := hF.2.2.2.2.2.2.2.2.2.2.2.2.2.2.2.2.2.2.2.2.2.2.2.2.2.2.2.2.2.2.1 e54
      refine z_aload_n (q := 1211) dL_law_1210 rfl rfl rfl ?_
      obtain ⟨g396, hF⟩ := hF
      refine z_callVI (rc := rc) (rs := rs) (b := l1) (av := []) (ci := 10) (r := (RX10, TX10, 15)) (q := 1214) hF dL_law_1211 ml_L_141 ok_X10_lone in_X10_lone se_X10_lone rfl rfl g396 rfl (Nat.le_of_ble_eq_true rfl) (by decide) (Nat.le_of_ble_eq_true rfl) rfl rfl rfl rfl (fun x397 h395 hF => ?_)
      refine z_aload_n (q := 1215) dL_law_1214 rfl rfl rfl ?_
      obtain ⟨g399, hF⟩ := hF
      refine z_callVI (rc := rc) (rs := rs) (b := l2) (av := []) (ci := 11) (r := (RX11, TX11, 54)) (q := 1218) hF dL_law_1215 ml_L_144 ok_X11_lone in_X11_lone se_X11_lone rfl rfl g399 rfl (Nat.le_of_ble_eq_true rfl) (by decide) (Nat.le_of_ble_eq_true rfl) rfl rfl rfl rfl (fun x400 h398 hF => ?_)
      refine z_icmp_eq (t := 1246) (q := 1221) dL_law_1218 (by decide) rfl (fun hc => ?_) (fun hc => ?_)
      · have hF := hF.1 hc
        refine z_iinc (q := 1249) (v := (l3 + 7)) (L' := [some (.ref l0), some (.ref l1), some (.ref l2), some (.int (l3 + 7))]) dL_law_1246 rfl rfl (Nat.le_of_ble_eq_true rfl) rfl rfl rfl ?_
        refine z_goto (q := 18) dL_law_1249 (by decide) ?_
        exact hF
      · have hF := hF.2 hc
        refine z_iconst (q := 1222) (v := 0) dL_law_1221 (by decide) rfl ?_
        exact z_zreturn dL_law_1222 rfl (by decide) ⟨_, rfl, hF⟩
    by_cases e55 : ((zI h l0 (Int32.toNatClampNeg l3)) &&& 31) = 31
    · refine z_tableIn (q := 1223) (off := 1190) dL_law_33 (by rw [e55]; decide) (by rw [e55]; decide) (by rw [e55]; decide) (by decide) ?_
      have hF := hF.2.2.2.2.2.2.2.2.2.2.2.2.2.2.2.2.2.2.2.2.2.2.2.2.2.2.2.2.2.2.2.1 e55
      refine z_aload_n (q := 1224) dL_law_1223 rfl rfl rfl ?_
      refine z_aload_n (q := 1225) dL_law_1224 rfl rfl rfl ?_
      refine z_iload_n (q := 1226) dL_law_1225 rfl rfl rfl ?_
      refine z_iconst (q := 1227) (v := 1) dL_law_1226 (by decide) rfl ?_
      refine z_iadd (q := 1228) dL_law_1227 rfl ?_
      obtain ⟨g401, hF⟩ := hF
      refine y_iald (j := (Int32.toNatClampNeg (l3 + 1))) (q := 1229) dL_law_1228 g22 g401 rfl rfl ?_
      obtain ⟨g403, hF⟩ := hF
      refine z_callVI (rc := rc) (rs := rs) (b := l1) (av := [.int (zI h l0 (Int32.toNatClampNeg (l3 + 1)))]) (ci := 10) (r := (RX10, TX10, 15)) (q := 1232) hF dL_law_1229 ml_L_145 ok_X10_told in_X10_told se_X10_told rfl rfl g403 rfl (Nat.le_of_ble_eq_true rfl) (by decide) (Nat.le_of_ble_eq_true rfl) rfl rfl rfl rfl (fun x404 h402 hF => ?_)
      refine z_aload_n (q := 1233) dL_law_1232 rfl rfl rfl ?_
      refine z_aload_n (q := 1234) dL_law_1233 rfl rfl rfl ?_
      refine z_iload_n (q := 1235) dL_law_1234 rfl rfl rfl ?_
      refine z_iconst (q := 1236) (v := 1) dL_law_1235 (by decide) rfl ?_
      refine z_iadd (q := 1237) dL_law_1236 rfl ?_
      obtain ⟨g405, hF⟩ := hF
      obtain ⟨g406, hF⟩ := hF
      refine y_iald (j := (Int32.toNatClampNeg (l3 + 1))) (q := 1238) dL_law_1237 g405 g406 rfl rfl ?_
      obtain ⟨g408, hF⟩ := hF
      refine z_callVI (rc := rc) (rs := rs) (b := l2) (av := [.int (zI h402 l0 (Int32.toNatClampNeg (l3 + 1)))]) (ci := 11) (r := (RX11, TX11, 54)) (q := 1241) hF dL_law_1238 ml_L_148 ok_X11_told in_X11_told se_X11_told rfl rfl g408 rfl (Nat.le_of_ble_eq_true rfl) (by decide) (Nat.le_of_ble_eq_true rfl) rfl rfl rfl rfl (fun x409 h407 hF => ?_)
      refine z_icmp_eq (t := 1246) (q := 1244) dL_law_1241 (by decide) rfl (fun hc => ?_) (fun hc => ?_)
      · have hF := hF.1 hc
        refine z_iinc (q := 1249) (v := (l3 + 7)) (L' := [some (.ref l0), some (.ref l1), some (.ref l2), some (.int (l3 + 7))]) dL_law_1246 rfl rfl (Nat.le_of_ble_eq_true rfl) rfl rfl rfl ?_
        refine z_goto (q := 18) dL_law_1249 (by decide) ?_
        exact hF
      · have hF := hF.2 hc
        refine z_iconst (q := 1245) (v := 0) dL_law_1244 (by decide) rfl ?_
        exact z_zreturn dL_law_1245 rfl (by decide) ⟨_, rfl, hF⟩
    refine z_tableOut (q := 1246) dL_law_33 (by
      have k0 := zsw_ne (k := 0) e24 (by decide)
      have k1 := zsw_ne (k := 1) e25 (by decide)
      have k2 := zsw_ne (k := 2) e26 (by decide)
      have k3 := zsw_ne (k := 3) e27 (by decide)
      have k4 := zsw_ne (k := 4) e28 (by decide)
      have k5 := zsw_ne (k := 5) e29 (by decide)
      have k6 := zsw_ne (k := 6) e30 (by decide)
      have k7 := zsw_ne (k := 7) e31 (by decide)
      have k8 := zsw_ne (k := 8) e32 (by decide)
      have k9 := zsw_ne (k := 9) e33 (by decide)
      have k10 := zsw_ne (k := 10) e34 (by decide)
      have k11 := zsw_ne (k := 11) e35 (by decide)
      have k12 := zsw_ne (k := 12) e36 (by decide)
      have k13 := zsw_ne (k := 13) e37 (by decide)
      have k14 := zsw_ne (k := 14) e38 (by decide)
      have k15 := zsw_ne (k := 15) e39 (by decide)
      have k16 := zsw_ne (k := 16) e40 (by decide)
      have k17 := zsw_ne (k := 17) e41 (by decide)
      have k18 := zsw_ne (k := 18) e42 (by decide)
      have k19 := zsw_ne (k := 19) e43 (by decide)
      have k20 := zsw_ne (k := 20) e44 (by decide)
      have k21 := zsw_ne (k := 21) e45 (by decide)
      have k22 := zsw_ne (k := 22) e46 (by decide)
      have k23 := zsw_ne (k := 23) e47 (by decide)
      have k24 := zsw_ne (k := 24) e48 (by decide)
      have k25 := zsw_ne (k := 25) e49 (by decide)
      have k26 := zsw_ne (k := 26) e50 (by decide)
      have k27 := zsw_ne (k := 27) e51 (by decide)
      have k28 := zsw_ne (k := 28) e52 (by decide)
      have k29 := zsw_ne (k := 29) e53 (by decide)
      have k30 := zsw_ne (k := 30) e54 (by decide)
      have k31 := zsw_ne (k := 31) e55 (by decide)
      omega) (by decide) ?_
    have hF := hF.2.2.2.2.2.2.2.2.2.2.2.2.2.2.2.2.2.2.2.2.2.2.2.2.2.2.2.2.2.2.2.2 e24 e25 e26 e27 e28 e29 e30 e31 e32 e33 e34 e35 e36 e37 e38 e39 e40 e41 e42 e43 e44 e45 e46 e47 e48 e49 e50 e51 e52 e53 e54 e55
    refine z_iinc (q := 1249) (v := (l3 + 7)) (L' := [some (.ref l0), some (.ref l1), some (.ref l2), some (.int (l3 + 7))]) dL_law_1246 rfl rfl (Nat.le_of_ble_eq_true rfl) rfl rfl rfl ?_
    refine z_goto (q := 18) dL_law_1249 (by decide) ?_
    exact hF
set_option maxRecDepth 100000 in
set_option maxHeartbeats 4000000 in
theorem wL_law {ψ : Int32 → ZH → Prop} {l0 : Nat} {h : ZH} (hF : ∃ a410 : Nat, a410 ≠ 0 ∧ zK h a410 = 0 ∧ ∀ h413 : ZH, h413 = (zmk h a410 11 0) → ZcV mX10_init [.ref a410] h413 (fun h415 => ∃ a416 : Nat, a416 ≠ 0 ∧ zK h415 a416 = 0 ∧ ∀ h419 : ZH, h419 = (zmk h415 a416 12 0) → ZcV mX11_init [.ref a416] h419 (fun h421 => Zt mL_law (zPI ψ) 599816 7259442 18 [some (.ref l0), some (.ref a410), some (.ref a416), some (.int 0)] [] h421))) : ZcI mL_law [.ref l0] h ψ := by
  refine Zc.intro (L := [some (.ref l0), none, none, none]) (show plainName RL = true by decide) rfl (Nat.le_of_ble_eq_true rfl) ?_
  show Zt _ _ 600000 7302250 _ _ _ _
  obtain ⟨a410, g411, g412, hF⟩ := hF
  refine z_new (rc := 599999) (rs := 7302235) (a := a410) (c := 10) (r := (RX10, TX10, 15)) (q := 3) dL_law_0 rfl cl_L_7 ni_X10 ii_X10 g411 g412 rfl ?_
  refine z_nameH (fun h413 eh414 => ?_)
  have hF := hF h413 eh414
  refine z_dup (q := 4) dL_law_3 rfl rfl ?_
  refine z_callCV (rc := 599859) (rs := 7301106) (b := a410) (av := []) (q := 7) hF dL_law_4 ml_L_9 ok_X10_init rfl in_X10_init rfl rfl (Nat.le_of_ble_eq_true rfl) (by decide) (Nat.le_of_ble_eq_true rfl) rfl rfl rfl rfl (fun h415 hF => ?_)
  refine z_astore_n (q := 8) (L' := [some (.ref l0), some (.ref a410), none, none]) dL_law_7 rfl (Nat.le_of_ble_eq_true rfl) rfl rfl rfl ?_
  obtain ⟨a416, g417, g418, hF⟩ := hF
  refine z_new (rc := 599858) (rs := 7301052) (a := a416) (c := 11) (r := (RX11, TX11, 54)) (q := 11) dL_law_8 rfl cl_L_10 ni_X11 ii_X11 g417 g418 rfl ?_
  refine z_nameH (fun h419 eh420 => ?_)
  have hF := hF h419 eh420
  refine z_dup (q := 12) dL_law_11 rfl rfl ?_
  refine z_callCV (rc := 599816) (rs := 7259442) (b := a416) (av := []) (q := 15) hF dL_law_12 ml_L_12 ok_X11_init rfl in_X11_init rfl rfl (Nat.le_of_ble_eq_true rfl) (by decide) (Nat.le_of_ble_eq_true rfl) rfl rfl rfl rfl (fun h421 hF => ?_)
  refine z_astore_n (q := 16) (L' := [some (.ref l0), some (.ref a410), some (.ref a416), none]) dL_law_15 rfl (Nat.le_of_ble_eq_true rfl) rfl rfl rfl ?_
  refine z_iconst (q := 17) (v := 0) dL_law_16 (by decide) rfl ?_
  refine z_istore_n (q := 18) (L' := [some (.ref l0), some (.ref a410), some (.ref a416), some (.int 0)]) dL_law_17 rfl (Nat.le_of_ble_eq_true rfl) rfl rfl rfl ?_
  exact hF
