set_option maxRecDepth 100000 in
set_option maxHeartbeats 4000000 in
theorem wX11_init_404 {ψ : ZH → Prop} {l0 : Nat} {l1 : Int32} {rc rs : Nat} {h : ZH} (hF : ((3 ≤ l1 → ψ h) ∧ (¬ 3 ≤ l1 → (zK h l0 = 12) ∧ ((zR h l0 20) ≠ 0) ∧ (zK h (zR h l0 20) = 20) ∧ (vp_in l1 (zN h (zR h l0 20))) ∧ Zt mX11_init (zPV ψ) rc rs 404 [some (.ref l0), some (.int (l1 + 1))] [] (zsI h (zR h l0 20) (Int32.toNatClampNeg l1) (-6))))) : Zt mX11_init (zPV ψ) rc rs 404 [some (.ref l0), some (.int l1)] [] h := by
  refine z_iload_n (q := 405) dX11_init_404 rfl rfl rfl ?_
  refine z_iconst (q := 406) (v := 3) dX11_init_405 (by decide) rfl ?_
  refine z_icmp_ge (t := 423) (q := 409) dX11_init_406 (by decide) rfl (fun hc => ?_) (fun hc => ?_)
  · have hF := hF.1 hc
    exact z_return dX11_init_423 rfl ⟨rfl, hF⟩
  · have hF := hF.2 hc
    refine z_aload_n (q := 410) dX11_init_409 rfl rfl rfl ?_
    obtain ⟨g1, hF⟩ := hF
    obtain ⟨g2, hF⟩ := hF
    refine z_getR (c := 11) (k := 20) (r := (RX11, TX11, 54)) (q := 413) dX11_init_410 rfl (by decide) fl_X11_65 rfl g1 g2 rfl ?_
    refine z_iload_n (q := 414) dX11_init_413 rfl rfl rfl ?_
    refine z_bipush (q := 416) (v := (-6)) dX11_init_414 (by decide) rfl ?_
    obtain ⟨g3, hF⟩ := hF
    obtain ⟨g4, hF⟩ := hF
    refine y_iast (j := (Int32.toNatClampNeg l1)) (q := 417) dX11_init_416 g3 g4 rfl rfl ?_
    refine z_iinc (q := 420) (v := (l1 + 1)) (L' := [some (.ref l0), some (.int (l1 + 1))]) dX11_init_417 rfl rfl (Nat.le_of_ble_eq_true rfl) rfl rfl rfl ?_
    refine z_goto (q := 404) dX11_init_420 (by decide) ?_
    exact hF
set_option maxRecDepth 100000 in
set_option maxHeartbeats 4000000 in
theorem wX11_init_382 {ψ : ZH → Prop} {l0 : Nat} {l1 : Int32} {rc rs : Nat} {h : ZH} (hF : ((15 ≤ l1 → Zt mX11_init (zPV ψ) rc rs 404 [some (.ref l0), some (.int 0)] [] h) ∧ (¬ 15 ≤ l1 → (zK h l0 = 12) ∧ ((zR h l0 44) ≠ 0) ∧ (zK h (zR h l0 44) = 20) ∧ (vp_in l1 (zN h (zR h l0 44))) ∧ Zt mX11_init (zPV ψ) rc rs 382 [some (.ref l0), some (.int (l1 + 1))] [] (zsI h (zR h l0 44) (Int32.toNatClampNeg l1) 100)))) : Zt mX11_init (zPV ψ) rc rs 382 [some (.ref l0), some (.int l1)] [] h := by
  refine z_iload_n (q := 383) dX11_init_382 rfl rfl rfl ?_
  refine z_bipush (q := 385) (v := 15) dX11_init_383 (by decide) rfl ?_
  refine z_icmp_ge (t := 402) (q := 388) dX11_init_385 (by decide) rfl (fun hc => ?_) (fun hc => ?_)
  · have hF := hF.1 hc
    refine z_iconst (q := 403) (v := 0) dX11_init_402 (by decide) rfl ?_
    refine z_istore_n (q := 404) (L' := [some (.ref l0), some (.int 0)]) dX11_init_403 rfl (Nat.le_of_ble_eq_true rfl) rfl rfl rfl ?_
    exact hF
  · have hF := hF.2 hc
    refine z_aload_n (q := 389) dX11_init_388 rfl rfl rfl ?_
    obtain ⟨g5, hF⟩ := hF
    obtain ⟨g6, hF⟩ := hF
    refine z_getR (c := 11) (k := 44) (r := (RX11, TX11, 54)) (q := 392) dX11_init_389 rfl (by decide) fl_X11_114 rfl g5 g6 rfl ?_
    refine z_iload_n (q := 393) dX11_init_392 rfl rfl rfl ?_
    refine z_bipush (q := 395) (v := 100) dX11_init_393 (by decide) rfl ?_
    obtain ⟨g7, hF⟩ := hF
    obtain ⟨g8, hF⟩ := hF
    refine y_iast (j := (Int32.toNatClampNeg l1)) (q := 396) dX11_init_395 g7 g8 rfl rfl ?_
    refine z_iinc (q := 399) (v := (l1 + 1)) (L' := [some (.ref l0), some (.int (l1 + 1))]) dX11_init_396 rfl rfl (Nat.le_of_ble_eq_true rfl) rfl rfl rfl ?_
    refine z_goto (q := 382) dX11_init_399 (by decide) ?_
    exact hF
set_option maxRecDepth 100000 in
set_option maxHeartbeats 4000000 in
theorem wX11_init {ψ : ZH → Prop} {l0 : Nat} {h : ZH} (hF : ∃ a9 : Nat, a9 ≠ 0 ∧ zK h a9 = 0 ∧ ∀ h12 : ZH, h12 = (zmk h a9 20 6) → (zK h12 l0 = 12) ∧ ∃ a15 : Nat, a15 ≠ 0 ∧ zK h12 a15 = 0 ∧ ∀ h18 : ZH, h18 = (zmk (zsR h12 l0 0 a9) a15 20 6) → (zK h18 l0 = 12) ∧ ∃ a21 : Nat, a21 ≠ 0 ∧ zK h18 a21 = 0 ∧ ∀ h24 : ZH, h24 = (zmk (zsR h18 l0 1 a15) a21 20 8) → (zK h24 l0 = 12) ∧ ∃ a27 : Nat, a27 ≠ 0 ∧ zK h24 a27 = 0 ∧ ∀ h30 : ZH, h30 = (zmk (zsR h24 l0 2 a21) a27 20 8) → (zK h30 l0 = 12) ∧ ∃ a33 : Nat, a33 ≠ 0 ∧ zK h30 a33 = 0 ∧ ∀ h36 : ZH, h36 = (zmk (zsR h30 l0 3 a27) a33 20 8) → (zK h36 l0 = 12) ∧ ∃ a39 : Nat, a39 ≠ 0 ∧ zK h36 a39 = 0 ∧ ∀ h42 : ZH, h42 = (zmk (zsR h36 l0 4 a33) a39 20 8) → (zK h42 l0 = 12) ∧ ∃ a45 : Nat, a45 ≠ 0 ∧ zK h42 a45 = 0 ∧ ∀ h48 : ZH, h48 = (zmk (zsR h42 l0 5 a39) a45 20 8) → (zK h48 l0 = 12) ∧ ∃ a51 : Nat, a51 ≠ 0 ∧ zK h48 a51 = 0 ∧ ∀ h54 : ZH, h54 = (zmk (zsR h48 l0 6 a45) a51 21 8) → (zK h54 l0 = 12) ∧ ∃ a57 : Nat, a57 ≠ 0 ∧ zK h54 a57 = 0 ∧ ∀ h60 : ZH, h60 = (zmk (zsR h54 l0 7 a51) a57 20 24) → (zK h60 l0 = 12) ∧ ∃ a63 : Nat, a63 ≠ 0 ∧ zK h60 a63 = 0 ∧ ∀ h66 : ZH, h66 = (zmk (zsR h60 l0 8 a57) a63 20 24) → (zK h66 l0 = 12) ∧ ∃ a69 : Nat, a69 ≠ 0 ∧ zK h66 a69 = 0 ∧ ∀ h72 : ZH, h72 = (zmk (zsR h66 l0 10 a63) a69 20 24) → (zK h72 l0 = 12) ∧ ∃ a75 : Nat, a75 ≠ 0 ∧ zK h72 a75 = 0 ∧ ∀ h78 : ZH, h78 = (zmk (zsR h72 l0 11 a69) a75 20 24) → (zK h78 l0 = 12) ∧ ∃ a81 : Nat, a81 ≠ 0 ∧ zK h78 a81 = 0 ∧ ∀ h84 : ZH, h84 = (zmk (zsR h78 l0 12 a75) a81 20 24) → (zK h84 l0 = 12) ∧ ∃ a87 : Nat, a87 ≠ 0 ∧ zK h84 a87 = 0 ∧ ∀ h90 : ZH, h90 = (zmk (zsR h84 l0 13 a81) a87 20 24) → (zK h90 l0 = 12) ∧ ∃ a93 : Nat, a93 ≠ 0 ∧ zK h90 a93 = 0 ∧ ∀ h96 : ZH, h96 = (zmk (zsR h90 l0 14 a87) a93 21 24) → (zK h96 l0 = 12) ∧ ∃ a99 : Nat, a99 ≠ 0 ∧ zK h96 a99 = 0 ∧ ∀ h102 : ZH, h102 = (zmk (zsR h96 l0 15 a93) a99 20 24) → (zK h102 l0 = 12) ∧ ∃ a105 : Nat, a105 ≠ 0 ∧ zK h102 a105 = 0 ∧ ∀ h108 : ZH, h108 = (zmk (zsR h102 l0 16 a99) a105 20 7) → (zK h108 l0 = 12) ∧ ∃ a111 : Nat, a111 ≠ 0 ∧ zK h108 a111 = 0 ∧ ∀ h114 : ZH, h114 = (zmk (zsR h108 l0 18 a105) a111 20 160) → (zK h114 l0 = 12) ∧ ∃ a117 : Nat, a117 ≠ 0 ∧ zK h114 a117 = 0 ∧ ∀ h120 : ZH, h120 = (zmk (zsR h114 l0 19 a111) a117 20 4) → (zK h120 l0 = 12) ∧ ∃ a123 : Nat, a123 ≠ 0 ∧ zK h120 a123 = 0 ∧ ∀ h126 : ZH, h126 = (zmk (zsR h120 l0 20 a117) a123 20 6) → (zK h126 l0 = 12) ∧ ∃ a129 : Nat, a129 ≠ 0 ∧ zK h126 a129 = 0 ∧ ∀ h132 : ZH, h132 = (zmk (zsR h126 l0 21 a123) a129 20 24) → (zK h132 l0 = 12) ∧ ∃ a135 : Nat, a135 ≠ 0 ∧ zK h132 a135 = 0 ∧ ∀ h138 : ZH, h138 = (zmk (zsR h132 l0 23 a129) a135 20 12) → (zK h138 l0 = 12) ∧ ∃ a141 : Nat, a141 ≠ 0 ∧ zK h138 a141 = 0 ∧ ∀ h144 : ZH, h144 = (zmk (zsR h138 l0 26 a135) a141 20 12) → (zK h144 l0 = 12) ∧ ∃ a147 : Nat, a147 ≠ 0 ∧ zK h144 a147 = 0 ∧ ∀ h150 : ZH, h150 = (zmk (zsR h144 l0 27 a141) a147 20 40960) → (zK h150 l0 = 12) ∧ ∃ a153 : Nat, a153 ≠ 0 ∧ zK h150 a153 = 0 ∧ ∀ h156 : ZH, h156 = (zmk (zsR h150 l0 29 a147) a153 20 9) → (zK h156 l0 = 12) ∧ ∃ a159 : Nat, a159 ≠ 0 ∧ zK h156 a159 = 0 ∧ ∀ h162 : ZH, h162 = (zmk (zsR h156 l0 30 a153) a159 21 9) → (zK h162 l0 = 12) ∧ ∃ a165 : Nat, a165 ≠ 0 ∧ zK h162 a165 = 0 ∧ ∀ h168 : ZH, h168 = (zmk (zsR h162 l0 31 a159) a165 20 8) → (zK h168 l0 = 12) ∧ ∃ a171 : Nat, a171 ≠ 0 ∧ zK h168 a171 = 0 ∧ ∀ h174 : ZH, h174 = (zmk (zsR h168 l0 32 a165) a171 20 8) → (zK h174 l0 = 12) ∧ ∃ a177 : Nat, a177 ≠ 0 ∧ zK h174 a177 = 0 ∧ ∀ h180 : ZH, h180 = (zmk (zsR h174 l0 33 a171) a177 21 8) → (zK h180 l0 = 12) ∧ ∃ a183 : Nat, a183 ≠ 0 ∧ zK h180 a183 = 0 ∧ ∀ h186 : ZH, h186 = (zmk (zsR h180 l0 34 a177) a183 20 8) → (zK h186 l0 = 12) ∧ ∃ a189 : Nat, a189 ≠ 0 ∧ zK h186 a189 = 0 ∧ ∀ h192 : ZH, h192 = (zmk (zsR h186 l0 35 a183) a189 20 12) → (zK h192 l0 = 12) ∧ ∃ a195 : Nat, a195 ≠ 0 ∧ zK h192 a195 = 0 ∧ ∀ h198 : ZH, h198 = (zmk (zsR h192 l0 36 a189) a195 20 12) → (zK h198 l0 = 12) ∧ ∃ a201 : Nat, a201 ≠ 0 ∧ zK h198 a201 = 0 ∧ ∀ h204 : ZH, h204 = (zmk (zsR h198 l0 37 a195) a201 20 12) → (zK h204 l0 = 12) ∧ ∃ a207 : Nat, a207 ≠ 0 ∧ zK h204 a207 = 0 ∧ ∀ h210 : ZH, h210 = (zmk (zsR h204 l0 38 a201) a207 20 8) → (zK h210 l0 = 12) ∧ ∃ a213 : Nat, a213 ≠ 0 ∧ zK h210 a213 = 0 ∧ ∀ h216 : ZH, h216 = (zmk (zsR h210 l0 43 a207) a213 20 15) → (zK h216 l0 = 12) ∧ ∃ a219 : Nat, a219 ≠ 0 ∧ zK h216 a219 = 0 ∧ ∀ h222 : ZH, h222 = (zmk (zsR h216 l0 44 a213) a219 20 8) → (zK h222 l0 = 12) ∧ ∃ a225 : Nat, a225 ≠ 0 ∧ zK h222 a225 = 0 ∧ ∀ h228 : ZH, h228 = (zmk (zsR h222 l0 45 a219) a225 20 8) → (zK h228 l0 = 12) ∧ ∃ a231 : Nat, a231 ≠ 0 ∧ zK h228 a231 = 0 ∧ ∀ h234 : ZH, h234 = (zmk (zsR h228 l0 47 a225) a231 20 8) → (zK h234 l0 = 12) ∧ ∃ a237 : Nat, a237 ≠ 0 ∧ zK h234 a237 = 0 ∧ ∀ h240 : ZH, h240 = (zmk (zsR h234 l0 48 a231) a237 20 10) → (zK h240 l0 = 12) ∧ ∃ a243 : Nat, a243 ≠ 0 ∧ zK h240 a243 = 0 ∧ ∀ h246 : ZH, h246 = (zmk (zsR h240 l0 49 a237) a243 20 10) → (zK h246 l0 = 12) ∧ ∃ a249 : Nat, a249 ≠ 0 ∧ zK h246 a249 = 0 ∧ ∀ h252 : ZH, h252 = (zmk (zsR h246 l0 50 a243) a249 20 10) → (zK h252 l0 = 12) ∧ ∃ a255 : Nat, a255 ≠ 0 ∧ zK h252 a255 = 0 ∧ ∀ h258 : ZH, h258 = (zmk (zsR h252 l0 51 a249) a255 20 10) → (zK h258 l0 = 12) ∧ ∀ h261 : ZH, h261 = (zsR h258 l0 52 a255) → (zK h261 l0 = 12) ∧ ((zR h261 l0 18) ≠ 0) ∧ (zK h261 (zR h261 l0 18) = 20) ∧ (0 < zN h261 (zR h261 l0 18)) ∧ (1 < zN h261 (zR h261 l0 18)) ∧ (4 < zN h261 (zR h261 l0 18)) ∧ (5 < zN h261 (zR h261 l0 18)) ∧ (6 < zN h261 (zR h261 l0 18)) ∧ Zt mX11_init (zPV ψ) 0 0 382 [some (.ref l0), some (.int 0)] [] (zsI (zsI (zsI (zsI (zsI h261 (zR h261 l0 18) 0 60) (zR h261 l0 18) 1 30) (zR h261 l0 18) 4 8) (zR h261 l0 18) 5 3) (zR h261 l0 18) 6 10)) : ZcV mX11_init [.ref l0] h ψ := by
  refine Zc.intro (L := [some (.ref l0), none]) (show plainName RX11 = true by decide) rfl (Nat.le_of_ble_eq_true rfl) ?_
  show Zt _ _ 42 41610 _ _ _ _
  refine z_aload_n (q := 1) dX11_init_0 rfl rfl rfl ?_
  refine z_objInit (q := 4) dX11_init_1 ow_X11_1 (Nat.le_of_ble_eq_true rfl) (by decide) rfl ?_
  refine z_aload_n (q := 5) dX11_init_4 rfl rfl rfl ?_
  refine z_bipush (q := 7) (v := 6) dX11_init_5 (by decide) rfl ?_
  obtain ⟨a9, g10, g11, hF⟩ := hF
  refine z_newa (rc := 41) (rs := 41604) (a := a9) (kd := 20) (N := 6) (q := 9) dX11_init_7 rfl (by decide) ac_20 (by decide) (by decide) (by decide) g10 g11 rfl ?_
  refine z_nameH (fun h12 eh13 => ?_)
  have hF := hF h12 eh13
  obtain ⟨g14, hF⟩ := hF
  refine z_putRF (c := 11) (k := 0) (r := (RX11, TX11, 54)) (q := 12) dX11_init_9 rfl (by decide) fw_X11_7 rfl rfl rfl rfl g14 rfl ?_
  refine z_aload_n (q := 13) dX11_init_12 rfl rfl rfl ?_
  refine z_bipush (q := 15) (v := 6) dX11_init_13 (by decide) rfl ?_
  obtain ⟨a15, g16, g17, hF⟩ := hF
  refine z_newa (rc := 40) (rs := 41598) (a := a15) (kd := 20) (N := 6) (q := 17) dX11_init_15 rfl (by decide) ac_20 (by decide) (by decide) (by decide) g16 g17 rfl ?_
  refine z_nameH (fun h18 eh19 => ?_)
  have hF := hF h18 eh19
  obtain ⟨g20, hF⟩ := hF
  refine z_putRF (c := 11) (k := 1) (r := (RX11, TX11, 54)) (q := 20) dX11_init_17 rfl (by decide) fw_X11_13 rfl rfl rfl rfl g20 rfl ?_
  refine z_aload_n (q := 21) dX11_init_20 rfl rfl rfl ?_
  refine z_bipush (q := 23) (v := 8) dX11_init_21 (by decide) rfl ?_
  obtain ⟨a21, g22, g23, hF⟩ := hF
  refine z_newa (rc := 39) (rs := 41590) (a := a21) (kd := 20) (N := 8) (q := 25) dX11_init_23 rfl (by decide) ac_20 (by decide) (by decide) (by decide) g22 g23 rfl ?_
  refine z_nameH (fun h24 eh25 => ?_)
  have hF := hF h24 eh25
  obtain ⟨g26, hF⟩ := hF
  refine z_putRF (c := 11) (k := 2) (r := (RX11, TX11, 54)) (q := 28) dX11_init_25 rfl (by decide) fw_X11_16 rfl rfl rfl rfl g26 rfl ?_
  refine z_aload_n (q := 29) dX11_init_28 rfl rfl rfl ?_
  refine z_bipush (q := 31) (v := 8) dX11_init_29 (by decide) rfl ?_
  obtain ⟨a27, g28, g29, hF⟩ := hF
  refine z_newa (rc := 38) (rs := 41582) (a := a27) (kd := 20) (N := 8) (q := 33) dX11_init_31 rfl (by decide) ac_20 (by decide) (by decide) (by decide) g28 g29 rfl ?_
  refine z_nameH (fun h30 eh31 => ?_)
  have hF := hF h30 eh31
  obtain ⟨g32, hF⟩ := hF
  refine z_putRF (c := 11) (k := 3) (r := (RX11, TX11, 54)) (q := 36) dX11_init_33 rfl (by decide) fw_X11_19 rfl rfl rfl rfl g32 rfl ?_
  refine z_aload_n (q := 37) dX11_init_36 rfl rfl rfl ?_
  refine z_bipush (q := 39) (v := 8) dX11_init_37 (by decide) rfl ?_
  obtain ⟨a33, g34, g35, hF⟩ := hF
  refine z_newa (rc := 37) (rs := 41574) (a := a33) (kd := 20) (N := 8) (q := 41) dX11_init_39 rfl (by decide) ac_20 (by decide) (by decide) (by decide) g34 g35 rfl ?_
  refine z_nameH (fun h36 eh37 => ?_)
  have hF := hF h36 eh37
  obtain ⟨g38, hF⟩ := hF
  refine z_putRF (c := 11) (k := 4) (r := (RX11, TX11, 54)) (q := 44) dX11_init_41 rfl (by decide) fw_X11_22 rfl rfl rfl rfl g38 rfl ?_
  refine z_aload_n (q := 45) dX11_init_44 rfl rfl rfl ?_
  refine z_bipush (q := 47) (v := 8) dX11_init_45 (by decide) rfl ?_
  obtain ⟨a39, g40, g41, hF⟩ := hF
  refine z_newa (rc := 36) (rs := 41566) (a := a39) (kd := 20) (N := 8) (q := 49) dX11_init_47 rfl (by decide) ac_20 (by decide) (by decide) (by decide) g40 g41 rfl ?_
  refine z_nameH (fun h42 eh43 => ?_)
  have hF := hF h42 eh43
  obtain ⟨g44, hF⟩ := hF
  refine z_putRF (c := 11) (k := 5) (r := (RX11, TX11, 54)) (q := 52) dX11_init_49 rfl (by decide) fw_X11_25 rfl rfl rfl rfl g44 rfl ?_
  refine z_aload_n (q := 53) dX11_init_52 rfl rfl rfl ?_
  refine z_bipush (q := 55) (v := 8) dX11_init_53 (by decide) rfl ?_
  obtain ⟨a45, g46, g47, hF⟩ := hF
  refine z_newa (rc := 35) (rs := 41558) (a := a45) (kd := 20) (N := 8) (q := 57) dX11_init_55 rfl (by decide) ac_20 (by decide) (by decide) (by decide) g46 g47 rfl ?_
  refine z_nameH (fun h48 eh49 => ?_)
  have hF := hF h48 eh49
  obtain ⟨g50, hF⟩ := hF
  refine z_putRF (c := 11) (k := 6) (r := (RX11, TX11, 54)) (q := 60) dX11_init_57 rfl (by decide) fw_X11_28 rfl rfl rfl rfl g50 rfl ?_
  refine z_aload_n (q := 61) dX11_init_60 rfl rfl rfl ?_
  refine z_bipush (q := 63) (v := 8) dX11_init_61 (by decide) rfl ?_
  obtain ⟨a51, g52, g53, hF⟩ := hF
  refine z_newa (rc := 34) (rs := 41550) (a := a51) (kd := 21) (N := 8) (q := 65) dX11_init_63 rfl (by decide) ac_21 (by decide) (by decide) (by decide) g52 g53 rfl ?_
  refine z_nameH (fun h54 eh55 => ?_)
  have hF := hF h54 eh55
  obtain ⟨g56, hF⟩ := hF
  refine z_putRF (c := 11) (k := 7) (r := (RX11, TX11, 54)) (q := 68) dX11_init_65 rfl (by decide) fw_X11_31 rfl rfl rfl rfl g56 rfl ?_
  refine z_aload_n (q := 69) dX11_init_68 rfl rfl rfl ?_
  refine z_bipush (q := 71) (v := 24) dX11_init_69 (by decide) rfl ?_
  obtain ⟨a57, g58, g59, hF⟩ := hF
  refine z_newa (rc := 33) (rs := 41526) (a := a57) (kd := 20) (N := 24) (q := 73) dX11_init_71 rfl (by decide) ac_20 (by decide) (by decide) (by decide) g58 g59 rfl ?_
  refine z_nameH (fun h60 eh61 => ?_)
  have hF := hF h60 eh61
  obtain ⟨g62, hF⟩ := hF
  refine z_putRF (c := 11) (k := 8) (r := (RX11, TX11, 54)) (q := 76) dX11_init_73 rfl (by decide) fw_X11_35 rfl rfl rfl rfl g62 rfl ?_
  refine z_aload_n (q := 77) dX11_init_76 rfl rfl rfl ?_
  refine z_bipush (q := 79) (v := 24) dX11_init_77 (by decide) rfl ?_
  obtain ⟨a63, g64, g65, hF⟩ := hF
  refine z_newa (rc := 32) (rs := 41502) (a := a63) (kd := 20) (N := 24) (q := 81) dX11_init_79 rfl (by decide) ac_20 (by decide) (by decide) (by decide) g64 g65 rfl ?_
  refine z_nameH (fun h66 eh67 => ?_)
  have hF := hF h66 eh67
  obtain ⟨g68, hF⟩ := hF
  refine z_putRF (c := 11) (k := 10) (r := (RX11, TX11, 54)) (q := 84) dX11_init_81 rfl (by decide) fw_X11_38 rfl rfl rfl rfl g68 rfl ?_
  refine z_aload_n (q := 85) dX11_init_84 rfl rfl rfl ?_
  refine z_bipush (q := 87) (v := 24) dX11_init_85 (by decide) rfl ?_
  obtain ⟨a69, g70, g71, hF⟩ := hF
  refine z_newa (rc := 31) (rs := 41478) (a := a69) (kd := 20) (N := 24) (q := 89) dX11_init_87 rfl (by decide) ac_20 (by decide) (by decide) (by decide) g70 g71 rfl ?_
  refine z_nameH (fun h72 eh73 => ?_)
  have hF := hF h72 eh73
  obtain ⟨g74, hF⟩ := hF
  refine z_putRF (c := 11) (k := 11) (r := (RX11, TX11, 54)) (q := 92) dX11_init_89 rfl (by decide) fw_X11_41 rfl rfl rfl rfl g74 rfl ?_
  refine z_aload_n (q := 93) dX11_init_92 rfl rfl rfl ?_
  refine z_bipush (q := 95) (v := 24) dX11_init_93 (by decide) rfl ?_
  obtain ⟨a75, g76, g77, hF⟩ := hF
  refine z_newa (rc := 30) (rs := 41454) (a := a75) (kd := 20) (N := 24) (q := 97) dX11_init_95 rfl (by decide) ac_20 (by decide) (by decide) (by decide) g76 g77 rfl ?_
  refine z_nameH (fun h78 eh79 => ?_)
  have hF := hF h78 eh79
  obtain ⟨g80, hF⟩ := hF
  refine z_putRF (c := 11) (k := 12) (r := (RX11, TX11, 54)) (q := 100) dX11_init_97 rfl (by decide) fw_X11_44 rfl rfl rfl rfl g80 rfl ?_
  refine z_aload_n (q := 101) dX11_init_100 rfl rfl rfl ?_
  refine z_bipush (q := 103) (v := 24) dX11_init_101 (by decide) rfl ?_
  obtain ⟨a81, g82, g83, hF⟩ := hF
  refine z_newa (rc := 29) (rs := 41430) (a := a81) (kd := 20) (N := 24) (q := 105) dX11_init_103 rfl (by decide) ac_20 (by decide) (by decide) (by decide) g82 g83 rfl ?_
  refine z_nameH (fun h84 eh85 => ?_)
  have hF := hF h84 eh85
  obtain ⟨g86, hF⟩ := hF
  refine z_putRF (c := 11) (k := 13) (r := (RX11, TX11, 54)) (q := 108) dX11_init_105 rfl (by decide) fw_X11_47 rfl rfl rfl rfl g86 rfl ?_
  refine z_aload_n (q := 109) dX11_init_108 rfl rfl rfl ?_
  refine z_bipush (q := 111) (v := 24) dX11_init_109 (by decide) rfl ?_
  obtain ⟨a87, g88, g89, hF⟩ := hF
  refine z_newa (rc := 28) (rs := 41406) (a := a87) (kd := 20) (N := 24) (q := 113) dX11_init_111 rfl (by decide) ac_20 (by decide) (by decide) (by decide) g88 g89 rfl ?_
  refine z_nameH (fun h90 eh91 => ?_)
  have hF := hF h90 eh91
  obtain ⟨g92, hF⟩ := hF
  refine z_putRF (c := 11) (k := 14) (r := (RX11, TX11, 54)) (q := 116) dX11_init_113 rfl (by decide) fw_X11_50 rfl rfl rfl rfl g92 rfl ?_
  refine z_aload_n (q := 117) dX11_init_116 rfl rfl rfl ?_
  refine z_bipush (q := 119) (v := 24) dX11_init_117 (by decide) rfl ?_
  obtain ⟨a93, g94, g95, hF⟩ := hF
  refine z_newa (rc := 27) (rs := 41382) (a := a93) (kd := 21) (N := 24) (q := 121) dX11_init_119 rfl (by decide) ac_21 (by decide) (by decide) (by decide) g94 g95 rfl ?_
  refine z_nameH (fun h96 eh97 => ?_)
  have hF := hF h96 eh97
  obtain ⟨g98, hF⟩ := hF
  refine z_putRF (c := 11) (k := 15) (r := (RX11, TX11, 54)) (q := 124) dX11_init_121 rfl (by decide) fw_X11_53 rfl rfl rfl rfl g98 rfl ?_
  refine z_aload_n (q := 125) dX11_init_124 rfl rfl rfl ?_
  refine z_bipush (q := 127) (v := 24) dX11_init_125 (by decide) rfl ?_
  obtain ⟨a99, g100, g101, hF⟩ := hF
  refine z_newa (rc := 26) (rs := 41358) (a := a99) (kd := 20) (N := 24) (q := 129) dX11_init_127 rfl (by decide) ac_20 (by decide) (by decide) (by decide) g100 g101 rfl ?_
  refine z_nameH (fun h102 eh103 => ?_)
  have hF := hF h102 eh103
  obtain ⟨g104, hF⟩ := hF
  refine z_putRF (c := 11) (k := 16) (r := (RX11, TX11, 54)) (q := 132) dX11_init_129 rfl (by decide) fw_X11_56 rfl rfl rfl rfl g104 rfl ?_
  refine z_aload_n (q := 133) dX11_init_132 rfl rfl rfl ?_
  refine z_bipush (q := 135) (v := 7) dX11_init_133 (by decide) rfl ?_
  obtain ⟨a105, g106, g107, hF⟩ := hF
  refine z_newa (rc := 25) (rs := 41351) (a := a105) (kd := 20) (N := 7) (q := 137) dX11_init_135 rfl (by decide) ac_20 (by decide) (by decide) (by decide) g106 g107 rfl ?_
  refine z_nameH (fun h108 eh109 => ?_)
  have hF := hF h108 eh109
  obtain ⟨g110, hF⟩ := hF
  refine z_putRF (c := 11) (k := 18) (r := (RX11, TX11, 54)) (q := 140) dX11_init_137 rfl (by decide) fw_X11_59 rfl rfl rfl rfl g110 rfl ?_
  refine z_aload_n (q := 141) dX11_init_140 rfl rfl rfl ?_
  refine z_sipush (q := 144) (v := 160) dX11_init_141 (by decide) rfl ?_
  obtain ⟨a111, g112, g113, hF⟩ := hF
  refine z_newa (rc := 24) (rs := 41191) (a := a111) (kd := 20) (N := 160) (q := 146) dX11_init_144 rfl (by decide) ac_20 (by decide) (by decide) (by decide) g112 g113 rfl ?_
  refine z_nameH (fun h114 eh115 => ?_)
  have hF := hF h114 eh115
  obtain ⟨g116, hF⟩ := hF
  refine z_putRF (c := 11) (k := 19) (r := (RX11, TX11, 54)) (q := 149) dX11_init_146 rfl (by decide) fw_X11_62 rfl rfl rfl rfl g116 rfl ?_
  refine z_aload_n (q := 150) dX11_init_149 rfl rfl rfl ?_
  refine z_iconst (q := 151) (v := 4) dX11_init_150 (by decide) rfl ?_
  obtain ⟨a117, g118, g119, hF⟩ := hF
  refine z_newa (rc := 23) (rs := 41187) (a := a117) (kd := 20) (N := 4) (q := 153) dX11_init_151 rfl (by decide) ac_20 (by decide) (by decide) (by decide) g118 g119 rfl ?_
  refine z_nameH (fun h120 eh121 => ?_)
  have hF := hF h120 eh121
  obtain ⟨g122, hF⟩ := hF
  refine z_putRF (c := 11) (k := 20) (r := (RX11, TX11, 54)) (q := 156) dX11_init_153 rfl (by decide) fw_X11_65 rfl rfl rfl rfl g122 rfl ?_
  refine z_aload_n (q := 157) dX11_init_156 rfl rfl rfl ?_
  refine z_bipush (q := 159) (v := 6) dX11_init_157 (by decide) rfl ?_
  obtain ⟨a123, g124, g125, hF⟩ := hF
  refine z_newa (rc := 22) (rs := 41181) (a := a123) (kd := 20) (N := 6) (q := 161) dX11_init_159 rfl (by decide) ac_20 (by decide) (by decide) (by decide) g124 g125 rfl ?_
  refine z_nameH (fun h126 eh127 => ?_)
  have hF := hF h126 eh127
  obtain ⟨g128, hF⟩ := hF
  refine z_putRF (c := 11) (k := 21) (r := (RX11, TX11, 54)) (q := 164) dX11_init_161 rfl (by decide) fw_X11_68 rfl rfl rfl rfl g128 rfl ?_
  refine z_aload_n (q := 165) dX11_init_164 rfl rfl rfl ?_
  refine z_bipush (q := 167) (v := 24) dX11_init_165 (by decide) rfl ?_
  obtain ⟨a129, g130, g131, hF⟩ := hF
  refine z_newa (rc := 21) (rs := 41157) (a := a129) (kd := 20) (N := 24) (q := 169) dX11_init_167 rfl (by decide) ac_20 (by decide) (by decide) (by decide) g130 g131 rfl ?_
  refine z_nameH (fun h132 eh133 => ?_)
  have hF := hF h132 eh133
  obtain ⟨g134, hF⟩ := hF
  refine z_putRF (c := 11) (k := 23) (r := (RX11, TX11, 54)) (q := 172) dX11_init_169 rfl (by decide) fw_X11_71 rfl rfl rfl rfl g134 rfl ?_
  refine z_aload_n (q := 173) dX11_init_172 rfl rfl rfl ?_
  refine z_bipush (q := 175) (v := 12) dX11_init_173 (by decide) rfl ?_
  obtain ⟨a135, g136, g137, hF⟩ := hF
  refine z_newa (rc := 20) (rs := 41145) (a := a135) (kd := 20) (N := 12) (q := 177) dX11_init_175 rfl (by decide) ac_20 (by decide) (by decide) (by decide) g136 g137 rfl ?_
  refine z_nameH (fun h138 eh139 => ?_)
  have hF := hF h138 eh139
  obtain ⟨g140, hF⟩ := hF
  refine z_putRF (c := 11) (k := 26) (r := (RX11, TX11, 54)) (q := 180) dX11_init_177 rfl (by decide) fw_X11_74 rfl rfl rfl rfl g140 rfl ?_
  refine z_aload_n (q := 181) dX11_init_180 rfl rfl rfl ?_
  refine z_bipush (q := 183) (v := 12) dX11_init_181 (by decide) rfl ?_
  obtain ⟨a141, g142, g143, hF⟩ := hF
  refine z_newa (rc := 19) (rs := 41133) (a := a141) (kd := 20) (N := 12) (q := 185) dX11_init_183 rfl (by decide) ac_20 (by decide) (by decide) (by decide) g142 g143 rfl ?_
  refine z_nameH (fun h144 eh145 => ?_)
  have hF := hF h144 eh145
  obtain ⟨g146, hF⟩ := hF
  refine z_putRF (c := 11) (k := 27) (r := (RX11, TX11, 54)) (q := 188) dX11_init_185 rfl (by decide) fw_X11_77 rfl rfl rfl rfl g146 rfl ?_
  refine z_aload_n (q := 189) dX11_init_188 rfl rfl rfl ?_
  refine z_ldc (q := 191) (v := 40960) dX11_init_189 cw_X11_80 rfl ?_
  obtain ⟨a147, g148, g149, hF⟩ := hF
  refine z_newa (rc := 18) (rs := 173) (a := a147) (kd := 20) (N := 40960) (q := 193) dX11_init_191 rfl (by decide) ac_20 (by decide) (by decide) (by decide) g148 g149 rfl ?_
  refine z_nameH (fun h150 eh151 => ?_)
  have hF := hF h150 eh151
  obtain ⟨g152, hF⟩ := hF
  refine z_putRF (c := 11) (k := 29) (r := (RX11, TX11, 54)) (q := 196) dX11_init_193 rfl (by decide) fw_X11_81 rfl rfl rfl rfl g152 rfl ?_
  refine z_aload_n (q := 197) dX11_init_196 rfl rfl rfl ?_
  refine z_bipush (q := 199) (v := 9) dX11_init_197 (by decide) rfl ?_
  obtain ⟨a153, g154, g155, hF⟩ := hF
  refine z_newa (rc := 17) (rs := 164) (a := a153) (kd := 20) (N := 9) (q := 201) dX11_init_199 rfl (by decide) ac_20 (by decide) (by decide) (by decide) g154 g155 rfl ?_
  refine z_nameH (fun h156 eh157 => ?_)
  have hF := hF h156 eh157
  obtain ⟨g158, hF⟩ := hF
  refine z_putRF (c := 11) (k := 30) (r := (RX11, TX11, 54)) (q := 204) dX11_init_201 rfl (by decide) fw_X11_84 rfl rfl rfl rfl g158 rfl ?_
  refine z_aload_n (q := 205) dX11_init_204 rfl rfl rfl ?_
  refine z_bipush (q := 207) (v := 9) dX11_init_205 (by decide) rfl ?_
  obtain ⟨a159, g160, g161, hF⟩ := hF
  refine z_newa (rc := 16) (rs := 155) (a := a159) (kd := 21) (N := 9) (q := 209) dX11_init_207 rfl (by decide) ac_21 (by decide) (by decide) (by decide) g160 g161 rfl ?_
  refine z_nameH (fun h162 eh163 => ?_)
  have hF := hF h162 eh163
  obtain ⟨g164, hF⟩ := hF
  refine z_putRF (c := 11) (k := 31) (r := (RX11, TX11, 54)) (q := 212) dX11_init_209 rfl (by decide) fw_X11_87 rfl rfl rfl rfl g164 rfl ?_
  refine z_aload_n (q := 213) dX11_init_212 rfl rfl rfl ?_
  refine z_bipush (q := 215) (v := 8) dX11_init_213 (by decide) rfl ?_
  obtain ⟨a165, g166, g167, hF⟩ := hF
  refine z_newa (rc := 15) (rs := 147) (a := a165) (kd := 20) (N := 8) (q := 217) dX11_init_215 rfl (by decide) ac_20 (by decide) (by decide) (by decide) g166 g167 rfl ?_
  refine z_nameH (fun h168 eh169 => ?_)
  have hF := hF h168 eh169
  obtain ⟨g170, hF⟩ := hF
  refine z_putRF (c := 11) (k := 32) (r := (RX11, TX11, 54)) (q := 220) dX11_init_217 rfl (by decide) fw_X11_90 rfl rfl rfl rfl g170 rfl ?_
  refine z_aload_n (q := 221) dX11_init_220 rfl rfl rfl ?_
  refine z_bipush (q := 223) (v := 8) dX11_init_221 (by decide) rfl ?_
  obtain ⟨a171, g172, g173, hF⟩ := hF
  refine z_newa (rc := 14) (rs := 139) (a := a171) (kd := 20) (N := 8) (q := 225) dX11_init_223 rfl (by decide) ac_20 (by decide) (by decide) (by decide) g172 g173 rfl ?_
  refine z_nameH (fun h174 eh175 => ?_)
  have hF := hF h174 eh175
  obtain ⟨g176, hF⟩ := hF
  refine z_putRF (c := 11) (k := 33) (r := (RX11, TX11, 54)) (q := 228) dX11_init_225 rfl (by decide) fw_X11_93 rfl rfl rfl rfl g176 rfl ?_
  refine z_aload_n (q := 229) dX11_init_228 rfl rfl rfl ?_
  refine z_bipush (q := 231) (v := 8) dX11_init_229 (by decide) rfl ?_
  obtain ⟨a177, g178, g179, hF⟩ := hF
  refine z_newa (rc := 13) (rs := 131) (a := a177) (kd := 21) (N := 8) (q := 233) dX11_init_231 rfl (by decide) ac_21 (by decide) (by decide) (by decide) g178 g179 rfl ?_
  refine z_nameH (fun h180 eh181 => ?_)
  have hF := hF h180 eh181
  obtain ⟨g182, hF⟩ := hF
  refine z_putRF (c := 11) (k := 34) (r := (RX11, TX11, 54)) (q := 236) dX11_init_233 rfl (by decide) fw_X11_96 rfl rfl rfl rfl g182 rfl ?_
  refine z_aload_n (q := 237) dX11_init_236 rfl rfl rfl ?_
  refine z_bipush (q := 239) (v := 8) dX11_init_237 (by decide) rfl ?_
  obtain ⟨a183, g184, g185, hF⟩ := hF
  refine z_newa (rc := 12) (rs := 123) (a := a183) (kd := 20) (N := 8) (q := 241) dX11_init_239 rfl (by decide) ac_20 (by decide) (by decide) (by decide) g184 g185 rfl ?_
  refine z_nameH (fun h186 eh187 => ?_)
  have hF := hF h186 eh187
  obtain ⟨g188, hF⟩ := hF
  refine z_putRF (c := 11) (k := 35) (r := (RX11, TX11, 54)) (q := 244) dX11_init_241 rfl (by decide) fw_X11_99 rfl rfl rfl rfl g188 rfl ?_
  refine z_aload_n (q := 245) dX11_init_244 rfl rfl rfl ?_
  refine z_bipush (q := 247) (v := 12) dX11_init_245 (by decide) rfl ?_
  obtain ⟨a189, g190, g191, hF⟩ := hF
  refine z_newa (rc := 11) (rs := 111) (a := a189) (kd := 20) (N := 12) (q := 249) dX11_init_247 rfl (by decide) ac_20 (by decide) (by decide) (by decide) g190 g191 rfl ?_
  refine z_nameH (fun h192 eh193 => ?_)
  have hF := hF h192 eh193
  obtain ⟨g194, hF⟩ := hF
  refine z_putRF (c := 11) (k := 36) (r := (RX11, TX11, 54)) (q := 252) dX11_init_249 rfl (by decide) fw_X11_102 rfl rfl rfl rfl g194 rfl ?_
  refine z_aload_n (q := 253) dX11_init_252 rfl rfl rfl ?_
  refine z_bipush (q := 255) (v := 12) dX11_init_253 (by decide) rfl ?_
  obtain ⟨a195, g196, g197, hF⟩ := hF
  refine z_newa (rc := 10) (rs := 99) (a := a195) (kd := 20) (N := 12) (q := 257) dX11_init_255 rfl (by decide) ac_20 (by decide) (by decide) (by decide) g196 g197 rfl ?_
  refine z_nameH (fun h198 eh199 => ?_)
  have hF := hF h198 eh199
  obtain ⟨g200, hF⟩ := hF
  refine z_putRF (c := 11) (k := 37) (r := (RX11, TX11, 54)) (q := 260) dX11_init_257 rfl (by decide) fw_X11_105 rfl rfl rfl rfl g200 rfl ?_
  refine z_aload_n (q := 261) dX11_init_260 rfl rfl rfl ?_
  refine z_bipush (q := 263) (v := 12) dX11_init_261 (by decide) rfl ?_
  obtain ⟨a201, g202, g203, hF⟩ := hF
  refine z_newa (rc := 9) (rs := 87) (a := a201) (kd := 20) (N := 12) (q := 265) dX11_init_263 rfl (by decide) ac_20 (by decide) (by decide) (by decide) g202 g203 rfl ?_
  refine z_nameH (fun h204 eh205 => ?_)
  have hF := hF h204 eh205
  obtain ⟨g206, hF⟩ := hF
  refine z_putRF (c := 11) (k := 38) (r := (RX11, TX11, 54)) (q := 268) dX11_init_265 rfl (by decide) fw_X11_108 rfl rfl rfl rfl g206 rfl ?_
  refine z_aload_n (q := 269) dX11_init_268 rfl rfl rfl ?_
  refine z_bipush (q := 271) (v := 8) dX11_init_269 (by decide) rfl ?_
  obtain ⟨a207, g208, g209, hF⟩ := hF
  refine z_newa (rc := 8) (rs := 79) (a := a207) (kd := 20) (N := 8) (q := 273) dX11_init_271 rfl (by decide) ac_20 (by decide) (by decide) (by decide) g208 g209 rfl ?_
  refine z_nameH (fun h210 eh211 => ?_)
  have hF := hF h210 eh211
  obtain ⟨g212, hF⟩ := hF
  refine z_putRF (c := 11) (k := 43) (r := (RX11, TX11, 54)) (q := 276) dX11_init_273 rfl (by decide) fw_X11_111 rfl rfl rfl rfl g212 rfl ?_
  refine z_aload_n (q := 277) dX11_init_276 rfl rfl rfl ?_
  refine z_bipush (q := 279) (v := 15) dX11_init_277 (by decide) rfl ?_
  obtain ⟨a213, g214, g215, hF⟩ := hF
  refine z_newa (rc := 7) (rs := 64) (a := a213) (kd := 20) (N := 15) (q := 281) dX11_init_279 rfl (by decide) ac_20 (by decide) (by decide) (by decide) g214 g215 rfl ?_
  refine z_nameH (fun h216 eh217 => ?_)
  have hF := hF h216 eh217
  obtain ⟨g218, hF⟩ := hF
  refine z_putRF (c := 11) (k := 44) (r := (RX11, TX11, 54)) (q := 284) dX11_init_281 rfl (by decide) fw_X11_114 rfl rfl rfl rfl g218 rfl ?_
  refine z_aload_n (q := 285) dX11_init_284 rfl rfl rfl ?_
  refine z_bipush (q := 287) (v := 8) dX11_init_285 (by decide) rfl ?_
  obtain ⟨a219, g220, g221, hF⟩ := hF
  refine z_newa (rc := 6) (rs := 56) (a := a219) (kd := 20) (N := 8) (q := 289) dX11_init_287 rfl (by decide) ac_20 (by decide) (by decide) (by decide) g220 g221 rfl ?_
  refine z_nameH (fun h222 eh223 => ?_)
  have hF := hF h222 eh223
  obtain ⟨g224, hF⟩ := hF
  refine z_putRF (c := 11) (k := 45) (r := (RX11, TX11, 54)) (q := 292) dX11_init_289 rfl (by decide) fw_X11_117 rfl rfl rfl rfl g224 rfl ?_
  refine z_aload_n (q := 293) dX11_init_292 rfl rfl rfl ?_
  refine z_bipush (q := 295) (v := 8) dX11_init_293 (by decide) rfl ?_
  obtain ⟨a225, g226, g227, hF⟩ := hF
  refine z_newa (rc := 5) (rs := 48) (a := a225) (kd := 20) (N := 8) (q := 297) dX11_init_295 rfl (by decide) ac_20 (by decide) (by decide) (by decide) g226 g227 rfl ?_
  refine z_nameH (fun h228 eh229 => ?_)
  have hF := hF h228 eh229
  obtain ⟨g230, hF⟩ := hF
  refine z_putRF (c := 11) (k := 47) (r := (RX11, TX11, 54)) (q := 300) dX11_init_297 rfl (by decide) fw_X11_120 rfl rfl rfl rfl g230 rfl ?_
  refine z_aload_n (q := 301) dX11_init_300 rfl rfl rfl ?_
  refine z_bipush (q := 303) (v := 8) dX11_init_301 (by decide) rfl ?_
  obtain ⟨a231, g232, g233, hF⟩ := hF
  refine z_newa (rc := 4) (rs := 40) (a := a231) (kd := 20) (N := 8) (q := 305) dX11_init_303 rfl (by decide) ac_20 (by decide) (by decide) (by decide) g232 g233 rfl ?_
  refine z_nameH (fun h234 eh235 => ?_)
  have hF := hF h234 eh235
  obtain ⟨g236, hF⟩ := hF
  refine z_putRF (c := 11) (k := 48) (r := (RX11, TX11, 54)) (q := 308) dX11_init_305 rfl (by decide) fw_X11_123 rfl rfl rfl rfl g236 rfl ?_
  refine z_aload_n (q := 309) dX11_init_308 rfl rfl rfl ?_
  refine z_bipush (q := 311) (v := 10) dX11_init_309 (by decide) rfl ?_
  obtain ⟨a237, g238, g239, hF⟩ := hF
  refine z_newa (rc := 3) (rs := 30) (a := a237) (kd := 20) (N := 10) (q := 313) dX11_init_311 rfl (by decide) ac_20 (by decide) (by decide) (by decide) g238 g239 rfl ?_
  refine z_nameH (fun h240 eh241 => ?_)
  have hF := hF h240 eh241
  obtain ⟨g242, hF⟩ := hF
  refine z_putRF (c := 11) (k := 49) (r := (RX11, TX11, 54)) (q := 316) dX11_init_313 rfl (by decide) fw_X11_126 rfl rfl rfl rfl g242 rfl ?_
  refine z_aload_n (q := 317) dX11_init_316 rfl rfl rfl ?_
  refine z_bipush (q := 319) (v := 10) dX11_init_317 (by decide) rfl ?_
  obtain ⟨a243, g244, g245, hF⟩ := hF
  refine z_newa (rc := 2) (rs := 20) (a := a243) (kd := 20) (N := 10) (q := 321) dX11_init_319 rfl (by decide) ac_20 (by decide) (by decide) (by decide) g244 g245 rfl ?_
  refine z_nameH (fun h246 eh247 => ?_)
  have hF := hF h246 eh247
  obtain ⟨g248, hF⟩ := hF
  refine z_putRF (c := 11) (k := 50) (r := (RX11, TX11, 54)) (q := 324) dX11_init_321 rfl (by decide) fw_X11_129 rfl rfl rfl rfl g248 rfl ?_
  refine z_aload_n (q := 325) dX11_init_324 rfl rfl rfl ?_
  refine z_bipush (q := 327) (v := 10) dX11_init_325 (by decide) rfl ?_
  obtain ⟨a249, g250, g251, hF⟩ := hF
  refine z_newa (rc := 1) (rs := 10) (a := a249) (kd := 20) (N := 10) (q := 329) dX11_init_327 rfl (by decide) ac_20 (by decide) (by decide) (by decide) g250 g251 rfl ?_
  refine z_nameH (fun h252 eh253 => ?_)
  have hF := hF h252 eh253
  obtain ⟨g254, hF⟩ := hF
  refine z_putRF (c := 11) (k := 51) (r := (RX11, TX11, 54)) (q := 332) dX11_init_329 rfl (by decide) fw_X11_132 rfl rfl rfl rfl g254 rfl ?_
  refine z_aload_n (q := 333) dX11_init_332 rfl rfl rfl ?_
  refine z_bipush (q := 335) (v := 10) dX11_init_333 (by decide) rfl ?_
  obtain ⟨a255, g256, g257, hF⟩ := hF
  refine z_newa (rc := 0) (rs := 0) (a := a255) (kd := 20) (N := 10) (q := 337) dX11_init_335 rfl (by decide) ac_20 (by decide) (by decide) (by decide) g256 g257 rfl ?_
  refine z_nameH (fun h258 eh259 => ?_)
  have hF := hF h258 eh259
  obtain ⟨g260, hF⟩ := hF
  refine z_putRF (c := 11) (k := 52) (r := (RX11, TX11, 54)) (q := 340) dX11_init_337 rfl (by decide) fw_X11_135 rfl rfl rfl rfl g260 rfl ?_
  refine z_aload_n (q := 341) dX11_init_340 rfl rfl rfl ?_
  refine z_nameH (fun h261 eh262 => ?_)
  have hF := hF h261 eh262
  obtain ⟨g263, hF⟩ := hF
  obtain ⟨g264, hF⟩ := hF
  refine z_getR (c := 11) (k := 18) (r := (RX11, TX11, 54)) (q := 344) dX11_init_341 rfl (by decide) fl_X11_59 rfl g263 g264 rfl ?_
  refine z_iconst (q := 345) (v := 0) dX11_init_344 (by decide) rfl ?_
  refine z_bipush (q := 347) (v := 60) dX11_init_345 (by decide) rfl ?_
  obtain ⟨g265, hF⟩ := hF
  obtain ⟨g266, hF⟩ := hF
  refine y_iast (j := 0) (q := 348) dX11_init_347 g265 (zvin (by decide) (by decide) g266) (by decide) rfl ?_
  refine z_aload_n (q := 349) dX11_init_348 rfl rfl rfl ?_
  refine z_getR (c := 11) (k := 18) (r := (RX11, TX11, 54)) (q := 352) dX11_init_349 rfl (by decide) fl_X11_59 rfl g263 g264 rfl ?_
  refine z_iconst (q := 353) (v := 1) dX11_init_352 (by decide) rfl ?_
  refine z_bipush (q := 355) (v := 30) dX11_init_353 (by decide) rfl ?_
  obtain ⟨g267, hF⟩ := hF
  refine y_iast (j := 1) (q := 356) dX11_init_355 g265 (zvin (by decide) (by decide) g267) (by decide) rfl ?_
  refine z_aload_n (q := 357) dX11_init_356 rfl rfl rfl ?_
  refine z_getR (c := 11) (k := 18) (r := (RX11, TX11, 54)) (q := 360) dX11_init_357 rfl (by decide) fl_X11_59 rfl g263 g264 rfl ?_
  refine z_iconst (q := 361) (v := 4) dX11_init_360 (by decide) rfl ?_
  refine z_bipush (q := 363) (v := 8) dX11_init_361 (by decide) rfl ?_
  obtain ⟨g268, hF⟩ := hF
  refine y_iast (j := 4) (q := 364) dX11_init_363 g265 (zvin (by decide) (by decide) g268) (by decide) rfl ?_
  refine z_aload_n (q := 365) dX11_init_364 rfl rfl rfl ?_
  refine z_getR (c := 11) (k := 18) (r := (RX11, TX11, 54)) (q := 368) dX11_init_365 rfl (by decide) fl_X11_59 rfl g263 g264 rfl ?_
  refine z_iconst (q := 369) (v := 5) dX11_init_368 (by decide) rfl ?_
  refine z_iconst (q := 370) (v := 3) dX11_init_369 (by decide) rfl ?_
  obtain ⟨g269, hF⟩ := hF
  refine y_iast (j := 5) (q := 371) dX11_init_370 g265 (zvin (by decide) (by decide) g269) (by decide) rfl ?_
  refine z_aload_n (q := 372) dX11_init_371 rfl rfl rfl ?_
  refine z_getR (c := 11) (k := 18) (r := (RX11, TX11, 54)) (q := 375) dX11_init_372 rfl (by decide) fl_X11_59 rfl g263 g264 rfl ?_
  refine z_bipush (q := 377) (v := 6) dX11_init_375 (by decide) rfl ?_
  refine z_bipush (q := 379) (v := 10) dX11_init_377 (by decide) rfl ?_
  obtain ⟨g270, hF⟩ := hF
  refine y_iast (j := 6) (q := 380) dX11_init_379 g265 (zvin (by decide) (by decide) g270) (by decide) rfl ?_
  refine z_iconst (q := 381) (v := 0) dX11_init_380 (by decide) rfl ?_
  refine z_istore_n (q := 382) (L' := [some (.ref l0), some (.int 0)]) dX11_init_381 rfl (Nat.le_of_ble_eq_true rfl) rfl rfl rfl ?_
  exact hF
set_option maxRecDepth 100000 in
set_option maxHeartbeats 4000000 in
theorem wX11_in {ψ : Int32 → ZH → Prop} {l0 : Int64} {l2 : Int64} {l4 : Int64} {h : ZH} (hF : (((lg_cmp l0 l2) < 0 → ψ 0 h) ∧ (¬ (lg_cmp l0 l2) < 0 → ((0 < (lg_cmp l0 l4) → ψ 0 h) ∧ (¬ 0 < (lg_cmp l0 l4) → ψ 1 h))))) : ZcI mX11_in [.long l0, .long l2, .long l4] h ψ := by
  refine Zc.intro (L := [some (.long l0), none, some (.long l2), none, some (.long l4), none]) (show plainName RX11 = true by decide) rfl (Nat.le_of_ble_eq_true rfl) ?_
  show Zt _ _ 0 0 _ _ _ _
  refine z_lload_n (q := 1) dX11_in_0 rfl rfl rfl ?_
  refine z_lload_n (q := 2) dX11_in_1 rfl rfl rfl ?_
  refine z_lcmp (q := 3) dX11_in_2 rfl ?_
  refine z_if_lt (t := 17) (q := 6) dX11_in_3 (by decide) rfl (fun hc => ?_) (fun hc => ?_)
  · have hF := hF.1 hc
    refine z_iconst (q := 18) (v := 0) dX11_in_17 (by decide) rfl ?_
    exact z_zreturn dX11_in_18 rfl (by decide) ⟨_, rfl, hF⟩
  · have hF := hF.2 hc
    refine z_lload_n (q := 7) dX11_in_6 rfl rfl rfl ?_
    refine z_lload (q := 9) dX11_in_7 rfl rfl ?_
    refine z_lcmp (q := 10) dX11_in_9 rfl ?_
    refine z_if_gt (t := 17) (q := 13) dX11_in_10 (by decide) rfl (fun hc => ?_) (fun hc => ?_)
    · have hF := hF.1 hc
      refine z_iconst (q := 18) (v := 0) dX11_in_17 (by decide) rfl ?_
      exact z_zreturn dX11_in_18 rfl (by decide) ⟨_, rfl, hF⟩
    · have hF := hF.2 hc
      refine z_iconst (q := 14) (v := 1) dX11_in_13 (by decide) rfl ?_
      refine z_goto (q := 18) dX11_in_14 (by decide) ?_
      exact z_zreturn dX11_in_18 rfl (by decide) ⟨_, rfl, hF⟩
set_option maxRecDepth 100000 in
set_option maxHeartbeats 4000000 in
theorem wX11_size {ψ : Int32 → ZH → Prop} {l0 : Int32} {h : ZH} (hF : ((0 ≤ l0 → ψ l0 h) ∧ (¬ 0 ≤ l0 → ψ (-l0) h))) : ZcI mX11_size [.int l0] h ψ := by
  refine Zc.intro (L := [some (.int l0)]) (show plainName RX11 = true by decide) rfl (Nat.le_of_ble_eq_true rfl) ?_
  show Zt _ _ 0 0 _ _ _ _
  refine z_iload_n (q := 1) dX11_size_0 rfl rfl rfl ?_
  refine z_if_ge (t := 9) (q := 4) dX11_size_1 (by decide) rfl (fun hc => ?_) (fun hc => ?_)
  · have hF := hF.1 hc
    refine z_iload_n (q := 10) dX11_size_9 rfl rfl rfl ?_
    exact z_ireturn dX11_size_10 rfl ⟨_, rfl, hF⟩
  · have hF := hF.2 hc
    refine z_iload_n (q := 5) dX11_size_4 rfl rfl rfl ?_
    refine z_ineg (q := 6) dX11_size_5 rfl ?_
    refine z_goto (q := 10) dX11_size_6 (by decide) ?_
    exact z_ireturn dX11_size_10 rfl ⟨_, rfl, hF⟩
set_option maxRecDepth 100000 in
set_option maxHeartbeats 4000000 in
theorem wX11_ones_4 {ψ : Int32 → ZH → Prop} {l0 : Int32} {l1 : Int32} {l2 : Int32} {h : ZH} (hF : ((12 ≤ l2 → ψ l1 h) ∧ (¬ 12 ≤ l2 → Zt mX11_ones (zPI ψ) 0 0 4 [some (.int l0), some (.int (l1 + ((l0 >>> (l2 &&& 31)) &&& 1))), some (.int (l2 + 1))] [] h))) : Zt mX11_ones (zPI ψ) 0 0 4 [some (.int l0), some (.int l1), some (.int l2)] [] h := by
  refine z_iload_n (q := 5) dX11_ones_4 rfl rfl rfl ?_
  refine z_bipush (q := 7) (v := 12) dX11_ones_5 (by decide) rfl ?_
  refine z_icmp_ge (t := 24) (q := 10) dX11_ones_7 (by decide) rfl (fun hc => ?_) (fun hc => ?_)
  · have hF := hF.1 hc
    refine z_iload_n (q := 25) dX11_ones_24 rfl rfl rfl ?_
    exact z_ireturn dX11_ones_25 rfl ⟨_, rfl, hF⟩
  · have hF := hF.2 hc
    refine z_iload_n (q := 11) dX11_ones_10 rfl rfl rfl ?_
    refine z_iload_n (q := 12) dX11_ones_11 rfl rfl rfl ?_
    refine z_iload_n (q := 13) dX11_ones_12 rfl rfl rfl ?_
    refine z_ishr (q := 14) dX11_ones_13 rfl ?_
    refine z_iconst (q := 15) (v := 1) dX11_ones_14 (by decide) rfl ?_
    refine z_iand (q := 16) dX11_ones_15 rfl ?_
    refine z_iadd (q := 17) dX11_ones_16 rfl ?_
    refine z_istore_n (q := 18) (L' := [some (.int l0), some (.int (l1 + ((l0 >>> (l2 &&& 31)) &&& 1))), some (.int l2)]) dX11_ones_17 rfl (Nat.le_of_ble_eq_true rfl) rfl rfl rfl ?_
    refine z_iinc (q := 21) (v := (l2 + 1)) (L' := [some (.int l0), some (.int (l1 + ((l0 >>> (l2 &&& 31)) &&& 1))), some (.int (l2 + 1))]) dX11_ones_18 rfl rfl (Nat.le_of_ble_eq_true rfl) rfl rfl rfl ?_
    refine z_goto (q := 4) dX11_ones_21 (by decide) ?_
    exact hF
set_option maxRecDepth 100000 in
set_option maxHeartbeats 4000000 in
theorem wX11_ones {ψ : Int32 → ZH → Prop} {l0 : Int32} {h : ZH} (hF : Zt mX11_ones (zPI ψ) 0 0 4 [some (.int l0), some (.int 0), some (.int 0)] [] h) : ZcI mX11_ones [.int l0] h ψ := by
  refine Zc.intro (L := [some (.int l0), none, none]) (show plainName RX11 = true by decide) rfl (Nat.le_of_ble_eq_true rfl) ?_
  show Zt _ _ 0 0 _ _ _ _
  refine z_iconst (q := 1) (v := 0) dX11_ones_0 (by decide) rfl ?_
  refine z_istore_n (q := 2) (L' := [some (.int l0), some (.int 0), none]) dX11_ones_1 rfl (Nat.le_of_ble_eq_true rfl) rfl rfl rfl ?_
  refine z_iconst (q := 3) (v := 0) dX11_ones_2 (by decide) rfl ?_
  refine z_istore_n (q := 4) (L' := [some (.int l0), some (.int 0), some (.int 0)]) dX11_ones_3 rfl (Nat.le_of_ble_eq_true rfl) rfl rfl rfl ?_
  exact hF
set_option maxRecDepth 100000 in
set_option maxHeartbeats 4000000 in
theorem wX11_isTown {ψ : Int32 → ZH → Prop} {l0 : Int32} {h : ZH} (hF : ZcI mX11_in [.long (Int32.toInt64 l0), .long 0, .long 5] h (fun x2 h1 => (x2 = 0 ∨ x2 = 1) ∧ ψ x2 h1)) : ZcI mX11_isTown [.int l0] h ψ := by
  refine Zc.intro (L := [some (.int l0)]) (show plainName RX11 = true by decide) rfl (Nat.le_of_ble_eq_true rfl) ?_
  show Zt _ _ 0 0 _ _ _ _
  refine z_iload_n (q := 1) dX11_isTown_0 rfl rfl rfl ?_
  refine z_i2l (q := 2) dX11_isTown_1 rfl ?_
  refine z_lconst (q := 3) (v := 0) dX11_isTown_2 (by decide) rfl ?_
  refine z_ldc2 (q := 6) (v := 5) dX11_isTown_3 cw_X11_138 rfl ?_
  refine z_callSI (rc := 0) (rs := 0) (av := [.long (Int32.toInt64 l0), .long 0, .long 5]) (q := 9) hF dX11_isTown_6 ml_X11_140 ok_X11_in st_X11_in rfl (Nat.le_of_ble_eq_true rfl) (by decide) (Nat.le_of_ble_eq_true rfl) rfl rfl rfl rfl (fun x2 h1 hF => ?_)
  obtain ⟨g3, hF⟩ := hF
  exact z_zreturn dX11_isTown_9 rfl g3 ⟨_, rfl, hF⟩
set_option maxRecDepth 100000 in
set_option maxHeartbeats 4000000 in
theorem wX11_isPit {ψ : Int32 → ZH → Prop} {l0 : Nat} {l1 : Int32} {h : ZH} (hF : (zK h l0 = 12) ∧ ZcI mX11_in [.long (Int32.toInt64 l1), .long 0, .long (Int32.toInt64 ((zI h l0 9) - 1))] h (fun x3 h2 => (x3 = 0 ∨ x3 = 1) ∧ ψ x3 h2)) : ZcI mX11_isPit [.ref l0, .int l1] h ψ := by
  refine Zc.intro (L := [some (.ref l0), some (.int l1)]) (show plainName RX11 = true by decide) rfl (Nat.le_of_ble_eq_true rfl) ?_
  show Zt _ _ 0 0 _ _ _ _
  refine z_iload_n (q := 1) dX11_isPit_0 rfl rfl rfl ?_
  refine z_i2l (q := 2) dX11_isPit_1 rfl ?_
  refine z_lconst (q := 3) (v := 0) dX11_isPit_2 (by decide) rfl ?_
  refine z_aload_n (q := 4) dX11_isPit_3 rfl rfl rfl ?_
  obtain ⟨g1, hF⟩ := hF
  refine z_getI (c := 11) (k := 9) (r := (RX11, TX11, 54)) (q := 7) dX11_isPit_4 rfl (by decide) fl_X11_144 rfl g1 rfl ?_
  refine z_iconst (q := 8) (v := 1) dX11_isPit_7 (by decide) rfl ?_
  refine z_isub (q := 9) dX11_isPit_8 rfl ?_
  refine z_i2l (q := 10) dX11_isPit_9 rfl ?_
  refine z_callSI (rc := 0) (rs := 0) (av := [.long (Int32.toInt64 l1), .long 0, .long (Int32.toInt64 ((zI h l0 9) - 1))]) (q := 13) hF dX11_isPit_10 ml_X11_140 ok_X11_in st_X11_in rfl (Nat.le_of_ble_eq_true rfl) (by decide) (Nat.le_of_ble_eq_true rfl) rfl rfl rfl rfl (fun x3 h2 hF => ?_)
  obtain ⟨g4, hF⟩ := hF
  exact z_zreturn dX11_isPit_13 rfl g4 ⟨_, rfl, hF⟩
set_option maxRecDepth 100000 in
set_option maxHeartbeats 4000000 in
theorem wX11_isPlace {ψ : Int32 → ZH → Prop} {l0 : Int32} {l1 : Int32} {h : ZH} (hF : ZcI mX11_in [.long (Int32.toInt64 l0), .long 0, .long 99] h (fun x2 h1 => ((x2 = 0 → ψ 0 h1) ∧ (¬ x2 = 0 → ZcI mX11_in [.long (Int32.toInt64 l1), .long 0, .long 99] h1 (fun x4 h3 => ((x4 = 0 → ψ 0 h3) ∧ (¬ x4 = 0 → ψ 1 h3))))))) : ZcI mX11_isPlace [.int l0, .int l1] h ψ := by
  refine Zc.intro (L := [some (.int l0), some (.int l1)]) (show plainName RX11 = true by decide) rfl (Nat.le_of_ble_eq_true rfl) ?_
  show Zt _ _ 0 0 _ _ _ _
  refine z_iload_n (q := 1) dX11_isPlace_0 rfl rfl rfl ?_
  refine z_i2l (q := 2) dX11_isPlace_1 rfl ?_
  refine z_lconst (q := 3) (v := 0) dX11_isPlace_2 (by decide) rfl ?_
  refine z_ldc2 (q := 6) (v := 99) dX11_isPlace_3 cw_X11_148 rfl ?_
  refine z_callSI (rc := 0) (rs := 0) (av := [.long (Int32.toInt64 l0), .long 0, .long 99]) (q := 9) hF dX11_isPlace_6 ml_X11_140 ok_X11_in st_X11_in rfl (Nat.le_of_ble_eq_true rfl) (by decide) (Nat.le_of_ble_eq_true rfl) rfl rfl rfl rfl (fun x2 h1 hF => ?_)
  refine z_if_eq (t := 28) (q := 12) dX11_isPlace_9 (by decide) rfl (fun hc => ?_) (fun hc => ?_)
  · have hF := hF.1 hc
    refine z_iconst (q := 29) (v := 0) dX11_isPlace_28 (by decide) rfl ?_
    exact z_zreturn dX11_isPlace_29 rfl (by decide) ⟨_, rfl, hF⟩
  · have hF := hF.2 hc
    refine z_iload_n (q := 13) dX11_isPlace_12 rfl rfl rfl ?_
    refine z_i2l (q := 14) dX11_isPlace_13 rfl ?_
    refine z_lconst (q := 15) (v := 0) dX11_isPlace_14 (by decide) rfl ?_
    refine z_ldc2 (q := 18) (v := 99) dX11_isPlace_15 cw_X11_148 rfl ?_
    refine z_callSI (rc := 0) (rs := 0) (av := [.long (Int32.toInt64 l1), .long 0, .long 99]) (q := 21) hF dX11_isPlace_18 ml_X11_140 ok_X11_in st_X11_in rfl (Nat.le_of_ble_eq_true rfl) (by decide) (Nat.le_of_ble_eq_true rfl) rfl rfl rfl rfl (fun x4 h3 hF => ?_)
    refine z_if_eq (t := 28) (q := 24) dX11_isPlace_21 (by decide) rfl (fun hc => ?_) (fun hc => ?_)
    · have hF := hF.1 hc
      refine z_iconst (q := 29) (v := 0) dX11_isPlace_28 (by decide) rfl ?_
      exact z_zreturn dX11_isPlace_29 rfl (by decide) ⟨_, rfl, hF⟩
    · have hF := hF.2 hc
      refine z_iconst (q := 25) (v := 1) dX11_isPlace_24 (by decide) rfl ?_
      refine z_goto (q := 29) dX11_isPlace_25 (by decide) ?_
      exact z_zreturn dX11_isPlace_29 rfl (by decide) ⟨_, rfl, hF⟩
set_option maxRecDepth 100000 in
set_option maxHeartbeats 4000000 in
theorem wX11_town {ψ : Int32 → ZH → Prop} {l0 : Nat} {l1 : Int32} {l2 : Int32} {l3 : Int32} {h : ZH} (hF : ZcI mX11_isTown [.int l1] h (fun x2 h1 => ((¬ x2 = 0 → ZcI mX11_isPlace [.int l2, .int l3] h1 (fun x4 h3 => ((¬ x4 = 0 → (zK h3 l0 = 12) ∧ ((zR h3 l0 0) ≠ 0) ∧ (zK h3 (zR h3 l0 0) = 20) ∧ (vp_in l1 (zN h3 (zR h3 l0 0))) ∧ ((zR h3 l0 1) ≠ 0) ∧ (zK h3 (zR h3 l0 1) = 20) ∧ (vp_in l1 (zN h3 (zR h3 l0 1))) ∧ ψ 1 (zsI (zsI h3 (zR h3 l0 0) (Int32.toNatClampNeg l1) l2) (zR h3 l0 1) (Int32.toNatClampNeg l1) l3)) ∧ (x4 = 0 → ψ (-2) h3)))) ∧ (x2 = 0 → ψ (-1) h1)))) : ZcI mX11_town [.ref l0, .int l1, .int l2, .int l3] h ψ := by
  refine Zc.intro (L := [some (.ref l0), some (.int l1), some (.int l2), some (.int l3)]) (show plainName RX11 = true by decide) rfl (Nat.le_of_ble_eq_true rfl) ?_
  show Zt _ _ 0 0 _ _ _ _
  refine z_iload_n (q := 1) dX11_town_0 rfl rfl rfl ?_
  refine z_callSI (rc := 0) (rs := 0) (av := [.int l1]) (q := 4) hF dX11_town_1 ml_X11_150 ok_X11_isTown st_X11_isTown rfl (Nat.le_of_ble_eq_true rfl) (by decide) (Nat.le_of_ble_eq_true rfl) rfl rfl rfl rfl (fun x2 h1 hF => ?_)
  refine z_if_ne (t := 9) (q := 7) dX11_town_4 (by decide) rfl (fun hc => ?_) (fun hc => ?_)
  · have hF := hF.1 hc
    refine z_iload_n (q := 10) dX11_town_9 rfl rfl rfl ?_
    refine z_iload_n (q := 11) dX11_town_10 rfl rfl rfl ?_
    refine z_callSI (rc := 0) (rs := 0) (av := [.int l2, .int l3]) (q := 14) hF dX11_town_11 ml_X11_154 ok_X11_isPlace st_X11_isPlace rfl (Nat.le_of_ble_eq_true rfl) (by decide) (Nat.le_of_ble_eq_true rfl) rfl rfl rfl rfl (fun x4 h3 hF => ?_)
    refine z_if_ne (t := 20) (q := 17) dX11_town_14 (by decide) rfl (fun hc => ?_) (fun hc => ?_)
    · have hF := hF.1 hc
      refine z_aload_n (q := 21) dX11_town_20 rfl rfl rfl ?_
      obtain ⟨g5, hF⟩ := hF
      obtain ⟨g6, hF⟩ := hF
      refine z_getR (c := 11) (k := 0) (r := (RX11, TX11, 54)) (q := 24) dX11_town_21 rfl (by decide) fl_X11_7 rfl g5 g6 rfl ?_
      refine z_iload_n (q := 25) dX11_town_24 rfl rfl rfl ?_
      refine z_iload_n (q := 26) dX11_town_25 rfl rfl rfl ?_
      obtain ⟨g7, hF⟩ := hF
      obtain ⟨g8, hF⟩ := hF
      refine y_iast (j := (Int32.toNatClampNeg l1)) (q := 27) dX11_town_26 g7 g8 rfl rfl ?_
      refine z_aload_n (q := 28) dX11_town_27 rfl rfl rfl ?_
      obtain ⟨g9, hF⟩ := hF
      refine z_getR (c := 11) (k := 1) (r := (RX11, TX11, 54)) (q := 31) dX11_town_28 rfl (by decide) fl_X11_13 rfl g5 g9 rfl ?_
      refine z_iload_n (q := 32) dX11_town_31 rfl rfl rfl ?_
      refine z_iload_n (q := 33) dX11_town_32 rfl rfl rfl ?_
      obtain ⟨g10, hF⟩ := hF
      obtain ⟨g11, hF⟩ := hF
      refine y_iast (j := (Int32.toNatClampNeg l1)) (q := 34) dX11_town_33 g10 g11 rfl rfl ?_
      refine z_iconst (q := 35) (v := 1) dX11_town_34 (by decide) rfl ?_
      exact z_ireturn dX11_town_35 rfl ⟨_, rfl, hF⟩
    · have hF := hF.2 hc
      refine z_bipush (q := 19) (v := (-2)) dX11_town_17 (by decide) rfl ?_
      exact z_ireturn dX11_town_19 rfl ⟨_, rfl, hF⟩
  · have hF := hF.2 hc
    refine z_iconst (q := 8) (v := (-1)) dX11_town_7 (by decide) rfl ?_
    exact z_ireturn dX11_town_8 rfl ⟨_, rfl, hF⟩
set_option maxRecDepth 100000 in
set_option maxHeartbeats 4000000 in
theorem wX11_pit {ψ : Int32 → ZH → Prop} {l0 : Nat} {l1 : Int32} {l2 : Int32} {l3 : Int32} {l4 : Int32} {l5 : Int32} {h : ZH} (hF : ZcI mX11_isPlace [.int l1, .int l2] h (fun x2 h1 => ((x2 = 0 → ψ (-2) h1) ∧ (¬ x2 = 0 → ZcI mX11_in [.long (Int32.toInt64 l3), .long 0, .long 1000] h1 (fun x4 h3 => ((x4 = 0 → ψ (-2) h3) ∧ (¬ x4 = 0 → ZcI mX11_in [.long (Int32.toInt64 l4), .long 0, .long 200] h3 (fun x6 h5 => ((x6 = 0 → ψ (-2) h5) ∧ (¬ x6 = 0 → ZcI mX11_in [.long (Int32.toInt64 l5), .long 1, .long 1000] h5 (fun x8 h7 => ((¬ x8 = 0 → (zK h7 l0 = 12) ∧ ((¬ (zI h7 l0 9) = 8 → ((zR h7 l0 2) ≠ 0) ∧ (zK h7 (zR h7 l0 2) = 20) ∧ (vp_in (zI h7 l0 9) (zN h7 (zR h7 l0 2))) ∧ ((zR h7 l0 3) ≠ 0) ∧ ∀ h14 : ZH, h14 = (zsI h7 (zR h7 l0 2) (Int32.toNatClampNeg (zI h7 l0 9)) l1) → (zK h14 l0 = 12) ∧ (zK h14 (zR h7 l0 3) = 20) ∧ (vp_in (zI h14 l0 9) (zN h14 (zR h7 l0 3))) ∧ ((zR h14 l0 4) ≠ 0) ∧ ∀ h20 : ZH, h20 = (zsI h14 (zR h7 l0 3) (Int32.toNatClampNeg (zI h14 l0 9)) l2) → (zK h20 l0 = 12) ∧ (zK h20 (zR h14 l0 4) = 20) ∧ (vp_in (zI h20 l0 9) (zN h20 (zR h14 l0 4))) ∧ ((zR h20 l0 5) ≠ 0) ∧ ∀ h26 : ZH, h26 = (zsI h20 (zR h14 l0 4) (Int32.toNatClampNeg (zI h20 l0 9)) l3) → (zK h26 l0 = 12) ∧ (zK h26 (zR h20 l0 5) = 20) ∧ (vp_in (zI h26 l0 9) (zN h26 (zR h20 l0 5))) ∧ ((zR h26 l0 6) ≠ 0) ∧ ∀ h32 : ZH, h32 = (zsI h26 (zR h20 l0 5) (Int32.toNatClampNeg (zI h26 l0 9)) l4) → (zK h32 l0 = 12) ∧ (zK h32 (zR h26 l0 6) = 20) ∧ (vp_in (zI h32 l0 9) (zN h32 (zR h26 l0 6))) ∧ ((zR h32 l0 7) ≠ 0) ∧ ∀ h38 : ZH, h38 = (zsI h32 (zR h26 l0 6) (Int32.toNatClampNeg (zI h32 l0 9)) l5) → (zK h38 l0 = 12) ∧ (zK h38 (zR h32 l0 7) = 21) ∧ (vp_in (zI h38 l0 9) (zN h38 (zR h32 l0 7))) ∧ ((zR h38 l0 34) ≠ 0) ∧ ∀ h44 : ZH, h44 = (zsI h38 (zR h32 l0 7) (Int32.toNatClampNeg (zI h38 l0 9)) 1) → (zK h44 l0 = 12) ∧ (zK h44 (zR h38 l0 34) = 21) ∧ (vp_in (zI h44 l0 9) (zN h44 (zR h38 l0 34))) ∧ ((zR h44 l0 35) ≠ 0) ∧ ∀ h50 : ZH, h50 = (zsI h44 (zR h38 l0 34) (Int32.toNatClampNeg (zI h44 l0 9)) 1) → (zK h50 l0 = 12) ∧ (zK h50 (zR h44 l0 35) = 20) ∧ (vp_in (zI h50 l0 9) (zN h50 (zR h44 l0 35))) ∧ ((zR h50 l0 48) ≠ 0) ∧ ∀ h56 : ZH, h56 = (zsI h50 (zR h44 l0 35) (Int32.toNatClampNeg (zI h50 l0 9)) (-6)) → (zK h56 l0 = 12) ∧ (zK h56 (zR h50 l0 48) = 20) ∧ (vp_in (zI h56 l0 9) (zN h56 (zR h50 l0 48))) ∧ ∀ h61 : ZH, h61 = (zsI h56 (zR h50 l0 48) (Int32.toNatClampNeg (zI h56 l0 9)) 99) → (zK h61 l0 = 12) ∧ ∀ h64 : ZH, h64 = (zsI h61 l0 9 ((zI h61 l0 9) + 1)) → (zK h64 l0 = 12) ∧ ψ ((zI h64 l0 9) - 1) h64) ∧ ((zI h7 l0 9) = 8 → ψ (-4) h7))) ∧ (x8 = 0 → ψ (-2) h7))))))))))))) : ZcI mX11_pit [.ref l0, .int l1, .int l2, .int l3, .int l4, .int l5] h ψ := by
  refine Zc.intro (L := [some (.ref l0), some (.int l1), some (.int l2), some (.int l3), some (.int l4), some (.int l5)]) (show plainName RX11 = true by decide) rfl (Nat.le_of_ble_eq_true rfl) ?_
  show Zt _ _ 0 0 _ _ _ _
  refine z_iload_n (q := 1) dX11_pit_0 rfl rfl rfl ?_
  refine z_iload_n (q := 2) dX11_pit_1 rfl rfl rfl ?_
  refine z_callSI (rc := 0) (rs := 0) (av := [.int l1, .int l2]) (q := 5) hF dX11_pit_2 ml_X11_154 ok_X11_isPlace st_X11_isPlace rfl (Nat.le_of_ble_eq_true rfl) (by decide) (Nat.le_of_ble_eq_true rfl) rfl rfl rfl rfl (fun x2 h1 hF => ?_)
  refine z_if_eq (t := 46) (q := 8) dX11_pit_5 (by decide) rfl (fun hc => ?_) (fun hc => ?_)
  · have hF := hF.1 hc
    refine z_bipush (q := 48) (v := (-2)) dX11_pit_46 (by decide) rfl ?_
    exact z_ireturn dX11_pit_48 rfl ⟨_, rfl, hF⟩
  · have hF := hF.2 hc
    refine z_iload_n (q := 9) dX11_pit_8 rfl rfl rfl ?_
    refine z_i2l (q := 10) dX11_pit_9 rfl ?_
    refine z_lconst (q := 11) (v := 0) dX11_pit_10 (by decide) rfl ?_
    refine z_ldc2 (q := 14) (v := 1000) dX11_pit_11 cw_X11_158 rfl ?_
    refine z_callSI (rc := 0) (rs := 0) (av := [.long (Int32.toInt64 l3), .long 0, .long 1000]) (q := 17) hF dX11_pit_14 ml_X11_140 ok_X11_in st_X11_in rfl (Nat.le_of_ble_eq_true rfl) (by decide) (Nat.le_of_ble_eq_true rfl) rfl rfl rfl rfl (fun x4 h3 hF => ?_)
    refine z_if_eq (t := 46) (q := 20) dX11_pit_17 (by decide) rfl (fun hc => ?_) (fun hc => ?_)
    · have hF := hF.1 hc
      refine z_bipush (q := 48) (v := (-2)) dX11_pit_46 (by decide) rfl ?_
      exact z_ireturn dX11_pit_48 rfl ⟨_, rfl, hF⟩
    · have hF := hF.2 hc
      refine z_iload (q := 22) dX11_pit_20 rfl rfl ?_
      refine z_i2l (q := 23) dX11_pit_22 rfl ?_
      refine z_lconst (q := 24) (v := 0) dX11_pit_23 (by decide) rfl ?_
      refine z_ldc2 (q := 27) (v := 200) dX11_pit_24 cw_X11_160 rfl ?_
      refine z_callSI (rc := 0) (rs := 0) (av := [.long (Int32.toInt64 l4), .long 0, .long 200]) (q := 30) hF dX11_pit_27 ml_X11_140 ok_X11_in st_X11_in rfl (Nat.le_of_ble_eq_true rfl) (by decide) (Nat.le_of_ble_eq_true rfl) rfl rfl rfl rfl (fun x6 h5 hF => ?_)
      refine z_if_eq (t := 46) (q := 33) dX11_pit_30 (by decide) rfl (fun hc => ?_) (fun hc => ?_)
      · have hF := hF.1 hc
        refine z_bipush (q := 48) (v := (-2)) dX11_pit_46 (by decide) rfl ?_
        exact z_ireturn dX11_pit_48 rfl ⟨_, rfl, hF⟩
      · have hF := hF.2 hc
        refine z_iload (q := 35) dX11_pit_33 rfl rfl ?_
        refine z_i2l (q := 36) dX11_pit_35 rfl ?_
        refine z_lconst (q := 37) (v := 1) dX11_pit_36 (by decide) rfl ?_
        refine z_ldc2 (q := 40) (v := 1000) dX11_pit_37 cw_X11_158 rfl ?_
        refine z_callSI (rc := 0) (rs := 0) (av := [.long (Int32.toInt64 l5), .long 1, .long 1000]) (q := 43) hF dX11_pit_40 ml_X11_140 ok_X11_in st_X11_in rfl (Nat.le_of_ble_eq_true rfl) (by decide) (Nat.le_of_ble_eq_true rfl) rfl rfl rfl rfl (fun x8 h7 hF => ?_)
        refine z_if_ne (t := 49) (q := 46) dX11_pit_43 (by decide) rfl (fun hc => ?_) (fun hc => ?_)
        · have hF := hF.1 hc
          refine z_aload_n (q := 50) dX11_pit_49 rfl rfl rfl ?_
          obtain ⟨g9, hF⟩ := hF
          refine z_getI (c := 11) (k := 9) (r := (RX11, TX11, 54)) (q := 53) dX11_pit_50 rfl (by decide) fl_X11_144 rfl g9 rfl ?_
          refine z_bipush (q := 55) (v := 8) dX11_pit_53 (by decide) rfl ?_
          refine z_icmp_ne (t := 61) (q := 58) dX11_pit_55 (by decide) rfl (fun hc => ?_) (fun hc => ?_)
          · have hF := hF.1 hc
            refine z_aload_n (q := 62) dX11_pit_61 rfl rfl rfl ?_
            obtain ⟨g10, hF⟩ := hF
            refine z_getR (c := 11) (k := 2) (r := (RX11, TX11, 54)) (q := 65) dX11_pit_62 rfl (by decide) fl_X11_16 rfl g9 g10 rfl ?_
            refine z_aload_n (q := 66) dX11_pit_65 rfl rfl rfl ?_
            refine z_getI (c := 11) (k := 9) (r := (RX11, TX11, 54)) (q := 69) dX11_pit_66 rfl (by decide) fl_X11_144 rfl g9 rfl ?_
            refine z_iload_n (q := 70) dX11_pit_69 rfl rfl rfl ?_
            obtain ⟨g11, hF⟩ := hF
            obtain ⟨g12, hF⟩ := hF
            refine y_iast (j := (Int32.toNatClampNeg (zI h7 l0 9))) (q := 71) dX11_pit_70 g11 g12 rfl rfl ?_
            refine z_aload_n (q := 72) dX11_pit_71 rfl rfl rfl ?_
            obtain ⟨g13, hF⟩ := hF
            refine z_getR (c := 11) (k := 3) (r := (RX11, TX11, 54)) (q := 75) dX11_pit_72 rfl (by decide) fl_X11_19 rfl g9 g13 rfl ?_
            refine z_aload_n (q := 76) dX11_pit_75 rfl rfl rfl ?_
            refine z_nameH (fun h14 eh15 => ?_)
            have hF := hF h14 eh15
            obtain ⟨g16, hF⟩ := hF
            refine z_getI (c := 11) (k := 9) (r := (RX11, TX11, 54)) (q := 79) dX11_pit_76 rfl (by decide) fl_X11_144 rfl g16 rfl ?_
            refine z_iload_n (q := 80) dX11_pit_79 rfl rfl rfl ?_
            obtain ⟨g17, hF⟩ := hF
            obtain ⟨g18, hF⟩ := hF
            refine y_iast (j := (Int32.toNatClampNeg (zI h14 l0 9))) (q := 81) dX11_pit_80 g17 g18 rfl rfl ?_
            refine z_aload_n (q := 82) dX11_pit_81 rfl rfl rfl ?_
            obtain ⟨g19, hF⟩ := hF
            refine z_getR (c := 11) (k := 4) (r := (RX11, TX11, 54)) (q := 85) dX11_pit_82 rfl (by decide) fl_X11_22 rfl g16 g19 rfl ?_
            refine z_aload_n (q := 86) dX11_pit_85 rfl rfl rfl ?_
            refine z_nameH (fun h20 eh21 => ?_)
            have hF := hF h20 eh21
            obtain ⟨g22, hF⟩ := hF
            refine z_getI (c := 11) (k := 9) (r := (RX11, TX11, 54)) (q := 89) dX11_pit_86 rfl (by decide) fl_X11_144 rfl g22 rfl ?_
            refine z_iload_n (q := 90) dX11_pit_89 rfl rfl rfl ?_
            obtain ⟨g23, hF⟩ := hF
            obtain ⟨g24, hF⟩ := hF
            refine y_iast (j := (Int32.toNatClampNeg (zI h20 l0 9))) (q := 91) dX11_pit_90 g23 g24 rfl rfl ?_
            refine z_aload_n (q := 92) dX11_pit_91 rfl rfl rfl ?_
            obtain ⟨g25, hF⟩ := hF
            refine z_getR (c := 11) (k := 5) (r := (RX11, TX11, 54)) (q := 95) dX11_pit_92 rfl (by decide) fl_X11_25 rfl g22 g25 rfl ?_
            refine z_aload_n (q := 96) dX11_pit_95 rfl rfl rfl ?_
            refine z_nameH (fun h26 eh27 => ?_)
            have hF := hF h26 eh27
            obtain ⟨g28, hF⟩ := hF
            refine z_getI (c := 11) (k := 9) (r := (RX11, TX11, 54)) (q := 99) dX11_pit_96 rfl (by decide) fl_X11_144 rfl g28 rfl ?_
            refine z_iload (q := 101) dX11_pit_99 rfl rfl ?_
            obtain ⟨g29, hF⟩ := hF
            obtain ⟨g30, hF⟩ := hF
            refine y_iast (j := (Int32.toNatClampNeg (zI h26 l0 9))) (q := 102) dX11_pit_101 g29 g30 rfl rfl ?_
            refine z_aload_n (q := 103) dX11_pit_102 rfl rfl rfl ?_
            obtain ⟨g31, hF⟩ := hF
            refine z_getR (c := 11) (k := 6) (r := (RX11, TX11, 54)) (q := 106) dX11_pit_103 rfl (by decide) fl_X11_28 rfl g28 g31 rfl ?_
            refine z_aload_n (q := 107) dX11_pit_106 rfl rfl rfl ?_
            refine z_nameH (fun h32 eh33 => ?_)
            have hF := hF h32 eh33
            obtain ⟨g34, hF⟩ := hF
            refine z_getI (c := 11) (k := 9) (r := (RX11, TX11, 54)) (q := 110) dX11_pit_107 rfl (by decide) fl_X11_144 rfl g34 rfl ?_
            refine z_iload (q := 112) dX11_pit_110 rfl rfl ?_
            obtain ⟨g35, hF⟩ := hF
            obtain ⟨g36, hF⟩ := hF
            refine y_iast (j := (Int32.toNatClampNeg (zI h32 l0 9))) (q := 113) dX11_pit_112 g35 g36 rfl rfl ?_
            refine z_aload_n (q := 114) dX11_pit_113 rfl rfl rfl ?_
            obtain ⟨g37, hF⟩ := hF
            refine z_getR (c := 11) (k := 7) (r := (RX11, TX11, 54)) (q := 117) dX11_pit_114 rfl (by decide) fl_X11_31 rfl g34 g37 rfl ?_
            refine z_aload_n (q := 118) dX11_pit_117 rfl rfl rfl ?_
            refine z_nameH (fun h38 eh39 => ?_)
            have hF := hF h38 eh39
            obtain ⟨g40, hF⟩ := hF
            refine z_getI (c := 11) (k := 9) (r := (RX11, TX11, 54)) (q := 121) dX11_pit_118 rfl (by decide) fl_X11_144 rfl g40 rfl ?_
            refine z_iconst (q := 122) (v := 1) dX11_pit_121 (by decide) rfl ?_
            obtain ⟨g41, hF⟩ := hF
            obtain ⟨g42, hF⟩ := hF
            refine y_bast (j := (Int32.toNatClampNeg (zI h38 l0 9))) (q := 123) dX11_pit_122 g41 g42 (by decide) rfl rfl ?_
            refine z_aload_n (q := 124) dX11_pit_123 rfl rfl rfl ?_
            obtain ⟨g43, hF⟩ := hF
            refine z_getR (c := 11) (k := 34) (r := (RX11, TX11, 54)) (q := 127) dX11_pit_124 rfl (by decide) fl_X11_96 rfl g40 g43 rfl ?_
            refine z_aload_n (q := 128) dX11_pit_127 rfl rfl rfl ?_
            refine z_nameH (fun h44 eh45 => ?_)
            have hF := hF h44 eh45
            obtain ⟨g46, hF⟩ := hF
            refine z_getI (c := 11) (k := 9) (r := (RX11, TX11, 54)) (q := 131) dX11_pit_128 rfl (by decide) fl_X11_144 rfl g46 rfl ?_
            refine z_iconst (q := 132) (v := 1) dX11_pit_131 (by decide) rfl ?_
            obtain ⟨g47, hF⟩ := hF
            obtain ⟨g48, hF⟩ := hF
            refine y_bast (j := (Int32.toNatClampNeg (zI h44 l0 9))) (q := 133) dX11_pit_132 g47 g48 (by decide) rfl rfl ?_
            refine z_aload_n (q := 134) dX11_pit_133 rfl rfl rfl ?_
            obtain ⟨g49, hF⟩ := hF
            refine z_getR (c := 11) (k := 35) (r := (RX11, TX11, 54)) (q := 137) dX11_pit_134 rfl (by decide) fl_X11_99 rfl g46 g49 rfl ?_
            refine z_aload_n (q := 138) dX11_pit_137 rfl rfl rfl ?_
            refine z_nameH (fun h50 eh51 => ?_)
            have hF := hF h50 eh51
            obtain ⟨g52, hF⟩ := hF
            refine z_getI (c := 11) (k := 9) (r := (RX11, TX11, 54)) (q := 141) dX11_pit_138 rfl (by decide) fl_X11_144 rfl g52 rfl ?_
            refine z_bipush (q := 143) (v := (-6)) dX11_pit_141 (by decide) rfl ?_
            obtain ⟨g53, hF⟩ := hF
            obtain ⟨g54, hF⟩ := hF
            refine y_iast (j := (Int32.toNatClampNeg (zI h50 l0 9))) (q := 144) dX11_pit_143 g53 g54 rfl rfl ?_
            refine z_aload_n (q := 145) dX11_pit_144 rfl rfl rfl ?_
            obtain ⟨g55, hF⟩ := hF
            refine z_getR (c := 11) (k := 48) (r := (RX11, TX11, 54)) (q := 148) dX11_pit_145 rfl (by decide) fl_X11_123 rfl g52 g55 rfl ?_
            refine z_aload_n (q := 149) dX11_pit_148 rfl rfl rfl ?_
            refine z_nameH (fun h56 eh57 => ?_)
            have hF := hF h56 eh57
            obtain ⟨g58, hF⟩ := hF
            refine z_getI (c := 11) (k := 9) (r := (RX11, TX11, 54)) (q := 152) dX11_pit_149 rfl (by decide) fl_X11_144 rfl g58 rfl ?_
            refine z_bipush (q := 154) (v := 99) dX11_pit_152 (by decide) rfl ?_
            obtain ⟨g59, hF⟩ := hF
            obtain ⟨g60, hF⟩ := hF
            refine y_iast (j := (Int32.toNatClampNeg (zI h56 l0 9))) (q := 155) dX11_pit_154 g59 g60 rfl rfl ?_
            refine z_aload_n (q := 156) dX11_pit_155 rfl rfl rfl ?_
            refine z_dup (q := 157) dX11_pit_156 rfl rfl ?_
            refine z_nameH (fun h61 eh62 => ?_)
            have hF := hF h61 eh62
            obtain ⟨g63, hF⟩ := hF
            refine z_getI (c := 11) (k := 9) (r := (RX11, TX11, 54)) (q := 160) dX11_pit_157 rfl (by decide) fl_X11_144 rfl g63 rfl ?_
            refine z_iconst (q := 161) (v := 1) dX11_pit_160 (by decide) rfl ?_
            refine z_iadd (q := 162) dX11_pit_161 rfl ?_
            refine z_putI (c := 11) (k := 9) (r := (RX11, TX11, 54)) (q := 165) dX11_pit_162 rfl (by decide) fl_X11_144 rfl rfl g63 rfl ?_
            refine z_aload_n (q := 166) dX11_pit_165 rfl rfl rfl ?_
            refine z_nameH (fun h64 eh65 => ?_)
            have hF := hF h64 eh65
            obtain ⟨g66, hF⟩ := hF
            refine z_getI (c := 11) (k := 9) (r := (RX11, TX11, 54)) (q := 169) dX11_pit_166 rfl (by decide) fl_X11_144 rfl g66 rfl ?_
            refine z_iconst (q := 170) (v := 1) dX11_pit_169 (by decide) rfl ?_
            refine z_isub (q := 171) dX11_pit_170 rfl ?_
            exact z_ireturn dX11_pit_171 rfl ⟨_, rfl, hF⟩
          · have hF := hF.2 hc
            refine z_bipush (q := 60) (v := (-4)) dX11_pit_58 (by decide) rfl ?_
            exact z_ireturn dX11_pit_60 rfl ⟨_, rfl, hF⟩
        · have hF := hF.2 hc
          refine z_bipush (q := 48) (v := (-2)) dX11_pit_46 (by decide) rfl ?_
          exact z_ireturn dX11_pit_48 rfl ⟨_, rfl, hF⟩
set_option maxRecDepth 100000 in
set_option maxHeartbeats 4000000 in
theorem wX11_farTo {ψ : Int32 → ZH → Prop} {l0 : Nat} {l1 : Int32} {l2 : Int32} {h : ZH} (hF : (zK h l0 = 12) ∧ ((zR h l0 0) ≠ 0) ∧ (zK h (zR h l0 0) = 20) ∧ (vp_in l1 (zN h (zR h l0 0))) ∧ ((zR h l0 2) ≠ 0) ∧ (zK h (zR h l0 2) = 20) ∧ (vp_in l2 (zN h (zR h l0 2))) ∧ ZcI mX11_size [.int ((zI h (zR h l0 0) (Int32.toNatClampNeg l1)) - (zI h (zR h l0 2) (Int32.toNatClampNeg l2)))] h (fun x9 h8 => (zK h8 l0 = 12) ∧ ((zR h8 l0 1) ≠ 0) ∧ (zK h8 (zR h8 l0 1) = 20) ∧ (vp_in l1 (zN h8 (zR h8 l0 1))) ∧ ((zR h8 l0 3) ≠ 0) ∧ (zK h8 (zR h8 l0 3) = 20) ∧ (vp_in l2 (zN h8 (zR h8 l0 3))) ∧ ZcI mX11_size [.int ((zI h8 (zR h8 l0 1) (Int32.toNatClampNeg l1)) - (zI h8 (zR h8 l0 3) (Int32.toNatClampNeg l2)))] h8 (fun x18 h17 => ψ (x9 + x18) h17))) : ZcI mX11_farTo [.ref l0, .int l1, .int l2] h ψ := by
  refine Zc.intro (L := [some (.ref l0), some (.int l1), some (.int l2)]) (show plainName RX11 = true by decide) rfl (Nat.le_of_ble_eq_true rfl) ?_
  show Zt _ _ 0 0 _ _ _ _
  refine z_aload_n (q := 1) dX11_farTo_0 rfl rfl rfl ?_
  obtain ⟨g1, hF⟩ := hF
  obtain ⟨g2, hF⟩ := hF
  refine z_getR (c := 11) (k := 0) (r := (RX11, TX11, 54)) (q := 4) dX11_farTo_1 rfl (by decide) fl_X11_7 rfl g1 g2 rfl ?_
  refine z_iload_n (q := 5) dX11_farTo_4 rfl rfl rfl ?_
  obtain ⟨g3, hF⟩ := hF
  obtain ⟨g4, hF⟩ := hF
  refine y_iald (j := (Int32.toNatClampNeg l1)) (q := 6) dX11_farTo_5 (Or.inl g3) g4 rfl rfl ?_
  refine z_aload_n (q := 7) dX11_farTo_6 rfl rfl rfl ?_
  obtain ⟨g5, hF⟩ := hF
  refine z_getR (c := 11) (k := 2) (r := (RX11, TX11, 54)) (q := 10) dX11_farTo_7 rfl (by decide) fl_X11_16 rfl g1 g5 rfl ?_
  refine z_iload_n (q := 11) dX11_farTo_10 rfl rfl rfl ?_
  obtain ⟨g6, hF⟩ := hF
  obtain ⟨g7, hF⟩ := hF
  refine y_iald (j := (Int32.toNatClampNeg l2)) (q := 12) dX11_farTo_11 (Or.inl g6) g7 rfl rfl ?_
  refine z_isub (q := 13) dX11_farTo_12 rfl ?_
  refine z_callSI (rc := 0) (rs := 0) (av := [.int ((zI h (zR h l0 0) (Int32.toNatClampNeg l1)) - (zI h (zR h l0 2) (Int32.toNatClampNeg l2)))]) (q := 16) hF dX11_farTo_13 ml_X11_162 ok_X11_size st_X11_size rfl (Nat.le_of_ble_eq_true rfl) (by decide) (Nat.le_of_ble_eq_true rfl) rfl rfl rfl rfl (fun x9 h8 hF => ?_)
  refine z_aload_n (q := 17) dX11_farTo_16 rfl rfl rfl ?_
  obtain ⟨g10, hF⟩ := hF
  obtain ⟨g11, hF⟩ := hF
  refine z_getR (c := 11) (k := 1) (r := (RX11, TX11, 54)) (q := 20) dX11_farTo_17 rfl (by decide) fl_X11_13 rfl g10 g11 rfl ?_
  refine z_iload_n (q := 21) dX11_farTo_20 rfl rfl rfl ?_
  obtain ⟨g12, hF⟩ := hF
  obtain ⟨g13, hF⟩ := hF
  refine y_iald (j := (Int32.toNatClampNeg l1)) (q := 22) dX11_farTo_21 (Or.inl g12) g13 rfl rfl ?_
  refine z_aload_n (q := 23) dX11_farTo_22 rfl rfl rfl ?_
  obtain ⟨g14, hF⟩ := hF
  refine z_getR (c := 11) (k := 3) (r := (RX11, TX11, 54)) (q := 26) dX11_farTo_23 rfl (by decide) fl_X11_19 rfl g10 g14 rfl ?_
  refine z_iload_n (q := 27) dX11_farTo_26 rfl rfl rfl ?_
  obtain ⟨g15, hF⟩ := hF
  obtain ⟨g16, hF⟩ := hF
  refine y_iald (j := (Int32.toNatClampNeg l2)) (q := 28) dX11_farTo_27 (Or.inl g15) g16 rfl rfl ?_
  refine z_isub (q := 29) dX11_farTo_28 rfl ?_
  refine z_callSI (rc := 0) (rs := 0) (av := [.int ((zI h8 (zR h8 l0 1) (Int32.toNatClampNeg l1)) - (zI h8 (zR h8 l0 3) (Int32.toNatClampNeg l2)))]) (q := 32) hF dX11_farTo_29 ml_X11_162 ok_X11_size st_X11_size rfl (Nat.le_of_ble_eq_true rfl) (by decide) (Nat.le_of_ble_eq_true rfl) rfl rfl rfl rfl (fun x18 h17 hF => ?_)
  refine z_iadd (q := 33) dX11_farTo_32 rfl ?_
  exact z_ireturn dX11_farTo_33 rfl ⟨_, rfl, hF⟩
set_option maxRecDepth 100000 in
set_option maxHeartbeats 4000000 in
theorem wX11_menAt_4 {ψ : Int32 → ZH → Prop} {l0 : Nat} {l1 : Int32} {l2 : Int32} {l3 : Int32} {h : ZH} (hF : (zK h l0 = 12) ∧ (((zI h l0 17) ≤ l3 → ψ l2 h) ∧ (¬ (zI h l0 17) ≤ l3 → ((zR h l0 14) ≠ 0) ∧ (zK h (zR h l0 14) = 20) ∧ (vp_in l3 (zN h (zR h l0 14))) ∧ ((¬ (zI h (zR h l0 14) (Int32.toNatClampNeg l3)) = l1 → Zt mX11_menAt (zPI ψ) 0 0 4 [some (.ref l0), some (.int l1), some (.int (l2 + 0)), some (.int (l3 + 1))] [] h) ∧ ((zI h (zR h l0 14) (Int32.toNatClampNeg l3)) = l1 → Zt mX11_menAt (zPI ψ) 0 0 4 [some (.ref l0), some (.int l1), some (.int (l2 + 1)), some (.int (l3 + 1))] [] h))))) : Zt mX11_menAt (zPI ψ) 0 0 4 [some (.ref l0), some (.int l1), some (.int l2), some (.int l3)] [] h := by
  refine z_iload_n (q := 5) dX11_menAt_4 rfl rfl rfl ?_
  refine z_aload_n (q := 6) dX11_menAt_5 rfl rfl rfl ?_
  obtain ⟨g1, hF⟩ := hF
  refine z_getI (c := 11) (k := 17) (r := (RX11, TX11, 54)) (q := 9) dX11_menAt_6 rfl (by decide) fl_X11_166 rfl g1 rfl ?_
  refine z_icmp_ge (t := 36) (q := 12) dX11_menAt_9 (by decide) rfl (fun hc => ?_) (fun hc => ?_)
  · have hF := hF.1 hc
    refine z_iload_n (q := 37) dX11_menAt_36 rfl rfl rfl ?_
    exact z_ireturn dX11_menAt_37 rfl ⟨_, rfl, hF⟩
  · have hF := hF.2 hc
    refine z_iload_n (q := 13) dX11_menAt_12 rfl rfl rfl ?_
    refine z_aload_n (q := 14) dX11_menAt_13 rfl rfl rfl ?_
    obtain ⟨g2, hF⟩ := hF
    refine z_getR (c := 11) (k := 14) (r := (RX11, TX11, 54)) (q := 17) dX11_menAt_14 rfl (by decide) fl_X11_50 rfl g1 g2 rfl ?_
    refine z_iload_n (q := 18) dX11_menAt_17 rfl rfl rfl ?_
    obtain ⟨g3, hF⟩ := hF
    obtain ⟨g4, hF⟩ := hF
    refine y_iald (j := (Int32.toNatClampNeg l3)) (q := 19) dX11_menAt_18 (Or.inl g3) g4 rfl rfl ?_
    refine z_iload_n (q := 20) dX11_menAt_19 rfl rfl rfl ?_
    refine z_icmp_ne (t := 27) (q := 23) dX11_menAt_20 (by decide) rfl (fun hc => ?_) (fun hc => ?_)
    · have hF := hF.1 hc
      refine z_iconst (q := 28) (v := 0) dX11_menAt_27 (by decide) rfl ?_
      refine z_iadd (q := 29) dX11_menAt_28 rfl ?_
      refine z_istore_n (q := 30) (L' := [some (.ref l0), some (.int l1), some (.int (l2 + 0)), some (.int l3)]) dX11_menAt_29 rfl (Nat.le_of_ble_eq_true rfl) rfl rfl rfl ?_
      refine z_iinc (q := 33) (v := (l3 + 1)) (L' := [some (.ref l0), some (.int l1), some (.int (l2 + 0)), some (.int (l3 + 1))]) dX11_menAt_30 rfl rfl (Nat.le_of_ble_eq_true rfl) rfl rfl rfl ?_
      refine z_goto (q := 4) dX11_menAt_33 (by decide) ?_
      exact hF
    · have hF := hF.2 hc
      refine z_iconst (q := 24) (v := 1) dX11_menAt_23 (by decide) rfl ?_
      refine z_goto (q := 28) dX11_menAt_24 (by decide) ?_
      refine z_iadd (q := 29) dX11_menAt_28 rfl ?_
      refine z_istore_n (q := 30) (L' := [some (.ref l0), some (.int l1), some (.int (l2 + 1)), some (.int l3)]) dX11_menAt_29 rfl (Nat.le_of_ble_eq_true rfl) rfl rfl rfl ?_
      refine z_iinc (q := 33) (v := (l3 + 1)) (L' := [some (.ref l0), some (.int l1), some (.int (l2 + 1)), some (.int (l3 + 1))]) dX11_menAt_30 rfl rfl (Nat.le_of_ble_eq_true rfl) rfl rfl rfl ?_
      refine z_goto (q := 4) dX11_menAt_33 (by decide) ?_
      exact hF
set_option maxRecDepth 100000 in
set_option maxHeartbeats 4000000 in
theorem wX11_menAt {ψ : Int32 → ZH → Prop} {l0 : Nat} {l1 : Int32} {h : ZH} (hF : Zt mX11_menAt (zPI ψ) 0 0 4 [some (.ref l0), some (.int l1), some (.int 0), some (.int 0)] [] h) : ZcI mX11_menAt [.ref l0, .int l1] h ψ := by
  refine Zc.intro (L := [some (.ref l0), some (.int l1), none, none]) (show plainName RX11 = true by decide) rfl (Nat.le_of_ble_eq_true rfl) ?_
  show Zt _ _ 0 0 _ _ _ _
  refine z_iconst (q := 1) (v := 0) dX11_menAt_0 (by decide) rfl ?_
  refine z_istore_n (q := 2) (L' := [some (.ref l0), some (.int l1), some (.int 0), none]) dX11_menAt_1 rfl (Nat.le_of_ble_eq_true rfl) rfl rfl rfl ?_
  refine z_iconst (q := 3) (v := 0) dX11_menAt_2 (by decide) rfl ?_
  refine z_istore_n (q := 4) (L' := [some (.ref l0), some (.int l1), some (.int 0), some (.int 0)]) dX11_menAt_3 rfl (Nat.le_of_ble_eq_true rfl) rfl rfl rfl ?_
  exact hF
set_option maxRecDepth 100000 in
set_option maxHeartbeats 4000000 in
theorem wX11_about {ψ : Int32 → ZH → Prop} {l0 : Nat} {l1 : Int32} {l2 : Int32} {h : ZH} (hF : (zK h l0 = 12) ∧ ZcI mX11_isPit [.ref l0, .int l1] h (fun x3 h1 => ((¬ x3 = 0 → ((l2 = 0 → (zK h1 l0 = 12) ∧ ((zR h1 l0 2) ≠ 0) ∧ (zK h1 (zR h1 l0 2) = 20) ∧ (vp_in l1 (zN h1 (zR h1 l0 2))) ∧ ψ (zI h1 (zR h1 l0 2) (Int32.toNatClampNeg l1)) h1) ∧ (l2 = 1 → (zK h1 l0 = 12) ∧ ((zR h1 l0 3) ≠ 0) ∧ (zK h1 (zR h1 l0 3) = 20) ∧ (vp_in l1 (zN h1 (zR h1 l0 3))) ∧ ψ (zI h1 (zR h1 l0 3) (Int32.toNatClampNeg l1)) h1) ∧ (l2 = 2 → (zK h1 l0 = 12) ∧ ((zR h1 l0 4) ≠ 0) ∧ (zK h1 (zR h1 l0 4) = 20) ∧ (vp_in l1 (zN h1 (zR h1 l0 4))) ∧ ψ (zI h1 (zR h1 l0 4) (Int32.toNatClampNeg l1)) h1) ∧ (l2 = 3 → (zK h1 l0 = 12) ∧ ((zR h1 l0 5) ≠ 0) ∧ (zK h1 (zR h1 l0 5) = 20) ∧ (vp_in l1 (zN h1 (zR h1 l0 5))) ∧ ψ (zI h1 (zR h1 l0 5) (Int32.toNatClampNeg l1)) h1) ∧ (l2 = 4 → (zK h1 l0 = 12) ∧ ((zR h1 l0 6) ≠ 0) ∧ (zK h1 (zR h1 l0 6) = 20) ∧ (vp_in l1 (zN h1 (zR h1 l0 6))) ∧ ψ (zI h1 (zR h1 l0 6) (Int32.toNatClampNeg l1)) h1) ∧ (l2 = 5 → (zK h1 l0 = 12) ∧ ((zR h1 l0 7) ≠ 0) ∧ (zK h1 (zR h1 l0 7) = 21) ∧ (vp_in l1 (zN h1 (zR h1 l0 7))) ∧ (((zI h1 (zR h1 l0 7) (Int32.toNatClampNeg l1)) = 0 → ψ 0 h1) ∧ (¬ (zI h1 (zR h1 l0 7) (Int32.toNatClampNeg l1)) = 0 → ψ 1 h1))) ∧ (l2 = 6 → (zK h1 l0 = 12) ∧ ZcI mX11_menAt [.ref l0, .int l1] h1 (fun x40 h38 => ψ x40 h38)) ∧ (l2 = 7 → (zK h1 l0 = 12) ∧ ((zR h1 l0 33) ≠ 0) ∧ (zK h1 (zR h1 l0 33) = 20) ∧ (vp_in l1 (zN h1 (zR h1 l0 33))) ∧ ψ (zI h1 (zR h1 l0 33) (Int32.toNatClampNeg l1)) h1) ∧ (l2 = 8 → (zK h1 l0 = 12) ∧ ((zR h1 l0 35) ≠ 0) ∧ (zK h1 (zR h1 l0 35) = 20) ∧ (vp_in l1 (zN h1 (zR h1 l0 35))) ∧ ψ (zI h1 (zR h1 l0 35) (Int32.toNatClampNeg l1)) h1) ∧ (l2 = 9 → (zK h1 l0 = 12) ∧ ((zR h1 l0 34) ≠ 0) ∧ (zK h1 (zR h1 l0 34) = 21) ∧ (vp_in l1 (zN h1 (zR h1 l0 34))) ∧ (((zI h1 (zR h1 l0 34) (Int32.toNatClampNeg l1)) = 0 → ψ 0 h1) ∧ (¬ (zI h1 (zR h1 l0 34) (Int32.toNatClampNeg l1)) = 0 → ψ 1 h1))) ∧ (¬ l2 = 0 → ¬ l2 = 1 → ¬ l2 = 2 → ¬ l2 = 3 → ¬ l2 = 4 → ¬ l2 = 5 → ¬ l2 = 6 → ¬ l2 = 7 → ¬ l2 = 8 → ¬ l2 = 9 → ZcI mX11_in [.long (Int32.toInt64 l2), .long 10, .long 12] h1 (fun x54 h53 => ((x54 = 0 → ψ (-2) h53) ∧ (¬ x54 = 0 → (zK h53 l0 = 12) ∧ ((zR h53 l0 8) ≠ 0) ∧ (zK h53 (zR h53 l0 8) = 20) ∧ (vp_in (((3 * l1) + l2) - 10) (zN h53 (zR h53 l0 8))) ∧ ψ (zI h53 (zR h53 l0 8) (Int32.toNatClampNeg (((3 * l1) + l2) - 10))) h53)))))) ∧ (x3 = 0 → ψ (-1) h1)))) : ZcI mX11_about [.ref l0, .int l1, .int l2] h ψ := by
  refine Zc.intro (L := [some (.ref l0), some (.int l1), some (.int l2)]) (show plainName RX11 = true by decide) rfl (Nat.le_of_ble_eq_true rfl) ?_
  show Zt _ _ 0 0 _ _ _ _
  refine z_aload_n (q := 1) dX11_about_0 rfl rfl rfl ?_
  refine z_iload_n (q := 2) dX11_about_1 rfl rfl rfl ?_
  obtain ⟨g2, hF⟩ := hF
  refine z_callVI (rc := 0) (rs := 0) (b := l0) (av := [.int l1]) (ci := 11) (r := (RX11, TX11, 54)) (q := 5) hF dX11_about_2 ml_X11_169 ok_X11_isPit in_X11_isPit se_X11_isPit rfl rfl g2 rfl (Nat.le_of_ble_eq_true rfl) (by decide) (Nat.le_of_ble_eq_true rfl) rfl rfl rfl rfl (fun x3 h1 hF => ?_)
  refine z_if_ne (t := 10) (q := 8) dX11_about_5 (by decide) rfl (fun hc => ?_) (fun hc => ?_)
  · have hF := hF.1 hc
    refine z_iload_n (q := 11) dX11_about_10 rfl rfl rfl ?_
    by_cases e4 : l2 = 0
    · refine z_tableIn (q := 64) (off := 53) dX11_about_11 (by rw [e4]; decide) (by rw [e4]; decide) (by rw [e4]; decide) (by decide) ?_
      have hF := hF.1 e4
      refine z_aload_n (q := 65) dX11_about_64 rfl rfl rfl ?_
      obtain ⟨g14, hF⟩ := hF
      obtain ⟨g15, hF⟩ := hF
      refine z_getR (c := 11) (k := 2) (r := (RX11, TX11, 54)) (q := 68) dX11_about_65 rfl (by decide) fl_X11_16 rfl g14 g15 rfl ?_
      refine z_iload_n (q := 69) dX11_about_68 rfl rfl rfl ?_
      obtain ⟨g16, hF⟩ := hF
      obtain ⟨g17, hF⟩ := hF
      refine y_iald (j := (Int32.toNatClampNeg l1)) (q := 70) dX11_about_69 (Or.inl g16) g17 rfl rfl ?_
      exact z_ireturn dX11_about_70 rfl ⟨_, rfl, hF⟩
    by_cases e5 : l2 = 1
    · refine z_tableIn (q := 71) (off := 60) dX11_about_11 (by rw [e5]; decide) (by rw [e5]; decide) (by rw [e5]; decide) (by decide) ?_
      have hF := hF.2.1 e5
      refine z_aload_n (q := 72) dX11_about_71 rfl rfl rfl ?_
      obtain ⟨g18, hF⟩ := hF
      obtain ⟨g19, hF⟩ := hF
      refine z_getR (c := 11) (k := 3) (r := (RX11, TX11, 54)) (q := 75) dX11_about_72 rfl (by decide) fl_X11_19 rfl g18 g19 rfl ?_
      refine z_iload_n (q := 76) dX11_about_75 rfl rfl rfl ?_
      obtain ⟨g20, hF⟩ := hF
      obtain ⟨g21, hF⟩ := hF
      refine y_iald (j := (Int32.toNatClampNeg l1)) (q := 77) dX11_about_76 (Or.inl g20) g21 rfl rfl ?_
      exact z_ireturn dX11_about_77 rfl ⟨_, rfl, hF⟩
    by_cases e6 : l2 = 2
    · refine z_tableIn (q := 78) (off := 67) dX11_about_11 (by rw [e6]; decide) (by rw [e6]; decide) (by rw [e6]; decide) (by decide) ?_
      have hF := hF.2.2.1 e6
      refine z_aload_n (q := 79) dX11_about_78 rfl rfl rfl ?_
      obtain ⟨g22, hF⟩ := hF
      obtain ⟨g23, hF⟩ := hF
      refine z_getR (c := 11) (k := 4) (r := (RX11, TX11, 54)) (q := 82) dX11_about_79 rfl (by decide) fl_X11_22 rfl g22 g23 rfl ?_
      refine z_iload_n (q := 83) dX11_about_82 rfl rfl rfl ?_
      obtain ⟨g24, hF⟩ := hF
      obtain ⟨g25, hF⟩ := hF
      refine y_iald (j := (Int32.toNatClampNeg l1)) (q := 84) dX11_about_83 (Or.inl g24) g25 rfl rfl ?_
      exact z_ireturn dX11_about_84 rfl ⟨_, rfl, hF⟩
    by_cases e7 : l2 = 3
    · refine z_tableIn (q := 85) (off := 74) dX11_about_11 (by rw [e7]; decide) (by rw [e7]; decide) (by rw [e7]; decide) (by decide) ?_
      have hF := hF.2.2.2.1 e7
      refine z_aload_n (q := 86) dX11_about_85 rfl rfl rfl ?_
      obtain ⟨g26, hF⟩ := hF
      obtain ⟨g27, hF⟩ := hF
      refine z_getR (c := 11) (k := 5) (r := (RX11, TX11, 54)) (q := 89) dX11_about_86 rfl (by decide) fl_X11_25 rfl g26 g27 rfl ?_
      refine z_iload_n (q := 90) dX11_about_89 rfl rfl rfl ?_
      obtain ⟨g28, hF⟩ := hF
      obtain ⟨g29, hF⟩ := hF
      refine y_iald (j := (Int32.toNatClampNeg l1)) (q := 91) dX11_about_90 (Or.inl g28) g29 rfl rfl ?_
      exact z_ireturn dX11_about_91 rfl ⟨_, rfl, hF⟩
    by_cases e8 : l2 = 4
    · refine z_tableIn (q := 92) (off := 81) dX11_about_11 (by rw [e8]; decide) (by rw [e8]; decide) (by rw [e8]; decide) (by decide) ?_
      have hF := hF.2.2.2.2.1 e8
      refine z_aload_n (q := 93) dX11_about_92 rfl rfl rfl ?_
      obtain ⟨g30, hF⟩ := hF
      obtain ⟨g31, hF⟩ := hF
      refine z_getR (c := 11) (k := 6) (r := (RX11, TX11, 54)) (q := 96) dX11_about_93 rfl (by decide) fl_X11_28 rfl g30 g31 rfl ?_
      refine z_iload_n (q := 97) dX11_about_96 rfl rfl rfl ?_
      obtain ⟨g32, hF⟩ := hF
      obtain ⟨g33, hF⟩ := hF
      refine y_iald (j := (Int32.toNatClampNeg l1)) (q := 98) dX11_about_97 (Or.inl g32) g33 rfl rfl ?_
      exact z_ireturn dX11_about_98 rfl ⟨_, rfl, hF⟩
    by_cases e9 : l2 = 5
    · refine z_tableIn (q := 99) (off := 88) dX11_about_11 (by rw [e9]; decide) (by rw [e9]; decide) (by rw [e9]; decide) (by decide) ?_
      have hF := hF.2.2.2.2.2.1 e9
      refine z_aload_n (q := 100) dX11_about_99 rfl rfl rfl ?_
      obtain ⟨g34, hF⟩ := hF
      obtain ⟨g35, hF⟩ := hF
      refine z_getR (c := 11) (k := 7) (r := (RX11, TX11, 54)) (q := 103) dX11_about_100 rfl (by decide) fl_X11_31 rfl g34 g35 rfl ?_
      refine z_iload_n (q := 104) dX11_about_103 rfl rfl rfl ?_
      obtain ⟨g36, hF⟩ := hF
      obtain ⟨g37, hF⟩ := hF
      refine y_bald (j := (Int32.toNatClampNeg l1)) (q := 105) dX11_about_104 g36 g37 rfl rfl ?_
      refine z_if_eq (t := 112) (q := 108) dX11_about_105 (by decide) rfl (fun hc => ?_) (fun hc => ?_)
      · have hF := hF.1 hc
        refine z_iconst (q := 113) (v := 0) dX11_about_112 (by decide) rfl ?_
        exact z_ireturn dX11_about_113 rfl ⟨_, rfl, hF⟩
      · have hF := hF.2 hc
        refine z_iconst (q := 109) (v := 1) dX11_about_108 (by decide) rfl ?_
        refine z_goto (q := 113) dX11_about_109 (by decide) ?_
        exact z_ireturn dX11_about_113 rfl ⟨_, rfl, hF⟩
    by_cases e10 : l2 = 6
    · refine z_tableIn (q := 114) (off := 103) dX11_about_11 (by rw [e10]; decide) (by rw [e10]; decide) (by rw [e10]; decide) (by decide) ?_
      have hF := hF.2.2.2.2.2.2.1 e10
      refine z_aload_n (q := 115) dX11_about_114 rfl rfl rfl ?_
      refine z_iload_n (q := 116) dX11_about_115 rfl rfl rfl ?_
      obtain ⟨g39, hF⟩ := hF
      refine z_callVI (rc := 0) (rs := 0) (b := l0) (av := [.int l1]) (ci := 11) (r := (RX11, TX11, 54)) (q := 119) hF dX11_about_116 ml_X11_172 ok_X11_menAt in_X11_menAt se_X11_menAt rfl rfl g39 rfl (Nat.le_of_ble_eq_true rfl) (by decide) (Nat.le_of_ble_eq_true rfl) rfl rfl rfl rfl (fun x40 h38 hF => ?_)
      exact z_ireturn dX11_about_119 rfl ⟨_, rfl, hF⟩
    by_cases e11 : l2 = 7
    · refine z_tableIn (q := 120) (off := 109) dX11_about_11 (by rw [e11]; decide) (by rw [e11]; decide) (by rw [e11]; decide) (by decide) ?_
      have hF := hF.2.2.2.2.2.2.2.1 e11
      refine z_aload_n (q := 121) dX11_about_120 rfl rfl rfl ?_
      obtain ⟨g41, hF⟩ := hF
      obtain ⟨g42, hF⟩ := hF
      refine z_getR (c := 11) (k := 33) (r := (RX11, TX11, 54)) (q := 124) dX11_about_121 rfl (by decide) fl_X11_93 rfl g41 g42 rfl ?_
      refine z_iload_n (q := 125) dX11_about_124 rfl rfl rfl ?_
      obtain ⟨g43, hF⟩ := hF
      obtain ⟨g44, hF⟩ := hF
      refine y_iald (j := (Int32.toNatClampNeg l1)) (q := 126) dX11_about_125 (Or.inl g43) g44 rfl rfl ?_
      exact z_ireturn dX11_about_126 rfl ⟨_, rfl, hF⟩
    by_cases e12 : l2 = 8
    · refine z_tableIn (q := 127) (off := 116) dX11_about_11 (by rw [e12]; decide) (by rw [e12]; decide) (by rw [e12]; decide) (by decide) ?_
      have hF := hF.2.2.2.2.2.2.2.2.1 e12
      refine z_aload_n (q := 128) dX11_about_127 rfl rfl rfl ?_
      obtain ⟨g45, hF⟩ := hF
      obtain ⟨g46, hF⟩ := hF
      refine z_getR (c := 11) (k := 35) (r := (RX11, TX11, 54)) (q := 131) dX11_about_128 rfl (by decide) fl_X11_99 rfl g45 g46 rfl ?_
      refine z_iload_n (q := 132) dX11_about_131 rfl rfl rfl ?_
      obtain ⟨g47, hF⟩ := hF
      obtain ⟨g48, hF⟩ := hF
      refine y_iald (j := (Int32.toNatClampNeg l1)) (q := 133) dX11_about_132 (Or.inl g47) g48 rfl rfl ?_
      exact z_ireturn dX11_about_133 rfl ⟨_, rfl, hF⟩
    by_cases e13 : l2 = 9
    · refine z_tableIn (q := 134) (off := 123) dX11_about_11 (by rw [e13]; decide) (by rw [e13]; decide) (by rw [e13]; decide) (by decide) ?_
      have hF := hF.2.2.2.2.2.2.2.2.2.1 e13
      refine z_aload_n (q := 135) dX11_about_134 rfl rfl rfl ?_
      obtain ⟨g49, hF⟩ := hF
      obtain ⟨g50, hF⟩ := hF
      refine z_getR (c := 11) (k := 34) (r := (RX11, TX11, 54)) (q := 138) dX11_about_135 rfl (by decide) fl_X11_96 rfl g49 g50 rfl ?_
      refine z_iload_n (q := 139) dX11_about_138 rfl rfl rfl ?_
      obtain ⟨g51, hF⟩ := hF
      obtain ⟨g52, hF⟩ := hF
      refine y_bald (j := (Int32.toNatClampNeg l1)) (q := 140) dX11_about_139 g51 g52 rfl rfl ?_
      refine z_if_eq (t := 147) (q := 143) dX11_about_140 (by decide) rfl (fun hc => ?_) (fun hc => ?_)
      · have hF := hF.1 hc
        refine z_iconst (q := 148) (v := 0) dX11_about_147 (by decide) rfl ?_
        exact z_ireturn dX11_about_148 rfl ⟨_, rfl, hF⟩
      · have hF := hF.2 hc
        refine z_iconst (q := 144) (v := 1) dX11_about_143 (by decide) rfl ?_
        refine z_goto (q := 148) dX11_about_144 (by decide) ?_
        exact z_ireturn dX11_about_148 rfl ⟨_, rfl, hF⟩
    refine z_tableOut (q := 149) dX11_about_11 (by
      have k0 := zsw_ne (k := 0) e4 (by decide)
      have k1 := zsw_ne (k := 1) e5 (by decide)
      have k2 := zsw_ne (k := 2) e6 (by decide)
      have k3 := zsw_ne (k := 3) e7 (by decide)
      have k4 := zsw_ne (k := 4) e8 (by decide)
      have k5 := zsw_ne (k := 5) e9 (by decide)
      have k6 := zsw_ne (k := 6) e10 (by decide)
      have k7 := zsw_ne (k := 7) e11 (by decide)
      have k8 := zsw_ne (k := 8) e12 (by decide)
      have k9 := zsw_ne (k := 9) e13 (by decide)
      omega) (by decide) ?_
    have hF := hF.2.2.2.2.2.2.2.2.2.2 e4 e5 e6 e7 e8 e9 e10 e11 e12 e13
    refine z_iload_n (q := 150) dX11_about_149 rfl rfl rfl ?_
    refine z_i2l (q := 151) dX11_about_150 rfl ?_
    refine z_ldc2 (q := 154) (v := 10) dX11_about_151 cw_X11_175 rfl ?_
    refine z_ldc2 (q := 157) (v := 12) dX11_about_154 cw_X11_177 rfl ?_
    refine z_callSI (rc := 0) (rs := 0) (av := [.long (Int32.toInt64 l2), .long 10, .long 12]) (q := 160) hF dX11_about_157 ml_X11_140 ok_X11_in st_X11_in rfl (Nat.le_of_ble_eq_true rfl) (by decide) (Nat.le_of_ble_eq_true rfl) rfl rfl rfl rfl (fun x54 h53 hF => ?_)
    refine z_if_eq (t := 179) (q := 163) dX11_about_160 (by decide) rfl (fun hc => ?_) (fun hc => ?_)
    · have hF := hF.1 hc
      refine z_bipush (q := 181) (v := (-2)) dX11_about_179 (by decide) rfl ?_
      exact z_ireturn dX11_about_181 rfl ⟨_, rfl, hF⟩
    · have hF := hF.2 hc
      refine z_aload_n (q := 164) dX11_about_163 rfl rfl rfl ?_
      obtain ⟨g55, hF⟩ := hF
      obtain ⟨g56, hF⟩ := hF
      refine z_getR (c := 11) (k := 8) (r := (RX11, TX11, 54)) (q := 167) dX11_about_164 rfl (by decide) fl_X11_35 rfl g55 g56 rfl ?_
      refine z_iconst (q := 168) (v := 3) dX11_about_167 (by decide) rfl ?_
      refine z_iload_n (q := 169) dX11_about_168 rfl rfl rfl ?_
      refine z_imul (q := 170) dX11_about_169 rfl ?_
      refine z_iload_n (q := 171) dX11_about_170 rfl rfl rfl ?_
      refine z_iadd (q := 172) dX11_about_171 rfl ?_
      refine z_bipush (q := 174) (v := 10) dX11_about_172 (by decide) rfl ?_
      refine z_isub (q := 175) dX11_about_174 rfl ?_
      obtain ⟨g57, hF⟩ := hF
      obtain ⟨g58, hF⟩ := hF
      refine y_iald (j := (Int32.toNatClampNeg (((3 * l1) + l2) - 10))) (q := 176) dX11_about_175 (Or.inl g57) g58 rfl rfl ?_
      refine z_goto (q := 181) dX11_about_176 (by decide) ?_
      exact z_ireturn dX11_about_181 rfl ⟨_, rfl, hF⟩
  · have hF := hF.2 hc
    refine z_iconst (q := 9) (v := (-1)) dX11_about_8 (by decide) rfl ?_
    exact z_ireturn dX11_about_9 rfl ⟨_, rfl, hF⟩
set_option maxRecDepth 100000 in
set_option maxHeartbeats 4000000 in
theorem wX11_man {ψ : Int32 → ZH → Prop} {l0 : Nat} {l1 : Int32} {l2 : Int32} {l3 : Int32} {l4 : Int32} {l5 : Int32} {l6 : Int32} {h : ZH} (hF : ZcI mX11_isTown [.int l4] h (fun x2 h1 => ((x2 = 0 → ψ (-1) h1) ∧ (¬ x2 = 0 → (zK h1 l0 = 12) ∧ ZcI mX11_isPit [.ref l0, .int l5] h1 (fun x5 h3 => ((¬ x5 = 0 → ZcI mX11_in [.long (Int32.toInt64 l1), .long 14, .long 70] h3 (fun x7 h6 => ((x7 = 0 → ψ (-2) h6) ∧ (¬ x7 = 0 → ZcI mX11_in [.long (Int32.toInt64 l2), .long 0, .long 2] h6 (fun x9 h8 => ((x9 = 0 → ψ (-2) h8) ∧ (¬ x9 = 0 → ZcI mX11_in [.long (Int32.toInt64 l3), .long 0, .long 50] h8 (fun x11 h10 => ((¬ x11 = 0 → (zK h10 l0 = 12) ∧ ((zR h10 l0 7) ≠ 0) ∧ (zK h10 (zR h10 l0 7) = 21) ∧ (vp_in l5 (zN h10 (zR h10 l0 7))) ∧ ((¬ (zI h10 (zR h10 l0 7) (Int32.toNatClampNeg l5)) = 0 → ((¬ (zI h10 l0 17) = 24 → ((zR h10 l0 10) ≠ 0) ∧ (zK h10 (zR h10 l0 10) = 20) ∧ (vp_in (zI h10 l0 17) (zN h10 (zR h10 l0 10))) ∧ ((zR h10 l0 11) ≠ 0) ∧ ∀ h20 : ZH, h20 = (zsI h10 (zR h10 l0 10) (Int32.toNatClampNeg (zI h10 l0 17)) l1) → (zK h20 l0 = 12) ∧ (zK h20 (zR h10 l0 11) = 20) ∧ (vp_in (zI h20 l0 17) (zN h20 (zR h10 l0 11))) ∧ ((zR h20 l0 12) ≠ 0) ∧ ∀ h26 : ZH, h26 = (zsI h20 (zR h10 l0 11) (Int32.toNatClampNeg (zI h20 l0 17)) l2) → (zK h26 l0 = 12) ∧ (zK h26 (zR h20 l0 12) = 20) ∧ (vp_in (zI h26 l0 17) (zN h26 (zR h20 l0 12))) ∧ ((zR h26 l0 13) ≠ 0) ∧ ∀ h32 : ZH, h32 = (zsI h26 (zR h20 l0 12) (Int32.toNatClampNeg (zI h26 l0 17)) l3) → (zK h32 l0 = 12) ∧ (zK h32 (zR h26 l0 13) = 20) ∧ (vp_in (zI h32 l0 17) (zN h32 (zR h26 l0 13))) ∧ ((zR h32 l0 14) ≠ 0) ∧ ∀ h38 : ZH, h38 = (zsI h32 (zR h26 l0 13) (Int32.toNatClampNeg (zI h32 l0 17)) l4) → (zK h38 l0 = 12) ∧ (zK h38 (zR h32 l0 14) = 20) ∧ (vp_in (zI h38 l0 17) (zN h38 (zR h32 l0 14))) ∧ ((zR h38 l0 15) ≠ 0) ∧ ∀ h44 : ZH, h44 = (zsI h38 (zR h32 l0 14) (Int32.toNatClampNeg (zI h38 l0 17)) l5) → (zK h44 l0 = 12) ∧ (zK h44 (zR h38 l0 15) = 21) ∧ (vp_in (zI h44 l0 17) (zN h44 (zR h38 l0 15))) ∧ (l6 = 0 ∨ l6 = 1) ∧ ((zR h44 l0 16) ≠ 0) ∧ ∀ h51 : ZH, h51 = (zsI h44 (zR h38 l0 15) (Int32.toNatClampNeg (zI h44 l0 17)) l6) → (zK h51 l0 = 12) ∧ (zK h51 (zR h44 l0 16) = 20) ∧ (vp_in (zI h51 l0 17) (zN h51 (zR h44 l0 16))) ∧ ∀ h56 : ZH, h56 = (zsI h51 (zR h44 l0 16) (Int32.toNatClampNeg (zI h51 l0 17)) 0) → (zK h56 l0 = 12) ∧ ∀ h59 : ZH, h59 = (zsI h56 l0 17 ((zI h56 l0 17) + 1)) → (zK h59 l0 = 12) ∧ ψ ((zI h59 l0 17) - 1) h59) ∧ ((zI h10 l0 17) = 24 → ψ (-4) h10))) ∧ ((zI h10 (zR h10 l0 7) (Int32.toNatClampNeg l5)) = 0 → ψ (-3) h10))) ∧ (x11 = 0 → ψ (-2) h10)))))))))) ∧ (x5 = 0 → ψ (-1) h3))))))) : ZcI mX11_man [.ref l0, .int l1, .int l2, .int l3, .int l4, .int l5, .int l6] h ψ := by
  refine Zc.intro (L := [some (.ref l0), some (.int l1), some (.int l2), some (.int l3), some (.int l4), some (.int l5), some (.int l6)]) (show plainName RX11 = true by decide) rfl (Nat.le_of_ble_eq_true rfl) ?_
  show Zt _ _ 0 0 _ _ _ _
  refine z_iload (q := 2) dX11_man_0 rfl rfl ?_
  refine z_callSI (rc := 0) (rs := 0) (av := [.int l4]) (q := 5) hF dX11_man_2 ml_X11_150 ok_X11_isTown st_X11_isTown rfl (Nat.le_of_ble_eq_true rfl) (by decide) (Nat.le_of_ble_eq_true rfl) rfl rfl rfl rfl (fun x2 h1 hF => ?_)
  refine z_if_eq (t := 17) (q := 8) dX11_man_5 (by decide) rfl (fun hc => ?_) (fun hc => ?_)
  · have hF := hF.1 hc
    refine z_iconst (q := 18) (v := (-1)) dX11_man_17 (by decide) rfl ?_
    exact z_ireturn dX11_man_18 rfl ⟨_, rfl, hF⟩
  · have hF := hF.2 hc
    refine z_aload_n (q := 9) dX11_man_8 rfl rfl rfl ?_
    refine z_iload (q := 11) dX11_man_9 rfl rfl ?_
    obtain ⟨g4, hF⟩ := hF
    refine z_callVI (rc := 0) (rs := 0) (b := l0) (av := [.int l5]) (ci := 11) (r := (RX11, TX11, 54)) (q := 14) hF dX11_man_11 ml_X11_169 ok_X11_isPit in_X11_isPit se_X11_isPit rfl rfl g4 rfl (Nat.le_of_ble_eq_true rfl) (by decide) (Nat.le_of_ble_eq_true rfl) rfl rfl rfl rfl (fun x5 h3 hF => ?_)
    refine z_if_ne (t := 19) (q := 17) dX11_man_14 (by decide) rfl (fun hc => ?_) (fun hc => ?_)
    · have hF := hF.1 hc
      refine z_iload_n (q := 20) dX11_man_19 rfl rfl rfl ?_
      refine z_i2l (q := 21) dX11_man_20 rfl ?_
      refine z_ldc2 (q := 24) (v := 14) dX11_man_21 cw_X11_179 rfl ?_
      refine z_ldc2 (q := 27) (v := 70) dX11_man_24 cw_X11_181 rfl ?_
      refine z_callSI (rc := 0) (rs := 0) (av := [.long (Int32.toInt64 l1), .long 14, .long 70]) (q := 30) hF dX11_man_27 ml_X11_140 ok_X11_in st_X11_in rfl (Nat.le_of_ble_eq_true rfl) (by decide) (Nat.le_of_ble_eq_true rfl) rfl rfl rfl rfl (fun x7 h6 hF => ?_)
      refine z_if_eq (t := 57) (q := 33) dX11_man_30 (by decide) rfl (fun hc => ?_) (fun hc => ?_)
      · have hF := hF.1 hc
        refine z_bipush (q := 59) (v := (-2)) dX11_man_57 (by decide) rfl ?_
        exact z_ireturn dX11_man_59 rfl ⟨_, rfl, hF⟩
      · have hF := hF.2 hc
        refine z_iload_n (q := 34) dX11_man_33 rfl rfl rfl ?_
        refine z_i2l (q := 35) dX11_man_34 rfl ?_
        refine z_lconst (q := 36) (v := 0) dX11_man_35 (by decide) rfl ?_
        refine z_ldc2 (q := 39) (v := 2) dX11_man_36 cw_X11_183 rfl ?_
        refine z_callSI (rc := 0) (rs := 0) (av := [.long (Int32.toInt64 l2), .long 0, .long 2]) (q := 42) hF dX11_man_39 ml_X11_140 ok_X11_in st_X11_in rfl (Nat.le_of_ble_eq_true rfl) (by decide) (Nat.le_of_ble_eq_true rfl) rfl rfl rfl rfl (fun x9 h8 hF => ?_)
        refine z_if_eq (t := 57) (q := 45) dX11_man_42 (by decide) rfl (fun hc => ?_) (fun hc => ?_)
        · have hF := hF.1 hc
          refine z_bipush (q := 59) (v := (-2)) dX11_man_57 (by decide) rfl ?_
          exact z_ireturn dX11_man_59 rfl ⟨_, rfl, hF⟩
        · have hF := hF.2 hc
          refine z_iload_n (q := 46) dX11_man_45 rfl rfl rfl ?_
          refine z_i2l (q := 47) dX11_man_46 rfl ?_
          refine z_lconst (q := 48) (v := 0) dX11_man_47 (by decide) rfl ?_
          refine z_ldc2 (q := 51) (v := 50) dX11_man_48 cw_X11_185 rfl ?_
          refine z_callSI (rc := 0) (rs := 0) (av := [.long (Int32.toInt64 l3), .long 0, .long 50]) (q := 54) hF dX11_man_51 ml_X11_140 ok_X11_in st_X11_in rfl (Nat.le_of_ble_eq_true rfl) (by decide) (Nat.le_of_ble_eq_true rfl) rfl rfl rfl rfl (fun x11 h10 hF => ?_)
          refine z_if_ne (t := 60) (q := 57) dX11_man_54 (by decide) rfl (fun hc => ?_) (fun hc => ?_)
          · have hF := hF.1 hc
            refine z_aload_n (q := 61) dX11_man_60 rfl rfl rfl ?_
            obtain ⟨g12, hF⟩ := hF
            obtain ⟨g13, hF⟩ := hF
            refine z_getR (c := 11) (k := 7) (r := (RX11, TX11, 54)) (q := 64) dX11_man_61 rfl (by decide) fl_X11_31 rfl g12 g13 rfl ?_
            refine z_iload (q := 66) dX11_man_64 rfl rfl ?_
            obtain ⟨g14, hF⟩ := hF
            obtain ⟨g15, hF⟩ := hF
            refine y_bald (j := (Int32.toNatClampNeg l5)) (q := 67) dX11_man_66 g14 g15 rfl rfl ?_
            refine z_if_ne (t := 73) (q := 70) dX11_man_67 (by decide) rfl (fun hc => ?_) (fun hc => ?_)
            · have hF := hF.1 hc
              refine z_aload_n (q := 74) dX11_man_73 rfl rfl rfl ?_
              refine z_getI (c := 11) (k := 17) (r := (RX11, TX11, 54)) (q := 77) dX11_man_74 rfl (by decide) fl_X11_166 rfl g12 rfl ?_
              refine z_bipush (q := 79) (v := 24) dX11_man_77 (by decide) rfl ?_
              refine z_icmp_ne (t := 85) (q := 82) dX11_man_79 (by decide) rfl (fun hc => ?_) (fun hc => ?_)
              · have hF := hF.1 hc
                refine z_aload_n (q := 86) dX11_man_85 rfl rfl rfl ?_
                obtain ⟨g16, hF⟩ := hF
                refine z_getR (c := 11) (k := 10) (r := (RX11, TX11, 54)) (q := 89) dX11_man_86 rfl (by decide) fl_X11_38 rfl g12 g16 rfl ?_
                refine z_aload_n (q := 90) dX11_man_89 rfl rfl rfl ?_
                refine z_getI (c := 11) (k := 17) (r := (RX11, TX11, 54)) (q := 93) dX11_man_90 rfl (by decide) fl_X11_166 rfl g12 rfl ?_
                refine z_iload_n (q := 94) dX11_man_93 rfl rfl rfl ?_
                obtain ⟨g17, hF⟩ := hF
                obtain ⟨g18, hF⟩ := hF
                refine y_iast (j := (Int32.toNatClampNeg (zI h10 l0 17))) (q := 95) dX11_man_94 g17 g18 rfl rfl ?_
                refine z_aload_n (q := 96) dX11_man_95 rfl rfl rfl ?_
                obtain ⟨g19, hF⟩ := hF
                refine z_getR (c := 11) (k := 11) (r := (RX11, TX11, 54)) (q := 99) dX11_man_96 rfl (by decide) fl_X11_41 rfl g12 g19 rfl ?_
                refine z_aload_n (q := 100) dX11_man_99 rfl rfl rfl ?_
                refine z_nameH (fun h20 eh21 => ?_)
                have hF := hF h20 eh21
                obtain ⟨g22, hF⟩ := hF
                refine z_getI (c := 11) (k := 17) (r := (RX11, TX11, 54)) (q := 103) dX11_man_100 rfl (by decide) fl_X11_166 rfl g22 rfl ?_
                refine z_iload_n (q := 104) dX11_man_103 rfl rfl rfl ?_
                obtain ⟨g23, hF⟩ := hF
                obtain ⟨g24, hF⟩ := hF
                refine y_iast (j := (Int32.toNatClampNeg (zI h20 l0 17))) (q := 105) dX11_man_104 g23 g24 rfl rfl ?_
                refine z_aload_n (q := 106) dX11_man_105 rfl rfl rfl ?_
                obtain ⟨g25, hF⟩ := hF
                refine z_getR (c := 11) (k := 12) (r := (RX11, TX11, 54)) (q := 109) dX11_man_106 rfl (by decide) fl_X11_44 rfl g22 g25 rfl ?_
                refine z_aload_n (q := 110) dX11_man_109 rfl rfl rfl ?_
                refine z_nameH (fun h26 eh27 => ?_)
                have hF := hF h26 eh27
                obtain ⟨g28, hF⟩ := hF
                refine z_getI (c := 11) (k := 17) (r := (RX11, TX11, 54)) (q := 113) dX11_man_110 rfl (by decide) fl_X11_166 rfl g28 rfl ?_
                refine z_iload_n (q := 114) dX11_man_113 rfl rfl rfl ?_
                obtain ⟨g29, hF⟩ := hF
                obtain ⟨g30, hF⟩ := hF
                refine y_iast (j := (Int32.toNatClampNeg (zI h26 l0 17))) (q := 115) dX11_man_114 g29 g30 rfl rfl ?_
                refine z_aload_n (q := 116) dX11_man_115 rfl rfl rfl ?_
                obtain ⟨g31, hF⟩ := hF
                refine z_getR (c := 11) (k := 13) (r := (RX11, TX11, 54)) (q := 119) dX11_man_116 rfl (by decide) fl_X11_47 rfl g28 g31 rfl ?_
                refine z_aload_n (q := 120) dX11_man_119 rfl rfl rfl ?_
                refine z_nameH (fun h32 eh33 => ?_)
                have hF := hF h32 eh33
                obtain ⟨g34, hF⟩ := hF
                refine z_getI (c := 11) (k := 17) (r := (RX11, TX11, 54)) (q := 123) dX11_man_120 rfl (by decide) fl_X11_166 rfl g34 rfl ?_
                refine z_iload (q := 125) dX11_man_123 rfl rfl ?_
                obtain ⟨g35, hF⟩ := hF
                obtain ⟨g36, hF⟩ := hF
                refine y_iast (j := (Int32.toNatClampNeg (zI h32 l0 17))) (q := 126) dX11_man_125 g35 g36 rfl rfl ?_
                refine z_aload_n (q := 127) dX11_man_126 rfl rfl rfl ?_
                obtain ⟨g37, hF⟩ := hF
                refine z_getR (c := 11) (k := 14) (r := (RX11, TX11, 54)) (q := 130) dX11_man_127 rfl (by decide) fl_X11_50 rfl g34 g37 rfl ?_
                refine z_aload_n (q := 131) dX11_man_130 rfl rfl rfl ?_
                refine z_nameH (fun h38 eh39 => ?_)
                have hF := hF h38 eh39
                obtain ⟨g40, hF⟩ := hF
                refine z_getI (c := 11) (k := 17) (r := (RX11, TX11, 54)) (q := 134) dX11_man_131 rfl (by decide) fl_X11_166 rfl g40 rfl ?_
                refine z_iload (q := 136) dX11_man_134 rfl rfl ?_
                obtain ⟨g41, hF⟩ := hF
                obtain ⟨g42, hF⟩ := hF
                refine y_iast (j := (Int32.toNatClampNeg (zI h38 l0 17))) (q := 137) dX11_man_136 g41 g42 rfl rfl ?_
                refine z_aload_n (q := 138) dX11_man_137 rfl rfl rfl ?_
                obtain ⟨g43, hF⟩ := hF
                refine z_getR (c := 11) (k := 15) (r := (RX11, TX11, 54)) (q := 141) dX11_man_138 rfl (by decide) fl_X11_53 rfl g40 g43 rfl ?_
                refine z_aload_n (q := 142) dX11_man_141 rfl rfl rfl ?_
                refine z_nameH (fun h44 eh45 => ?_)
                have hF := hF h44 eh45
                obtain ⟨g46, hF⟩ := hF
                refine z_getI (c := 11) (k := 17) (r := (RX11, TX11, 54)) (q := 145) dX11_man_142 rfl (by decide) fl_X11_166 rfl g46 rfl ?_
                refine z_iload (q := 147) dX11_man_145 rfl rfl ?_
                obtain ⟨g47, hF⟩ := hF
                obtain ⟨g48, hF⟩ := hF
                obtain ⟨g49, hF⟩ := hF
                refine y_bast (j := (Int32.toNatClampNeg (zI h44 l0 17))) (q := 148) dX11_man_147 g47 g48 g49 rfl rfl ?_
                refine z_aload_n (q := 149) dX11_man_148 rfl rfl rfl ?_
                obtain ⟨g50, hF⟩ := hF
                refine z_getR (c := 11) (k := 16) (r := (RX11, TX11, 54)) (q := 152) dX11_man_149 rfl (by decide) fl_X11_56 rfl g46 g50 rfl ?_
                refine z_aload_n (q := 153) dX11_man_152 rfl rfl rfl ?_
                refine z_nameH (fun h51 eh52 => ?_)
                have hF := hF h51 eh52
                obtain ⟨g53, hF⟩ := hF
                refine z_getI (c := 11) (k := 17) (r := (RX11, TX11, 54)) (q := 156) dX11_man_153 rfl (by decide) fl_X11_166 rfl g53 rfl ?_
                refine z_iconst (q := 157) (v := 0) dX11_man_156 (by decide) rfl ?_
                obtain ⟨g54, hF⟩ := hF
                obtain ⟨g55, hF⟩ := hF
                refine y_iast (j := (Int32.toNatClampNeg (zI h51 l0 17))) (q := 158) dX11_man_157 g54 g55 rfl rfl ?_
                refine z_aload_n (q := 159) dX11_man_158 rfl rfl rfl ?_
                refine z_dup (q := 160) dX11_man_159 rfl rfl ?_
                refine z_nameH (fun h56 eh57 => ?_)
                have hF := hF h56 eh57
                obtain ⟨g58, hF⟩ := hF
                refine z_getI (c := 11) (k := 17) (r := (RX11, TX11, 54)) (q := 163) dX11_man_160 rfl (by decide) fl_X11_166 rfl g58 rfl ?_
                refine z_iconst (q := 164) (v := 1) dX11_man_163 (by decide) rfl ?_
                refine z_iadd (q := 165) dX11_man_164 rfl ?_
                refine z_putI (c := 11) (k := 17) (r := (RX11, TX11, 54)) (q := 168) dX11_man_165 rfl (by decide) fl_X11_166 rfl rfl g58 rfl ?_
                refine z_aload_n (q := 169) dX11_man_168 rfl rfl rfl ?_
                refine z_nameH (fun h59 eh60 => ?_)
                have hF := hF h59 eh60
                obtain ⟨g61, hF⟩ := hF
                refine z_getI (c := 11) (k := 17) (r := (RX11, TX11, 54)) (q := 172) dX11_man_169 rfl (by decide) fl_X11_166 rfl g61 rfl ?_
                refine z_iconst (q := 173) (v := 1) dX11_man_172 (by decide) rfl ?_
                refine z_isub (q := 174) dX11_man_173 rfl ?_
                exact z_ireturn dX11_man_174 rfl ⟨_, rfl, hF⟩
              · have hF := hF.2 hc
                refine z_bipush (q := 84) (v := (-4)) dX11_man_82 (by decide) rfl ?_
                exact z_ireturn dX11_man_84 rfl ⟨_, rfl, hF⟩
            · have hF := hF.2 hc
              refine z_bipush (q := 72) (v := (-3)) dX11_man_70 (by decide) rfl ?_
              exact z_ireturn dX11_man_72 rfl ⟨_, rfl, hF⟩
          · have hF := hF.2 hc
            refine z_bipush (q := 59) (v := (-2)) dX11_man_57 (by decide) rfl ?_
            exact z_ireturn dX11_man_59 rfl ⟨_, rfl, hF⟩
    · have hF := hF.2 hc
      refine z_iconst (q := 18) (v := (-1)) dX11_man_17 (by decide) rfl ?_
      exact z_ireturn dX11_man_18 rfl ⟨_, rfl, hF⟩
set_option maxRecDepth 100000 in
set_option maxHeartbeats 4000000 in
theorem wX11_isMan {ψ : Int32 → ZH → Prop} {l0 : Nat} {l1 : Int32} {h : ZH} (hF : (zK h l0 = 12) ∧ ZcI mX11_in [.long (Int32.toInt64 l1), .long 0, .long (Int32.toInt64 ((zI h l0 17) - 1))] h (fun x3 h2 => (x3 = 0 ∨ x3 = 1) ∧ ψ x3 h2)) : ZcI mX11_isMan [.ref l0, .int l1] h ψ := by
  refine Zc.intro (L := [some (.ref l0), some (.int l1)]) (show plainName RX11 = true by decide) rfl (Nat.le_of_ble_eq_true rfl) ?_
  show Zt _ _ 0 0 _ _ _ _
  refine z_iload_n (q := 1) dX11_isMan_0 rfl rfl rfl ?_
  refine z_i2l (q := 2) dX11_isMan_1 rfl ?_
  refine z_lconst (q := 3) (v := 0) dX11_isMan_2 (by decide) rfl ?_
  refine z_aload_n (q := 4) dX11_isMan_3 rfl rfl rfl ?_
  obtain ⟨g1, hF⟩ := hF
  refine z_getI (c := 11) (k := 17) (r := (RX11, TX11, 54)) (q := 7) dX11_isMan_4 rfl (by decide) fl_X11_166 rfl g1 rfl ?_
  refine z_iconst (q := 8) (v := 1) dX11_isMan_7 (by decide) rfl ?_
  refine z_isub (q := 9) dX11_isMan_8 rfl ?_
  refine z_i2l (q := 10) dX11_isMan_9 rfl ?_
  refine z_callSI (rc := 0) (rs := 0) (av := [.long (Int32.toInt64 l1), .long 0, .long (Int32.toInt64 ((zI h l0 17) - 1))]) (q := 13) hF dX11_isMan_10 ml_X11_140 ok_X11_in st_X11_in rfl (Nat.le_of_ble_eq_true rfl) (by decide) (Nat.le_of_ble_eq_true rfl) rfl rfl rfl rfl (fun x3 h2 hF => ?_)
  obtain ⟨g4, hF⟩ := hF
  exact z_zreturn dX11_isMan_13 rfl g4 ⟨_, rfl, hF⟩
set_option maxRecDepth 100000 in
set_option maxHeartbeats 4000000 in
theorem wX11_ofMan {ψ : Int32 → ZH → Prop} {l0 : Nat} {l1 : Int32} {l2 : Int32} {h : ZH} (hF : (zK h l0 = 12) ∧ ZcI mX11_isMan [.ref l0, .int l1] h (fun x3 h1 => ((¬ x3 = 0 → ((l2 = 0 → (zK h1 l0 = 12) ∧ ((zR h1 l0 10) ≠ 0) ∧ (zK h1 (zR h1 l0 10) = 20) ∧ (vp_in l1 (zN h1 (zR h1 l0 10))) ∧ ψ (zI h1 (zR h1 l0 10) (Int32.toNatClampNeg l1)) h1) ∧ (l2 = 1 → (zK h1 l0 = 12) ∧ ((zR h1 l0 11) ≠ 0) ∧ (zK h1 (zR h1 l0 11) = 20) ∧ (vp_in l1 (zN h1 (zR h1 l0 11))) ∧ ψ (zI h1 (zR h1 l0 11) (Int32.toNatClampNeg l1)) h1) ∧ (l2 = 2 → (zK h1 l0 = 12) ∧ ((zR h1 l0 12) ≠ 0) ∧ (zK h1 (zR h1 l0 12) = 20) ∧ (vp_in l1 (zN h1 (zR h1 l0 12))) ∧ ψ (zI h1 (zR h1 l0 12) (Int32.toNatClampNeg l1)) h1) ∧ (l2 = 3 → (zK h1 l0 = 12) ∧ ((zR h1 l0 13) ≠ 0) ∧ (zK h1 (zR h1 l0 13) = 20) ∧ (vp_in l1 (zN h1 (zR h1 l0 13))) ∧ ψ (zI h1 (zR h1 l0 13) (Int32.toNatClampNeg l1)) h1) ∧ (l2 = 4 → (zK h1 l0 = 12) ∧ ((zR h1 l0 14) ≠ 0) ∧ (zK h1 (zR h1 l0 14) = 20) ∧ (vp_in l1 (zN h1 (zR h1 l0 14))) ∧ ψ (zI h1 (zR h1 l0 14) (Int32.toNatClampNeg l1)) h1) ∧ (l2 = 5 → (zK h1 l0 = 12) ∧ ((zR h1 l0 15) ≠ 0) ∧ (zK h1 (zR h1 l0 15) = 21) ∧ (vp_in l1 (zN h1 (zR h1 l0 15))) ∧ (((zI h1 (zR h1 l0 15) (Int32.toNatClampNeg l1)) = 0 → ψ 0 h1) ∧ (¬ (zI h1 (zR h1 l0 15) (Int32.toNatClampNeg l1)) = 0 → ψ 1 h1))) ∧ (l2 = 6 → (zK h1 l0 = 12) ∧ ((zR h1 l0 16) ≠ 0) ∧ (zK h1 (zR h1 l0 16) = 20) ∧ (vp_in l1 (zN h1 (zR h1 l0 16))) ∧ ψ (zI h1 (zR h1 l0 16) (Int32.toNatClampNeg l1)) h1) ∧ (¬ l2 = 0 → ¬ l2 = 1 → ¬ l2 = 2 → ¬ l2 = 3 → ¬ l2 = 4 → ¬ l2 = 5 → ¬ l2 = 6 → ψ (-2) h1))) ∧ (x3 = 0 → ψ (-1) h1)))) : ZcI mX11_ofMan [.ref l0, .int l1, .int l2] h ψ := by
  refine Zc.intro (L := [some (.ref l0), some (.int l1), some (.int l2)]) (show plainName RX11 = true by decide) rfl (Nat.le_of_ble_eq_true rfl) ?_
  show Zt _ _ 0 0 _ _ _ _
  refine z_aload_n (q := 1) dX11_ofMan_0 rfl rfl rfl ?_
  refine z_iload_n (q := 2) dX11_ofMan_1 rfl rfl rfl ?_
  obtain ⟨g2, hF⟩ := hF
  refine z_callVI (rc := 0) (rs := 0) (b := l0) (av := [.int l1]) (ci := 11) (r := (RX11, TX11, 54)) (q := 5) hF dX11_ofMan_2 ml_X11_187 ok_X11_isMan in_X11_isMan se_X11_isMan rfl rfl g2 rfl (Nat.le_of_ble_eq_true rfl) (by decide) (Nat.le_of_ble_eq_true rfl) rfl rfl rfl rfl (fun x3 h1 hF => ?_)
  refine z_if_ne (t := 10) (q := 8) dX11_ofMan_5 (by decide) rfl (fun hc => ?_) (fun hc => ?_)
  · have hF := hF.1 hc
    refine z_iload_n (q := 11) dX11_ofMan_10 rfl rfl rfl ?_
    by_cases e4 : l2 = 0
    · refine z_tableIn (q := 52) (off := 41) dX11_ofMan_11 (by rw [e4]; decide) (by rw [e4]; decide) (by rw [e4]; decide) (by decide) ?_
      have hF := hF.1 e4
      refine z_aload_n (q := 53) dX11_ofMan_52 rfl rfl rfl ?_
      obtain ⟨g11, hF⟩ := hF
      obtain ⟨g12, hF⟩ := hF
      refine z_getR (c := 11) (k := 10) (r := (RX11, TX11, 54)) (q := 56) dX11_ofMan_53 rfl (by decide) fl_X11_38 rfl g11 g12 rfl ?_
      refine z_iload_n (q := 57) dX11_ofMan_56 rfl rfl rfl ?_
      obtain ⟨g13, hF⟩ := hF
      obtain ⟨g14, hF⟩ := hF
      refine y_iald (j := (Int32.toNatClampNeg l1)) (q := 58) dX11_ofMan_57 (Or.inl g13) g14 rfl rfl ?_
      exact z_ireturn dX11_ofMan_58 rfl ⟨_, rfl, hF⟩
    by_cases e5 : l2 = 1
    · refine z_tableIn (q := 59) (off := 48) dX11_ofMan_11 (by rw [e5]; decide) (by rw [e5]; decide) (by rw [e5]; decide) (by decide) ?_
      have hF := hF.2.1 e5
      refine z_aload_n (q := 60) dX11_ofMan_59 rfl rfl rfl ?_
      obtain ⟨g15, hF⟩ := hF
      obtain ⟨g16, hF⟩ := hF
      refine z_getR (c := 11) (k := 11) (r := (RX11, TX11, 54)) (q := 63) dX11_ofMan_60 rfl (by decide) fl_X11_41 rfl g15 g16 rfl ?_
      refine z_iload_n (q := 64) dX11_ofMan_63 rfl rfl rfl ?_
      obtain ⟨g17, hF⟩ := hF
      obtain ⟨g18, hF⟩ := hF
      refine y_iald (j := (Int32.toNatClampNeg l1)) (q := 65) dX11_ofMan_64 (Or.inl g17) g18 rfl rfl ?_
      exact z_ireturn dX11_ofMan_65 rfl ⟨_, rfl, hF⟩
    by_cases e6 : l2 = 2
    · refine z_tableIn (q := 66) (off := 55) dX11_ofMan_11 (by rw [e6]; decide) (by rw [e6]; decide) (by rw [e6]; decide) (by decide) ?_
      have hF := hF.2.2.1 e6
      refine z_aload_n (q := 67) dX11_ofMan_66 rfl rfl rfl ?_
      obtain ⟨g19, hF⟩ := hF
      obtain ⟨g20, hF⟩ := hF
      refine z_getR (c := 11) (k := 12) (r := (RX11, TX11, 54)) (q := 70) dX11_ofMan_67 rfl (by decide) fl_X11_44 rfl g19 g20 rfl ?_
      refine z_iload_n (q := 71) dX11_ofMan_70 rfl rfl rfl ?_
      obtain ⟨g21, hF⟩ := hF
      obtain ⟨g22, hF⟩ := hF
      refine y_iald (j := (Int32.toNatClampNeg l1)) (q := 72) dX11_ofMan_71 (Or.inl g21) g22 rfl rfl ?_
      exact z_ireturn dX11_ofMan_72 rfl ⟨_, rfl, hF⟩
    by_cases e7 : l2 = 3
    · refine z_tableIn (q := 73) (off := 62) dX11_ofMan_11 (by rw [e7]; decide) (by rw [e7]; decide) (by rw [e7]; decide) (by decide) ?_
      have hF := hF.2.2.2.1 e7
      refine z_aload_n (q := 74) dX11_ofMan_73 rfl rfl rfl ?_
      obtain ⟨g23, hF⟩ := hF
      obtain ⟨g24, hF⟩ := hF
      refine z_getR (c := 11) (k := 13) (r := (RX11, TX11, 54)) (q := 77) dX11_ofMan_74 rfl (by decide) fl_X11_47 rfl g23 g24 rfl ?_
      refine z_iload_n (q := 78) dX11_ofMan_77 rfl rfl rfl ?_
      obtain ⟨g25, hF⟩ := hF
      obtain ⟨g26, hF⟩ := hF
      refine y_iald (j := (Int32.toNatClampNeg l1)) (q := 79) dX11_ofMan_78 (Or.inl g25) g26 rfl rfl ?_
      exact z_ireturn dX11_ofMan_79 rfl ⟨_, rfl, hF⟩
    by_cases e8 : l2 = 4
    · refine z_tableIn (q := 80) (off := 69) dX11_ofMan_11 (by rw [e8]; decide) (by rw [e8]; decide) (by rw [e8]; decide) (by decide) ?_
      have hF := hF.2.2.2.2.1 e8
      refine z_aload_n (q := 81) dX11_ofMan_80 rfl rfl rfl ?_
      obtain ⟨g27, hF⟩ := hF
      obtain ⟨g28, hF⟩ := hF
      refine z_getR (c := 11) (k := 14) (r := (RX11, TX11, 54)) (q := 84) dX11_ofMan_81 rfl (by decide) fl_X11_50 rfl g27 g28 rfl ?_
      refine z_iload_n (q := 85) dX11_ofMan_84 rfl rfl rfl ?_
      obtain ⟨g29, hF⟩ := hF
      obtain ⟨g30, hF⟩ := hF
      refine y_iald (j := (Int32.toNatClampNeg l1)) (q := 86) dX11_ofMan_85 (Or.inl g29) g30 rfl rfl ?_
      exact z_ireturn dX11_ofMan_86 rfl ⟨_, rfl, hF⟩
    by_cases e9 : l2 = 5
    · refine z_tableIn (q := 87) (off := 76) dX11_ofMan_11 (by rw [e9]; decide) (by rw [e9]; decide) (by rw [e9]; decide) (by decide) ?_
      have hF := hF.2.2.2.2.2.1 e9
      refine z_aload_n (q := 88) dX11_ofMan_87 rfl rfl rfl ?_
      obtain ⟨g31, hF⟩ := hF
      obtain ⟨g32, hF⟩ := hF
      refine z_getR (c := 11) (k := 15) (r := (RX11, TX11, 54)) (q := 91) dX11_ofMan_88 rfl (by decide) fl_X11_53 rfl g31 g32 rfl ?_
      refine z_iload_n (q := 92) dX11_ofMan_91 rfl rfl rfl ?_
      obtain ⟨g33, hF⟩ := hF
      obtain ⟨g34, hF⟩ := hF
      refine y_bald (j := (Int32.toNatClampNeg l1)) (q := 93) dX11_ofMan_92 g33 g34 rfl rfl ?_
      refine z_if_eq (t := 100) (q := 96) dX11_ofMan_93 (by decide) rfl (fun hc => ?_) (fun hc => ?_)
      · have hF := hF.1 hc
        refine z_iconst (q := 101) (v := 0) dX11_ofMan_100 (by decide) rfl ?_
        exact z_ireturn dX11_ofMan_101 rfl ⟨_, rfl, hF⟩
      · have hF := hF.2 hc
        refine z_iconst (q := 97) (v := 1) dX11_ofMan_96 (by decide) rfl ?_
        refine z_goto (q := 101) dX11_ofMan_97 (by decide) ?_
        exact z_ireturn dX11_ofMan_101 rfl ⟨_, rfl, hF⟩
    by_cases e10 : l2 = 6
    · refine z_tableIn (q := 102) (off := 91) dX11_ofMan_11 (by rw [e10]; decide) (by rw [e10]; decide) (by rw [e10]; decide) (by decide) ?_
      have hF := hF.2.2.2.2.2.2.1 e10
      refine z_aload_n (q := 103) dX11_ofMan_102 rfl rfl rfl ?_
      obtain ⟨g35, hF⟩ := hF
      obtain ⟨g36, hF⟩ := hF
      refine z_getR (c := 11) (k := 16) (r := (RX11, TX11, 54)) (q := 106) dX11_ofMan_103 rfl (by decide) fl_X11_56 rfl g35 g36 rfl ?_
      refine z_iload_n (q := 107) dX11_ofMan_106 rfl rfl rfl ?_
      obtain ⟨g37, hF⟩ := hF
      obtain ⟨g38, hF⟩ := hF
      refine y_iald (j := (Int32.toNatClampNeg l1)) (q := 108) dX11_ofMan_107 (Or.inl g37) g38 rfl rfl ?_
      exact z_ireturn dX11_ofMan_108 rfl ⟨_, rfl, hF⟩
    refine z_tableOut (q := 109) dX11_ofMan_11 (by
      have k0 := zsw_ne (k := 0) e4 (by decide)
      have k1 := zsw_ne (k := 1) e5 (by decide)
      have k2 := zsw_ne (k := 2) e6 (by decide)
      have k3 := zsw_ne (k := 3) e7 (by decide)
      have k4 := zsw_ne (k := 4) e8 (by decide)
      have k5 := zsw_ne (k := 5) e9 (by decide)
      have k6 := zsw_ne (k := 6) e10 (by decide)
      omega) (by decide) ?_
    have hF := hF.2.2.2.2.2.2.2 e4 e5 e6 e7 e8 e9 e10
    refine z_bipush (q := 111) (v := (-2)) dX11_ofMan_109 (by decide) rfl ?_
    exact z_ireturn dX11_ofMan_111 rfl ⟨_, rfl, hF⟩
  · have hF := hF.2 hc
    refine z_iconst (q := 9) (v := (-1)) dX11_ofMan_8 (by decide) rfl ?_
    exact z_ireturn dX11_ofMan_9 rfl ⟨_, rfl, hF⟩
set_option maxRecDepth 100000 in
set_option maxHeartbeats 4000000 in
theorem wX11_become {ψ : ZH → Prop} {l0 : Nat} {l1 : Int32} {l2 : Int32} {h : ZH} (hF : (zK h l0 = 12) ∧ ((zR h l0 16) ≠ 0) ∧ (zK h (zR h l0 16) = 20) ∧ (vp_in l1 (zN h (zR h l0 16))) ∧ ((zR h l0 14) ≠ 0) ∧ (zK h (zR h l0 14) = 20) ∧ (vp_in l1 (zN h (zR h l0 14))) ∧ ψ (zsI (zsI h (zR h l0 16) (Int32.toNatClampNeg l1) l2) (zR h l0 14) (Int32.toNatClampNeg l1) (-6))) : ZcV mX11_become [.ref l0, .int l1, .int l2] h ψ := by
  refine Zc.intro (L := [some (.ref l0), some (.int l1), some (.int l2)]) (show plainName RX11 = true by decide) rfl (Nat.le_of_ble_eq_true rfl) ?_
  show Zt _ _ 0 0 _ _ _ _
  refine z_aload_n (q := 1) dX11_become_0 rfl rfl rfl ?_
  obtain ⟨g1, hF⟩ := hF
  obtain ⟨g2, hF⟩ := hF
  refine z_getR (c := 11) (k := 16) (r := (RX11, TX11, 54)) (q := 4) dX11_become_1 rfl (by decide) fl_X11_56 rfl g1 g2 rfl ?_
  refine z_iload_n (q := 5) dX11_become_4 rfl rfl rfl ?_
  refine z_iload_n (q := 6) dX11_become_5 rfl rfl rfl ?_
  obtain ⟨g3, hF⟩ := hF
  obtain ⟨g4, hF⟩ := hF
  refine y_iast (j := (Int32.toNatClampNeg l1)) (q := 7) dX11_become_6 g3 g4 rfl rfl ?_
  refine z_aload_n (q := 8) dX11_become_7 rfl rfl rfl ?_
  obtain ⟨g5, hF⟩ := hF
  refine z_getR (c := 11) (k := 14) (r := (RX11, TX11, 54)) (q := 11) dX11_become_8 rfl (by decide) fl_X11_50 rfl g1 g5 rfl ?_
  refine z_iload_n (q := 12) dX11_become_11 rfl rfl rfl ?_
  refine z_bipush (q := 14) (v := (-6)) dX11_become_12 (by decide) rfl ?_
  obtain ⟨g6, hF⟩ := hF
  obtain ⟨g7, hF⟩ := hF
  refine y_iast (j := (Int32.toNatClampNeg l1)) (q := 15) dX11_become_14 g6 g7 rfl rfl ?_
  exact z_return dX11_become_15 rfl ⟨rfl, hF⟩
set_option maxRecDepth 100000 in
set_option maxHeartbeats 4000000 in
theorem wX11_leave {ψ : Int32 → ZH → Prop} {l0 : Nat} {l1 : Int32} {h : ZH} (hF : (zK h l0 = 12) ∧ ZcI mX11_isMan [.ref l0, .int l1] h (fun x3 h1 => ((¬ x3 = 0 → (zK h1 l0 = 12) ∧ ((zR h1 l0 16) ≠ 0) ∧ (zK h1 (zR h1 l0 16) = 20) ∧ (vp_in l1 (zN h1 (zR h1 l0 16))) ∧ ((¬ (zI h1 (zR h1 l0 16) (Int32.toNatClampNeg l1)) = 4 → ∀ v8 : Int32, v8 = (zI h1 (zR h1 l0 16) (Int32.toNatClampNeg l1)) → ZcV mX11_become [.ref l0, .int l1, .int 4] h1 (fun h10 => ψ v8 h10)) ∧ ((zI h1 (zR h1 l0 16) (Int32.toNatClampNeg l1)) = 4 → ψ (-5) h1))) ∧ (x3 = 0 → ψ (-1) h1)))) : ZcI mX11_leave [.ref l0, .int l1] h ψ := by
  refine Zc.intro (L := [some (.ref l0), some (.int l1), none]) (show plainName RX11 = true by decide) rfl (Nat.le_of_ble_eq_true rfl) ?_
  show Zt _ _ 0 0 _ _ _ _
  refine z_aload_n (q := 1) dX11_leave_0 rfl rfl rfl ?_
  refine z_iload_n (q := 2) dX11_leave_1 rfl rfl rfl ?_
  obtain ⟨g2, hF⟩ := hF
  refine z_callVI (rc := 0) (rs := 0) (b := l0) (av := [.int l1]) (ci := 11) (r := (RX11, TX11, 54)) (q := 5) hF dX11_leave_2 ml_X11_187 ok_X11_isMan in_X11_isMan se_X11_isMan rfl rfl g2 rfl (Nat.le_of_ble_eq_true rfl) (by decide) (Nat.le_of_ble_eq_true rfl) rfl rfl rfl rfl (fun x3 h1 hF => ?_)
  refine z_if_ne (t := 10) (q := 8) dX11_leave_5 (by decide) rfl (fun hc => ?_) (fun hc => ?_)
  · have hF := hF.1 hc
    refine z_aload_n (q := 11) dX11_leave_10 rfl rfl rfl ?_
    obtain ⟨g4, hF⟩ := hF
    obtain ⟨g5, hF⟩ := hF
    refine z_getR (c := 11) (k := 16) (r := (RX11, TX11, 54)) (q := 14) dX11_leave_11 rfl (by decide) fl_X11_56 rfl g4 g5 rfl ?_
    refine z_iload_n (q := 15) dX11_leave_14 rfl rfl rfl ?_
    obtain ⟨g6, hF⟩ := hF
    obtain ⟨g7, hF⟩ := hF
    refine y_iald (j := (Int32.toNatClampNeg l1)) (q := 16) dX11_leave_15 (Or.inl g6) g7 rfl rfl ?_
    refine z_iconst (q := 17) (v := 4) dX11_leave_16 (by decide) rfl ?_
    refine z_icmp_ne (t := 23) (q := 20) dX11_leave_17 (by decide) rfl (fun hc => ?_) (fun hc => ?_)
    · have hF := hF.1 hc
      refine z_aload_n (q := 24) dX11_leave_23 rfl rfl rfl ?_
      refine z_getR (c := 11) (k := 16) (r := (RX11, TX11, 54)) (q := 27) dX11_leave_24 rfl (by decide) fl_X11_56 rfl g4 g5 rfl ?_
      refine z_iload_n (q := 28) dX11_leave_27 rfl rfl rfl ?_
      refine y_iald (j := (Int32.toNatClampNeg l1)) (q := 29) dX11_leave_28 (Or.inl g6) g7 rfl rfl ?_
      refine z_nameI (fun v8 ev9 => ?_)
      have hF := hF v8 ev9
      refine z_istore_n (q := 30) (L' := [some (.ref l0), some (.int l1), some (.int v8)]) dX11_leave_29 rfl (Nat.le_of_ble_eq_true rfl) rfl rfl rfl ?_
      refine z_aload_n (q := 31) dX11_leave_30 rfl rfl rfl ?_
      refine z_iload_n (q := 32) dX11_leave_31 rfl rfl rfl ?_
      refine z_iconst (q := 33) (v := 4) dX11_leave_32 (by decide) rfl ?_
      refine z_callVV (rc := 0) (rs := 0) (b := l0) (av := [.int l1, .int 4]) (ci := 11) (r := (RX11, TX11, 54)) (q := 36) hF dX11_leave_33 ml_X11_190 ok_X11_become in_X11_become se_X11_become rfl rfl g4 rfl (Nat.le_of_ble_eq_true rfl) (by decide) (Nat.le_of_ble_eq_true rfl) rfl rfl rfl rfl (fun h10 hF => ?_)
      refine z_iload_n (q := 37) dX11_leave_36 rfl rfl rfl ?_
      exact z_ireturn dX11_leave_37 rfl ⟨_, rfl, hF⟩
    · have hF := hF.2 hc
      refine z_bipush (q := 22) (v := (-5)) dX11_leave_20 (by decide) rfl ?_
      exact z_ireturn dX11_leave_22 rfl ⟨_, rfl, hF⟩
  · have hF := hF.2 hc
    refine z_iconst (q := 9) (v := (-1)) dX11_leave_8 (by decide) rfl ?_
    exact z_ireturn dX11_leave_9 rfl ⟨_, rfl, hF⟩
set_option maxRecDepth 100000 in
set_option maxHeartbeats 4000000 in
theorem wX11_posts {ψ : Int32 → ZH → Prop} {l0 : Nat} {l1 : Int32} {l2 : Int32} {l3 : Int32} {h : ZH} (hF : (zK h l0 = 12) ∧ ZcI mX11_isPit [.ref l0, .int l1] h (fun x3 h1 => ((¬ x3 = 0 → ZcI mX11_in [.long (Int32.toInt64 l2), .long 0, .long 2] h1 (fun x5 h4 => ((x5 = 0 → ψ (-2) h4) ∧ (¬ x5 = 0 → ZcI mX11_in [.long (Int32.toInt64 l3), .long 0, .long 9] h4 (fun x7 h6 => ((¬ x7 = 0 → (zK h6 l0 = 12) ∧ ((zR h6 l0 7) ≠ 0) ∧ (zK h6 (zR h6 l0 7) = 21) ∧ (vp_in l1 (zN h6 (zR h6 l0 7))) ∧ ((¬ (zI h6 (zR h6 l0 7) (Int32.toNatClampNeg l1)) = 0 → ((zR h6 l0 8) ≠ 0) ∧ (zK h6 (zR h6 l0 8) = 20) ∧ (vp_in ((3 * l1) + l2) (zN h6 (zR h6 l0 8))) ∧ ∀ v15 : Int32, v15 = (zI h6 (zR h6 l0 8) (Int32.toNatClampNeg ((3 * l1) + l2))) → ψ v15 (zsI h6 (zR h6 l0 8) (Int32.toNatClampNeg ((3 * l1) + l2)) l3)) ∧ ((zI h6 (zR h6 l0 7) (Int32.toNatClampNeg l1)) = 0 → ψ (-3) h6))) ∧ (x7 = 0 → ψ (-2) h6))))))) ∧ (x3 = 0 → ψ (-1) h1)))) : ZcI mX11_posts [.ref l0, .int l1, .int l2, .int l3] h ψ := by
  refine Zc.intro (L := [some (.ref l0), some (.int l1), some (.int l2), some (.int l3), none]) (show plainName RX11 = true by decide) rfl (Nat.le_of_ble_eq_true rfl) ?_
  show Zt _ _ 0 0 _ _ _ _
  refine z_aload_n (q := 1) dX11_posts_0 rfl rfl rfl ?_
  refine z_iload_n (q := 2) dX11_posts_1 rfl rfl rfl ?_
  obtain ⟨g2, hF⟩ := hF
  refine z_callVI (rc := 0) (rs := 0) (b := l0) (av := [.int l1]) (ci := 11) (r := (RX11, TX11, 54)) (q := 5) hF dX11_posts_2 ml_X11_169 ok_X11_isPit in_X11_isPit se_X11_isPit rfl rfl g2 rfl (Nat.le_of_ble_eq_true rfl) (by decide) (Nat.le_of_ble_eq_true rfl) rfl rfl rfl rfl (fun x3 h1 hF => ?_)
  refine z_if_ne (t := 10) (q := 8) dX11_posts_5 (by decide) rfl (fun hc => ?_) (fun hc => ?_)
  · have hF := hF.1 hc
    refine z_iload_n (q := 11) dX11_posts_10 rfl rfl rfl ?_
    refine z_i2l (q := 12) dX11_posts_11 rfl ?_
    refine z_lconst (q := 13) (v := 0) dX11_posts_12 (by decide) rfl ?_
    refine z_ldc2 (q := 16) (v := 2) dX11_posts_13 cw_X11_183 rfl ?_
    refine z_callSI (rc := 0) (rs := 0) (av := [.long (Int32.toInt64 l2), .long 0, .long 2]) (q := 19) hF dX11_posts_16 ml_X11_140 ok_X11_in st_X11_in rfl (Nat.le_of_ble_eq_true rfl) (by decide) (Nat.le_of_ble_eq_true rfl) rfl rfl rfl rfl (fun x5 h4 hF => ?_)
    refine z_if_eq (t := 34) (q := 22) dX11_posts_19 (by decide) rfl (fun hc => ?_) (fun hc => ?_)
    · have hF := hF.1 hc
      refine z_bipush (q := 36) (v := (-2)) dX11_posts_34 (by decide) rfl ?_
      exact z_ireturn dX11_posts_36 rfl ⟨_, rfl, hF⟩
    · have hF := hF.2 hc
      refine z_iload_n (q := 23) dX11_posts_22 rfl rfl rfl ?_
      refine z_i2l (q := 24) dX11_posts_23 rfl ?_
      refine z_lconst (q := 25) (v := 0) dX11_posts_24 (by decide) rfl ?_
      refine z_ldc2 (q := 28) (v := 9) dX11_posts_25 cw_X11_194 rfl ?_
      refine z_callSI (rc := 0) (rs := 0) (av := [.long (Int32.toInt64 l3), .long 0, .long 9]) (q := 31) hF dX11_posts_28 ml_X11_140 ok_X11_in st_X11_in rfl (Nat.le_of_ble_eq_true rfl) (by decide) (Nat.le_of_ble_eq_true rfl) rfl rfl rfl rfl (fun x7 h6 hF => ?_)
      refine z_if_ne (t := 37) (q := 34) dX11_posts_31 (by decide) rfl (fun hc => ?_) (fun hc => ?_)
      · have hF := hF.1 hc
        refine z_aload_n (q := 38) dX11_posts_37 rfl rfl rfl ?_
        obtain ⟨g8, hF⟩ := hF
        obtain ⟨g9, hF⟩ := hF
        refine z_getR (c := 11) (k := 7) (r := (RX11, TX11, 54)) (q := 41) dX11_posts_38 rfl (by decide) fl_X11_31 rfl g8 g9 rfl ?_
        refine z_iload_n (q := 42) dX11_posts_41 rfl rfl rfl ?_
        obtain ⟨g10, hF⟩ := hF
        obtain ⟨g11, hF⟩ := hF
        refine y_bald (j := (Int32.toNatClampNeg l1)) (q := 43) dX11_posts_42 g10 g11 rfl rfl ?_
        refine z_if_ne (t := 49) (q := 46) dX11_posts_43 (by decide) rfl (fun hc => ?_) (fun hc => ?_)
        · have hF := hF.1 hc
          refine z_aload_n (q := 50) dX11_posts_49 rfl rfl rfl ?_
          obtain ⟨g12, hF⟩ := hF
          refine z_getR (c := 11) (k := 8) (r := (RX11, TX11, 54)) (q := 53) dX11_posts_50 rfl (by decide) fl_X11_35 rfl g8 g12 rfl ?_
          refine z_iconst (q := 54) (v := 3) dX11_posts_53 (by decide) rfl ?_
          refine z_iload_n (q := 55) dX11_posts_54 rfl rfl rfl ?_
          refine z_imul (q := 56) dX11_posts_55 rfl ?_
          refine z_iload_n (q := 57) dX11_posts_56 rfl rfl rfl ?_
          refine z_iadd (q := 58) dX11_posts_57 rfl ?_
          obtain ⟨g13, hF⟩ := hF
          obtain ⟨g14, hF⟩ := hF
          refine y_iald (j := (Int32.toNatClampNeg ((3 * l1) + l2))) (q := 59) dX11_posts_58 (Or.inl g13) g14 rfl rfl ?_
          refine z_nameI (fun v15 ev16 => ?_)
          have hF := hF v15 ev16
          refine z_istore (q := 61) (L' := [some (.ref l0), some (.int l1), some (.int l2), some (.int l3), some (.int v15)]) dX11_posts_59 (Nat.le_of_ble_eq_true rfl) rfl rfl rfl ?_
          refine z_aload_n (q := 62) dX11_posts_61 rfl rfl rfl ?_
          refine z_getR (c := 11) (k := 8) (r := (RX11, TX11, 54)) (q := 65) dX11_posts_62 rfl (by decide) fl_X11_35 rfl g8 g12 rfl ?_
          refine z_iconst (q := 66) (v := 3) dX11_posts_65 (by decide) rfl ?_
          refine z_iload_n (q := 67) dX11_posts_66 rfl rfl rfl ?_
          refine z_imul (q := 68) dX11_posts_67 rfl ?_
          refine z_iload_n (q := 69) dX11_posts_68 rfl rfl rfl ?_
          refine z_iadd (q := 70) dX11_posts_69 rfl ?_
          refine z_iload_n (q := 71) dX11_posts_70 rfl rfl rfl ?_
          refine y_iast (j := (Int32.toNatClampNeg ((3 * l1) + l2))) (q := 72) dX11_posts_71 g13 g14 rfl rfl ?_
          refine z_iload (q := 74) dX11_posts_72 rfl rfl ?_
          exact z_ireturn dX11_posts_74 rfl ⟨_, rfl, hF⟩
        · have hF := hF.2 hc
          refine z_bipush (q := 48) (v := (-3)) dX11_posts_46 (by decide) rfl ?_
          exact z_ireturn dX11_posts_48 rfl ⟨_, rfl, hF⟩
      · have hF := hF.2 hc
        refine z_bipush (q := 36) (v := (-2)) dX11_posts_34 (by decide) rfl ?_
        exact z_ireturn dX11_posts_36 rfl ⟨_, rfl, hF⟩
  · have hF := hF.2 hc
    refine z_iconst (q := 9) (v := (-1)) dX11_posts_8 (by decide) rfl ?_
    exact z_ireturn dX11_posts_9 rfl ⟨_, rfl, hF⟩
set_option maxRecDepth 100000 in
set_option maxHeartbeats 4000000 in
theorem wX11_leastOf {ψ : Int32 → ZH → Prop} {l0 : Int32} {h : ZH} (hF : ((¬ l0 = 0 → ((l0 = 4 → ψ 1 h) ∧ (¬ l0 = 4 → ((¬ l0 = 5 → ψ 0 h) ∧ (l0 = 5 → ψ 1 h))))) ∧ (l0 = 0 → ψ 50 h))) : ZcI mX11_leastOf [.int l0] h ψ := by
  refine Zc.intro (L := [some (.int l0)]) (show plainName RX11 = true by decide) rfl (Nat.le_of_ble_eq_true rfl) ?_
  show Zt _ _ 0 0 _ _ _ _
  refine z_iload_n (q := 1) dX11_leastOf_0 rfl rfl rfl ?_
  refine z_if_ne (t := 9) (q := 4) dX11_leastOf_1 (by decide) rfl (fun hc => ?_) (fun hc => ?_)
  · have hF := hF.1 hc
    refine z_iload_n (q := 10) dX11_leastOf_9 rfl rfl rfl ?_
    refine z_iconst (q := 11) (v := 4) dX11_leastOf_10 (by decide) rfl ?_
    refine z_icmp_eq (t := 19) (q := 14) dX11_leastOf_11 (by decide) rfl (fun hc => ?_) (fun hc => ?_)
    · have hF := hF.1 hc
      refine z_iconst (q := 20) (v := 1) dX11_leastOf_19 (by decide) rfl ?_
      refine z_goto (q := 24) dX11_leastOf_20 (by decide) ?_
      exact z_ireturn dX11_leastOf_24 rfl ⟨_, rfl, hF⟩
    · have hF := hF.2 hc
      refine z_iload_n (q := 15) dX11_leastOf_14 rfl rfl rfl ?_
      refine z_iconst (q := 16) (v := 5) dX11_leastOf_15 (by decide) rfl ?_
      refine z_icmp_ne (t := 23) (q := 19) dX11_leastOf_16 (by decide) rfl (fun hc => ?_) (fun hc => ?_)
      · have hF := hF.1 hc
        refine z_iconst (q := 24) (v := 0) dX11_leastOf_23 (by decide) rfl ?_
        exact z_ireturn dX11_leastOf_24 rfl ⟨_, rfl, hF⟩
      · have hF := hF.2 hc
        refine z_iconst (q := 20) (v := 1) dX11_leastOf_19 (by decide) rfl ?_
        refine z_goto (q := 24) dX11_leastOf_20 (by decide) ?_
        exact z_ireturn dX11_leastOf_24 rfl ⟨_, rfl, hF⟩
  · have hF := hF.2 hc
    refine z_bipush (q := 6) (v := 50) dX11_leastOf_4 (by decide) rfl ?_
    refine z_goto (q := 24) dX11_leastOf_6 (by decide) ?_
    exact z_ireturn dX11_leastOf_24 rfl ⟨_, rfl, hF⟩
set_option maxRecDepth 100000 in
set_option maxHeartbeats 4000000 in
theorem wX11_mostOf {ψ : Int32 → ZH → Prop} {l0 : Int32} {h : ZH} (hF : ((l0 = 0 → ψ 70 h) ∧ (l0 = 1 → ψ 200 h) ∧ (l0 = 2 → ψ 10000 h) ∧ (l0 = 3 → ψ 5000 h) ∧ (l0 = 4 → ψ 8 h) ∧ (l0 = 5 → ψ 5 h) ∧ (¬ l0 = 0 → ¬ l0 = 1 → ¬ l0 = 2 → ¬ l0 = 3 → ¬ l0 = 4 → ¬ l0 = 5 → ψ 50 h))) : ZcI mX11_mostOf [.int l0] h ψ := by
  refine Zc.intro (L := [some (.int l0)]) (show plainName RX11 = true by decide) rfl (Nat.le_of_ble_eq_true rfl) ?_
  show Zt _ _ 0 0 _ _ _ _
  refine z_iload_n (q := 1) dX11_mostOf_0 rfl rfl rfl ?_
  by_cases e1 : l0 = 0
  · refine z_tableIn (q := 40) (off := 39) dX11_mostOf_1 (by rw [e1]; decide) (by rw [e1]; decide) (by rw [e1]; decide) (by decide) ?_
    have hF := hF.1 e1
    refine z_bipush (q := 42) (v := 70) dX11_mostOf_40 (by decide) rfl ?_
    exact z_ireturn dX11_mostOf_42 rfl ⟨_, rfl, hF⟩
  by_cases e2 : l0 = 1
  · refine z_tableIn (q := 43) (off := 42) dX11_mostOf_1 (by rw [e2]; decide) (by rw [e2]; decide) (by rw [e2]; decide) (by decide) ?_
    have hF := hF.2.1 e2
    refine z_sipush (q := 46) (v := 200) dX11_mostOf_43 (by decide) rfl ?_
    exact z_ireturn dX11_mostOf_46 rfl ⟨_, rfl, hF⟩
  by_cases e3 : l0 = 2
  · refine z_tableIn (q := 47) (off := 46) dX11_mostOf_1 (by rw [e3]; decide) (by rw [e3]; decide) (by rw [e3]; decide) (by decide) ?_
    have hF := hF.2.2.1 e3
    refine z_sipush (q := 50) (v := 10000) dX11_mostOf_47 (by decide) rfl ?_
    exact z_ireturn dX11_mostOf_50 rfl ⟨_, rfl, hF⟩
  by_cases e4 : l0 = 3
  · refine z_tableIn (q := 51) (off := 50) dX11_mostOf_1 (by rw [e4]; decide) (by rw [e4]; decide) (by rw [e4]; decide) (by decide) ?_
    have hF := hF.2.2.2.1 e4
    refine z_sipush (q := 54) (v := 5000) dX11_mostOf_51 (by decide) rfl ?_
    exact z_ireturn dX11_mostOf_54 rfl ⟨_, rfl, hF⟩
  by_cases e5 : l0 = 4
  · refine z_tableIn (q := 55) (off := 54) dX11_mostOf_1 (by rw [e5]; decide) (by rw [e5]; decide) (by rw [e5]; decide) (by decide) ?_
    have hF := hF.2.2.2.2.1 e5
    refine z_bipush (q := 57) (v := 8) dX11_mostOf_55 (by decide) rfl ?_
    exact z_ireturn dX11_mostOf_57 rfl ⟨_, rfl, hF⟩
  by_cases e6 : l0 = 5
  · refine z_tableIn (q := 58) (off := 57) dX11_mostOf_1 (by rw [e6]; decide) (by rw [e6]; decide) (by rw [e6]; decide) (by decide) ?_
    have hF := hF.2.2.2.2.2.1 e6
    refine z_iconst (q := 59) (v := 5) dX11_mostOf_58 (by decide) rfl ?_
    exact z_ireturn dX11_mostOf_59 rfl ⟨_, rfl, hF⟩
  refine z_tableOut (q := 60) dX11_mostOf_1 (by
    have k0 := zsw_ne (k := 0) e1 (by decide)
    have k1 := zsw_ne (k := 1) e2 (by decide)
    have k2 := zsw_ne (k := 2) e3 (by decide)
    have k3 := zsw_ne (k := 3) e4 (by decide)
    have k4 := zsw_ne (k := 4) e5 (by decide)
    have k5 := zsw_ne (k := 5) e6 (by decide)
    omega) (by decide) ?_
  have hF := hF.2.2.2.2.2.2 e1 e2 e3 e4 e5 e6
  refine z_bipush (q := 62) (v := 50) dX11_mostOf_60 (by decide) rfl ?_
  exact z_ireturn dX11_mostOf_62 rfl ⟨_, rfl, hF⟩
set_option maxRecDepth 100000 in
set_option maxHeartbeats 4000000 in
theorem wX11_set {ψ : Int32 → ZH → Prop} {l0 : Nat} {l1 : Int32} {l2 : Int32} {h : ZH} (hF : ZcI mX11_in [.long (Int32.toInt64 l1), .long 0, .long 6] h (fun x2 h1 => ((x2 = 0 → ψ (-2) h1) ∧ (¬ x2 = 0 → ZcI mX11_leastOf [.int l1] h1 (fun x4 h3 => ZcI mX11_mostOf [.int l1] h3 (fun x6 h5 => ZcI mX11_in [.long (Int32.toInt64 l2), .long (Int32.toInt64 x4), .long (Int32.toInt64 x6)] h5 (fun x8 h7 => ((¬ x8 = 0 → (zK h7 l0 = 12) ∧ ((zR h7 l0 18) ≠ 0) ∧ (zK h7 (zR h7 l0 18) = 20) ∧ (vp_in l1 (zN h7 (zR h7 l0 18))) ∧ ∀ v13 : Int32, v13 = (zI h7 (zR h7 l0 18) (Int32.toNatClampNeg l1)) → ψ v13 (zsI h7 (zR h7 l0 18) (Int32.toNatClampNeg l1) l2)) ∧ (x8 = 0 → ψ (-2) h7))))))))) : ZcI mX11_set [.ref l0, .int l1, .int l2] h ψ := by
  refine Zc.intro (L := [some (.ref l0), some (.int l1), some (.int l2), none]) (show plainName RX11 = true by decide) rfl (Nat.le_of_ble_eq_true rfl) ?_
  show Zt _ _ 0 0 _ _ _ _
  refine z_iload_n (q := 1) dX11_set_0 rfl rfl rfl ?_
  refine z_i2l (q := 2) dX11_set_1 rfl ?_
  refine z_lconst (q := 3) (v := 0) dX11_set_2 (by decide) rfl ?_
  refine z_ldc2 (q := 6) (v := 6) dX11_set_3 cw_X11_196 rfl ?_
  refine z_callSI (rc := 0) (rs := 0) (av := [.long (Int32.toInt64 l1), .long 0, .long 6]) (q := 9) hF dX11_set_6 ml_X11_140 ok_X11_in st_X11_in rfl (Nat.le_of_ble_eq_true rfl) (by decide) (Nat.le_of_ble_eq_true rfl) rfl rfl rfl rfl (fun x2 h1 hF => ?_)
  refine z_if_eq (t := 30) (q := 12) dX11_set_9 (by decide) rfl (fun hc => ?_) (fun hc => ?_)
  · have hF := hF.1 hc
    refine z_bipush (q := 32) (v := (-2)) dX11_set_30 (by decide) rfl ?_
    exact z_ireturn dX11_set_32 rfl ⟨_, rfl, hF⟩
  · have hF := hF.2 hc
    refine z_iload_n (q := 13) dX11_set_12 rfl rfl rfl ?_
    refine z_i2l (q := 14) dX11_set_13 rfl ?_
    refine z_iload_n (q := 15) dX11_set_14 rfl rfl rfl ?_
    refine z_callSI (rc := 0) (rs := 0) (av := [.int l1]) (q := 18) hF dX11_set_15 ml_X11_198 ok_X11_leastOf st_X11_leastOf rfl (Nat.le_of_ble_eq_true rfl) (by decide) (Nat.le_of_ble_eq_true rfl) rfl rfl rfl rfl (fun x4 h3 hF => ?_)
    refine z_i2l (q := 19) dX11_set_18 rfl ?_
    refine z_iload_n (q := 20) dX11_set_19 rfl rfl rfl ?_
    refine z_callSI (rc := 0) (rs := 0) (av := [.int l1]) (q := 23) hF dX11_set_20 ml_X11_201 ok_X11_mostOf st_X11_mostOf rfl (Nat.le_of_ble_eq_true rfl) (by decide) (Nat.le_of_ble_eq_true rfl) rfl rfl rfl rfl (fun x6 h5 hF => ?_)
    refine z_i2l (q := 24) dX11_set_23 rfl ?_
    refine z_callSI (rc := 0) (rs := 0) (av := [.long (Int32.toInt64 l2), .long (Int32.toInt64 x4), .long (Int32.toInt64 x6)]) (q := 27) hF dX11_set_24 ml_X11_140 ok_X11_in st_X11_in rfl (Nat.le_of_ble_eq_true rfl) (by decide) (Nat.le_of_ble_eq_true rfl) rfl rfl rfl rfl (fun x8 h7 hF => ?_)
    refine z_if_ne (t := 33) (q := 30) dX11_set_27 (by decide) rfl (fun hc => ?_) (fun hc => ?_)
    · have hF := hF.1 hc
      refine z_aload_n (q := 34) dX11_set_33 rfl rfl rfl ?_
      obtain ⟨g9, hF⟩ := hF
      obtain ⟨g10, hF⟩ := hF
      refine z_getR (c := 11) (k := 18) (r := (RX11, TX11, 54)) (q := 37) dX11_set_34 rfl (by decide) fl_X11_59 rfl g9 g10 rfl ?_
      refine z_iload_n (q := 38) dX11_set_37 rfl rfl rfl ?_
      obtain ⟨g11, hF⟩ := hF
      obtain ⟨g12, hF⟩ := hF
      refine y_iald (j := (Int32.toNatClampNeg l1)) (q := 39) dX11_set_38 (Or.inl g11) g12 rfl rfl ?_
      refine z_nameI (fun v13 ev14 => ?_)
      have hF := hF v13 ev14
      refine z_istore_n (q := 40) (L' := [some (.ref l0), some (.int l1), some (.int l2), some (.int v13)]) dX11_set_39 rfl (Nat.le_of_ble_eq_true rfl) rfl rfl rfl ?_
      refine z_aload_n (q := 41) dX11_set_40 rfl rfl rfl ?_
      refine z_getR (c := 11) (k := 18) (r := (RX11, TX11, 54)) (q := 44) dX11_set_41 rfl (by decide) fl_X11_59 rfl g9 g10 rfl ?_
      refine z_iload_n (q := 45) dX11_set_44 rfl rfl rfl ?_
      refine z_iload_n (q := 46) dX11_set_45 rfl rfl rfl ?_
      refine y_iast (j := (Int32.toNatClampNeg l1)) (q := 47) dX11_set_46 g11 g12 rfl rfl ?_
      refine z_iload_n (q := 48) dX11_set_47 rfl rfl rfl ?_
      exact z_ireturn dX11_set_48 rfl ⟨_, rfl, hF⟩
    · have hF := hF.2 hc
      refine z_bipush (q := 32) (v := (-2)) dX11_set_30 (by decide) rfl ?_
      exact z_ireturn dX11_set_32 rfl ⟨_, rfl, hF⟩
set_option maxRecDepth 100000 in
set_option maxHeartbeats 4000000 in
theorem wX11_year_84 {ψ : Int32 → ZH → Prop} {l0 : Nat} {l1 : Int32} {l2 : Int32} {s0 : Int32} {s1 : Int32} {s2 : Int32} {s3 : Nat} {h : ZH} (hF : (zK h s3 = 20) ∧ (vp_in s2 (zN h s3)) ∧ (zK h l0 = 12) ∧ ((zR h l0 16) ≠ 0) ∧ ∀ h5 : ZH, h5 = (zsI h s3 (Int32.toNatClampNeg s2) (s1 + s0)) → (zK h5 (zR h l0 16) = 20) ∧ (vp_in l2 (zN h5 (zR h l0 16))) ∧ (((zI h5 (zR h l0 16) (Int32.toNatClampNeg l2)) = 2 → Zt mX11_year (zPI ψ) 0 0 4 [some (.ref l0), some (.int l1), some (.int (l2 + 1))] [] h5) ∧ (¬ (zI h5 (zR h l0 16) (Int32.toNatClampNeg l2)) = 2 → (zK h5 l0 = 12) ∧ ((zR h5 l0 10) ≠ 0) ∧ (zK h5 (zR h5 l0 10) = 20) ∧ (vp_in l2 (zN h5 (zR h5 l0 10))) ∧ ((zR h5 l0 18) ≠ 0) ∧ (zK h5 (zR h5 l0 18) = 20) ∧ (0 < zN h5 (zR h5 l0 18)) ∧ (((zI h5 (zR h5 l0 10) (Int32.toNatClampNeg l2)) < (zI h5 (zR h5 l0 18) 0) → Zt mX11_year (zPI ψ) 0 0 4 [some (.ref l0), some (.int l1), some (.int (l2 + 1))] [] h5) ∧ (¬ (zI h5 (zR h5 l0 10) (Int32.toNatClampNeg l2)) < (zI h5 (zR h5 l0 18) 0) → ZcV mX11_become [.ref l0, .int l2, .int 2] h5 (fun h16 => Zt mX11_year (zPI ψ) 0 0 4 [some (.ref l0), some (.int (l1 + 1)), some (.int (l2 + 1))] [] h16)))))) : Zt mX11_year (zPI ψ) 0 0 84 [some (.ref l0), some (.int l1), some (.int l2)] [.int s0, .int s1, .int s2, .ref s3] h := by
  refine z_iadd (q := 85) dX11_year_84 rfl ?_
  obtain ⟨g1, hF⟩ := hF
  obtain ⟨g2, hF⟩ := hF
  refine y_iast (j := (Int32.toNatClampNeg s2)) (q := 86) dX11_year_85 g1 g2 rfl rfl ?_
  refine z_aload_n (q := 87) dX11_year_86 rfl rfl rfl ?_
  obtain ⟨g3, hF⟩ := hF
  obtain ⟨g4, hF⟩ := hF
  refine z_getR (c := 11) (k := 16) (r := (RX11, TX11, 54)) (q := 90) dX11_year_87 rfl (by decide) fl_X11_56 rfl g3 g4 rfl ?_
  refine z_iload_n (q := 91) dX11_year_90 rfl rfl rfl ?_
  refine z_nameH (fun h5 eh6 => ?_)
  have hF := hF h5 eh6
  obtain ⟨g7, hF⟩ := hF
  obtain ⟨g8, hF⟩ := hF
  refine y_iald (j := (Int32.toNatClampNeg l2)) (q := 92) dX11_year_91 (Or.inl g7) g8 rfl rfl ?_
  refine z_iconst (q := 93) (v := 2) dX11_year_92 (by decide) rfl ?_
  refine z_icmp_eq (t := 120) (q := 96) dX11_year_93 (by decide) rfl (fun hc => ?_) (fun hc => ?_)
  · have hF := hF.1 hc
    refine z_iinc (q := 123) (v := (l2 + 1)) (L' := [some (.ref l0), some (.int l1), some (.int (l2 + 1))]) dX11_year_120 rfl rfl (Nat.le_of_ble_eq_true rfl) rfl rfl rfl ?_
    refine z_goto (q := 4) dX11_year_123 (by decide) ?_
    exact hF
  · have hF := hF.2 hc
    refine z_aload_n (q := 97) dX11_year_96 rfl rfl rfl ?_
    obtain ⟨g9, hF⟩ := hF
    obtain ⟨g10, hF⟩ := hF
    refine z_getR (c := 11) (k := 10) (r := (RX11, TX11, 54)) (q := 100) dX11_year_97 rfl (by decide) fl_X11_38 rfl g9 g10 rfl ?_
    refine z_iload_n (q := 101) dX11_year_100 rfl rfl rfl ?_
    obtain ⟨g11, hF⟩ := hF
    obtain ⟨g12, hF⟩ := hF
    refine y_iald (j := (Int32.toNatClampNeg l2)) (q := 102) dX11_year_101 (Or.inl g11) g12 rfl rfl ?_
    refine z_aload_n (q := 103) dX11_year_102 rfl rfl rfl ?_
    obtain ⟨g13, hF⟩ := hF
    refine z_getR (c := 11) (k := 18) (r := (RX11, TX11, 54)) (q := 106) dX11_year_103 rfl (by decide) fl_X11_59 rfl g9 g13 rfl ?_
    refine z_iconst (q := 107) (v := 0) dX11_year_106 (by decide) rfl ?_
    obtain ⟨g14, hF⟩ := hF
    obtain ⟨g15, hF⟩ := hF
    refine y_iald (j := 0) (q := 108) dX11_year_107 (Or.inl g14) (zvin (by decide) (by decide) g15) (by decide) rfl ?_
    refine z_icmp_lt (t := 120) (q := 111) dX11_year_108 (by decide) rfl (fun hc => ?_) (fun hc => ?_)
    · have hF := hF.1 hc
      refine z_iinc (q := 123) (v := (l2 + 1)) (L' := [some (.ref l0), some (.int l1), some (.int (l2 + 1))]) dX11_year_120 rfl rfl (Nat.le_of_ble_eq_true rfl) rfl rfl rfl ?_
      refine z_goto (q := 4) dX11_year_123 (by decide) ?_
      exact hF
    · have hF := hF.2 hc
      refine z_aload_n (q := 112) dX11_year_111 rfl rfl rfl ?_
      refine z_iload_n (q := 113) dX11_year_112 rfl rfl rfl ?_
      refine z_iconst (q := 114) (v := 2) dX11_year_113 (by decide) rfl ?_
      refine z_callVV (rc := 0) (rs := 0) (b := l0) (av := [.int l2, .int 2]) (ci := 11) (r := (RX11, TX11, 54)) (q := 117) hF dX11_year_114 ml_X11_190 ok_X11_become in_X11_become se_X11_become rfl rfl g9 rfl (Nat.le_of_ble_eq_true rfl) (by decide) (Nat.le_of_ble_eq_true rfl) rfl rfl rfl rfl (fun h16 hF => ?_)
      refine z_iinc (q := 120) (v := (l1 + 1)) (L' := [some (.ref l0), some (.int (l1 + 1)), some (.int l2)]) dX11_year_117 rfl rfl (Nat.le_of_ble_eq_true rfl) rfl rfl rfl ?_
      refine z_iinc (q := 123) (v := (l2 + 1)) (L' := [some (.ref l0), some (.int (l1 + 1)), some (.int (l2 + 1))]) dX11_year_120 rfl rfl (Nat.le_of_ble_eq_true rfl) rfl rfl rfl ?_
      refine z_goto (q := 4) dX11_year_123 (by decide) ?_
      exact hF
set_option maxRecDepth 100000 in
set_option maxHeartbeats 4000000 in
theorem wX11_year_4 {ψ : Int32 → ZH → Prop} {l0 : Nat} {l1 : Int32} {l2 : Int32} {h : ZH} (hF : (zK h l0 = 12) ∧ (((zI h l0 17) ≤ l2 → ψ l1 h) ∧ (¬ (zI h l0 17) ≤ l2 → ((zR h l0 16) ≠ 0) ∧ (zK h (zR h l0 16) = 20) ∧ (vp_in l2 (zN h (zR h l0 16))) ∧ (((zI h (zR h l0 16) (Int32.toNatClampNeg l2)) = 4 → Zt mX11_year (zPI ψ) 0 0 4 [some (.ref l0), some (.int l1), some (.int (l2 + 1))] [] h) ∧ (¬ (zI h (zR h l0 16) (Int32.toNatClampNeg l2)) = 4 → ((zR h l0 10) ≠ 0) ∧ (zK h (zR h l0 10) = 20) ∧ (vp_in l2 (zN h (zR h l0 10))) ∧ ((70 ≤ (zI h (zR h l0 10) (Int32.toNatClampNeg l2)) → ((zR h l0 12) ≠ 0) ∧ ∀ h25 : ZH, h25 = (zsI h (zR h l0 10) (Int32.toNatClampNeg l2) 70) → (zK h25 (zR h l0 12) = 20) ∧ (vp_in l2 (zN h25 (zR h l0 12))) ∧ (zK h25 l0 = 12) ∧ ((zR h25 l0 16) ≠ 0) ∧ (zK h25 (zR h25 l0 16) = 20) ∧ (vp_in l2 (zN h25 (zR h25 l0 16))) ∧ ((¬ (zI h25 (zR h25 l0 16) (Int32.toNatClampNeg l2)) = 0 → Zt mX11_year (zPI ψ) 0 0 84 [some (.ref l0), some (.int l1), some (.int l2)] [.int 0, .int (zI h25 (zR h l0 12) (Int32.toNatClampNeg l2)), .int l2, .ref (zR h l0 12)] h25) ∧ ((zI h25 (zR h25 l0 16) (Int32.toNatClampNeg l2)) = 0 → ((zR h25 l0 12) ≠ 0) ∧ (zK h25 (zR h25 l0 12) = 20) ∧ (vp_in l2 (zN h25 (zR h25 l0 12))) ∧ ((50 ≤ (zI h25 (zR h25 l0 12) (Int32.toNatClampNeg l2)) → Zt mX11_year (zPI ψ) 0 0 84 [some (.ref l0), some (.int l1), some (.int l2)] [.int 0, .int (zI h25 (zR h l0 12) (Int32.toNatClampNeg l2)), .int l2, .ref (zR h l0 12)] h25) ∧ (¬ 50 ≤ (zI h25 (zR h25 l0 12) (Int32.toNatClampNeg l2)) → Zt mX11_year (zPI ψ) 0 0 84 [some (.ref l0), some (.int l1), some (.int l2)] [.int 1, .int (zI h25 (zR h l0 12) (Int32.toNatClampNeg l2)), .int l2, .ref (zR h l0 12)] h25))))) ∧ (¬ 70 ≤ (zI h (zR h l0 10) (Int32.toNatClampNeg l2)) → ((zR h l0 12) ≠ 0) ∧ ∀ h37 : ZH, h37 = (zsI h (zR h l0 10) (Int32.toNatClampNeg l2) ((zI h (zR h l0 10) (Int32.toNatClampNeg l2)) + 1)) → (zK h37 (zR h l0 12) = 20) ∧ (vp_in l2 (zN h37 (zR h l0 12))) ∧ (zK h37 l0 = 12) ∧ ((zR h37 l0 16) ≠ 0) ∧ (zK h37 (zR h37 l0 16) = 20) ∧ (vp_in l2 (zN h37 (zR h37 l0 16))) ∧ ((¬ (zI h37 (zR h37 l0 16) (Int32.toNatClampNeg l2)) = 0 → Zt mX11_year (zPI ψ) 0 0 84 [some (.ref l0), some (.int l1), some (.int l2)] [.int 0, .int (zI h37 (zR h l0 12) (Int32.toNatClampNeg l2)), .int l2, .ref (zR h l0 12)] h37) ∧ ((zI h37 (zR h37 l0 16) (Int32.toNatClampNeg l2)) = 0 → ((zR h37 l0 12) ≠ 0) ∧ (zK h37 (zR h37 l0 12) = 20) ∧ (vp_in l2 (zN h37 (zR h37 l0 12))) ∧ ((50 ≤ (zI h37 (zR h37 l0 12) (Int32.toNatClampNeg l2)) → Zt mX11_year (zPI ψ) 0 0 84 [some (.ref l0), some (.int l1), some (.int l2)] [.int 0, .int (zI h37 (zR h l0 12) (Int32.toNatClampNeg l2)), .int l2, .ref (zR h l0 12)] h37) ∧ (¬ 50 ≤ (zI h37 (zR h37 l0 12) (Int32.toNatClampNeg l2)) → Zt mX11_year (zPI ψ) 0 0 84 [some (.ref l0), some (.int l1), some (.int l2)] [.int 1, .int (zI h37 (zR h l0 12) (Int32.toNatClampNeg l2)), .int l2, .ref (zR h l0 12)] h37))))))))))) : Zt mX11_year (zPI ψ) 0 0 4 [some (.ref l0), some (.int l1), some (.int l2)] [] h := by
  refine z_iload_n (q := 5) dX11_year_4 rfl rfl rfl ?_
  refine z_aload_n (q := 6) dX11_year_5 rfl rfl rfl ?_
  obtain ⟨g17, hF⟩ := hF
  refine z_getI (c := 11) (k := 17) (r := (RX11, TX11, 54)) (q := 9) dX11_year_6 rfl (by decide) fl_X11_166 rfl g17 rfl ?_
  refine z_icmp_ge (t := 126) (q := 12) dX11_year_9 (by decide) rfl (fun hc => ?_) (fun hc => ?_)
  · have hF := hF.1 hc
    refine z_iload_n (q := 127) dX11_year_126 rfl rfl rfl ?_
    exact z_ireturn dX11_year_127 rfl ⟨_, rfl, hF⟩
  · have hF := hF.2 hc
    refine z_aload_n (q := 13) dX11_year_12 rfl rfl rfl ?_
    obtain ⟨g18, hF⟩ := hF
    refine z_getR (c := 11) (k := 16) (r := (RX11, TX11, 54)) (q := 16) dX11_year_13 rfl (by decide) fl_X11_56 rfl g17 g18 rfl ?_
    refine z_iload_n (q := 17) dX11_year_16 rfl rfl rfl ?_
    obtain ⟨g19, hF⟩ := hF
    obtain ⟨g20, hF⟩ := hF
    refine y_iald (j := (Int32.toNatClampNeg l2)) (q := 18) dX11_year_17 (Or.inl g19) g20 rfl rfl ?_
    refine z_iconst (q := 19) (v := 4) dX11_year_18 (by decide) rfl ?_
    refine z_icmp_eq (t := 120) (q := 22) dX11_year_19 (by decide) rfl (fun hc => ?_) (fun hc => ?_)
    · have hF := hF.1 hc
      refine z_iinc (q := 123) (v := (l2 + 1)) (L' := [some (.ref l0), some (.int l1), some (.int (l2 + 1))]) dX11_year_120 rfl rfl (Nat.le_of_ble_eq_true rfl) rfl rfl rfl ?_
      refine z_goto (q := 4) dX11_year_123 (by decide) ?_
      exact hF
    · have hF := hF.2 hc
      refine z_aload_n (q := 23) dX11_year_22 rfl rfl rfl ?_
      obtain ⟨g21, hF⟩ := hF
      refine z_getR (c := 11) (k := 10) (r := (RX11, TX11, 54)) (q := 26) dX11_year_23 rfl (by decide) fl_X11_38 rfl g17 g21 rfl ?_
      refine z_iload_n (q := 27) dX11_year_26 rfl rfl rfl ?_
      refine z_aload_n (q := 28) dX11_year_27 rfl rfl rfl ?_
      refine z_getR (c := 11) (k := 10) (r := (RX11, TX11, 54)) (q := 31) dX11_year_28 rfl (by decide) fl_X11_38 rfl g17 g21 rfl ?_
      refine z_iload_n (q := 32) dX11_year_31 rfl rfl rfl ?_
      obtain ⟨g22, hF⟩ := hF
      obtain ⟨g23, hF⟩ := hF
      refine y_iald (j := (Int32.toNatClampNeg l2)) (q := 33) dX11_year_32 (Or.inl g22) g23 rfl rfl ?_
      refine z_bipush (q := 35) (v := 70) dX11_year_33 (by decide) rfl ?_
      refine z_icmp_ge (t := 49) (q := 38) dX11_year_35 (by decide) rfl (fun hc => ?_) (fun hc => ?_)
      · have hF := hF.1 hc
        refine z_bipush (q := 51) (v := 70) dX11_year_49 (by decide) rfl ?_
        refine y_iast (j := (Int32.toNatClampNeg l2)) (q := 52) dX11_year_51 g22 g23 rfl rfl ?_
        refine z_aload_n (q := 53) dX11_year_52 rfl rfl rfl ?_
        obtain ⟨g24, hF⟩ := hF
        refine z_getR (c := 11) (k := 12) (r := (RX11, TX11, 54)) (q := 56) dX11_year_53 rfl (by decide) fl_X11_44 rfl g17 g24 rfl ?_
        refine z_iload_n (q := 57) dX11_year_56 rfl rfl rfl ?_
        refine z_dup2 (q := 58) dX11_year_57 rfl rfl rfl ?_
        refine z_nameH (fun h25 eh26 => ?_)
        have hF := hF h25 eh26
        obtain ⟨g27, hF⟩ := hF
        obtain ⟨g28, hF⟩ := hF
        refine y_iald (j := (Int32.toNatClampNeg l2)) (q := 59) dX11_year_58 (Or.inl g27) g28 rfl rfl ?_
        refine z_aload_n (q := 60) dX11_year_59 rfl rfl rfl ?_
        obtain ⟨g29, hF⟩ := hF
        obtain ⟨g30, hF⟩ := hF
        refine z_getR (c := 11) (k := 16) (r := (RX11, TX11, 54)) (q := 63) dX11_year_60 rfl (by decide) fl_X11_56 rfl g29 g30 rfl ?_
        refine z_iload_n (q := 64) dX11_year_63 rfl rfl rfl ?_
        obtain ⟨g31, hF⟩ := hF
        obtain ⟨g32, hF⟩ := hF
        refine y_iald (j := (Int32.toNatClampNeg l2)) (q := 65) dX11_year_64 (Or.inl g31) g32 rfl rfl ?_
        refine z_if_ne (t := 83) (q := 68) dX11_year_65 (by decide) rfl (fun hc => ?_) (fun hc => ?_)
        · have hF := hF.1 hc
          refine z_iconst (q := 84) (v := 0) dX11_year_83 (by decide) rfl ?_
          exact hF
        · have hF := hF.2 hc
          refine z_aload_n (q := 69) dX11_year_68 rfl rfl rfl ?_
          obtain ⟨g33, hF⟩ := hF
          refine z_getR (c := 11) (k := 12) (r := (RX11, TX11, 54)) (q := 72) dX11_year_69 rfl (by decide) fl_X11_44 rfl g29 g33 rfl ?_
          refine z_iload_n (q := 73) dX11_year_72 rfl rfl rfl ?_
          obtain ⟨g34, hF⟩ := hF
          obtain ⟨g35, hF⟩ := hF
          refine y_iald (j := (Int32.toNatClampNeg l2)) (q := 74) dX11_year_73 (Or.inl g34) g35 rfl rfl ?_
          refine z_bipush (q := 76) (v := 50) dX11_year_74 (by decide) rfl ?_
          refine z_icmp_ge (t := 83) (q := 79) dX11_year_76 (by decide) rfl (fun hc => ?_) (fun hc => ?_)
          · have hF := hF.1 hc
            refine z_iconst (q := 84) (v := 0) dX11_year_83 (by decide) rfl ?_
            exact hF
          · have hF := hF.2 hc
            refine z_iconst (q := 80) (v := 1) dX11_year_79 (by decide) rfl ?_
            refine z_goto (q := 84) dX11_year_80 (by decide) ?_
            exact hF
      · have hF := hF.2 hc
        refine z_aload_n (q := 39) dX11_year_38 rfl rfl rfl ?_
        refine z_getR (c := 11) (k := 10) (r := (RX11, TX11, 54)) (q := 42) dX11_year_39 rfl (by decide) fl_X11_38 rfl g17 g21 rfl ?_
        refine z_iload_n (q := 43) dX11_year_42 rfl rfl rfl ?_
        refine y_iald (j := (Int32.toNatClampNeg l2)) (q := 44) dX11_year_43 (Or.inl g22) g23 rfl rfl ?_
        refine z_iconst (q := 45) (v := 1) dX11_year_44 (by decide) rfl ?_
        refine z_iadd (q := 46) dX11_year_45 rfl ?_
        refine z_goto (q := 51) dX11_year_46 (by decide) ?_
        refine y_iast (j := (Int32.toNatClampNeg l2)) (q := 52) dX11_year_51 g22 g23 rfl rfl ?_
        refine z_aload_n (q := 53) dX11_year_52 rfl rfl rfl ?_
        obtain ⟨g36, hF⟩ := hF
        refine z_getR (c := 11) (k := 12) (r := (RX11, TX11, 54)) (q := 56) dX11_year_53 rfl (by decide) fl_X11_44 rfl g17 g36 rfl ?_
        refine z_iload_n (q := 57) dX11_year_56 rfl rfl rfl ?_
        refine z_dup2 (q := 58) dX11_year_57 rfl rfl rfl ?_
        refine z_nameH (fun h37 eh38 => ?_)
        have hF := hF h37 eh38
        obtain ⟨g39, hF⟩ := hF
        obtain ⟨g40, hF⟩ := hF
        refine y_iald (j := (Int32.toNatClampNeg l2)) (q := 59) dX11_year_58 (Or.inl g39) g40 rfl rfl ?_
        refine z_aload_n (q := 60) dX11_year_59 rfl rfl rfl ?_
        obtain ⟨g41, hF⟩ := hF
        obtain ⟨g42, hF⟩ := hF
        refine z_getR (c := 11) (k := 16) (r := (RX11, TX11, 54)) (q := 63) dX11_year_60 rfl (by decide) fl_X11_56 rfl g41 g42 rfl ?_
        refine z_iload_n (q := 64) dX11_year_63 rfl rfl rfl ?_
        obtain ⟨g43, hF⟩ := hF
        obtain ⟨g44, hF⟩ := hF
        refine y_iald (j := (Int32.toNatClampNeg l2)) (q := 65) dX11_year_64 (Or.inl g43) g44 rfl rfl ?_
        refine z_if_ne (t := 83) (q := 68) dX11_year_65 (by decide) rfl (fun hc => ?_) (fun hc => ?_)
        · have hF := hF.1 hc
          refine z_iconst (q := 84) (v := 0) dX11_year_83 (by decide) rfl ?_
          exact hF
        · have hF := hF.2 hc
          refine z_aload_n (q := 69) dX11_year_68 rfl rfl rfl ?_
          obtain ⟨g45, hF⟩ := hF
          refine z_getR (c := 11) (k := 12) (r := (RX11, TX11, 54)) (q := 72) dX11_year_69 rfl (by decide) fl_X11_44 rfl g41 g45 rfl ?_
          refine z_iload_n (q := 73) dX11_year_72 rfl rfl rfl ?_
          obtain ⟨g46, hF⟩ := hF
          obtain ⟨g47, hF⟩ := hF
          refine y_iald (j := (Int32.toNatClampNeg l2)) (q := 74) dX11_year_73 (Or.inl g46) g47 rfl rfl ?_
          refine z_bipush (q := 76) (v := 50) dX11_year_74 (by decide) rfl ?_
          refine z_icmp_ge (t := 83) (q := 79) dX11_year_76 (by decide) rfl (fun hc => ?_) (fun hc => ?_)
          · have hF := hF.1 hc
            refine z_iconst (q := 84) (v := 0) dX11_year_83 (by decide) rfl ?_
            exact hF
          · have hF := hF.2 hc
            refine z_iconst (q := 80) (v := 1) dX11_year_79 (by decide) rfl ?_
            refine z_goto (q := 84) dX11_year_80 (by decide) ?_
            exact hF
set_option maxRecDepth 100000 in
set_option maxHeartbeats 4000000 in
theorem wX11_year {ψ : Int32 → ZH → Prop} {l0 : Nat} {h : ZH} (hF : Zt mX11_year (zPI ψ) 0 0 4 [some (.ref l0), some (.int 0), some (.int 0)] [] h) : ZcI mX11_year [.ref l0] h ψ := by
  refine Zc.intro (L := [some (.ref l0), none, none]) (show plainName RX11 = true by decide) rfl (Nat.le_of_ble_eq_true rfl) ?_
  show Zt _ _ 0 0 _ _ _ _
  refine z_iconst (q := 1) (v := 0) dX11_year_0 (by decide) rfl ?_
  refine z_istore_n (q := 2) (L' := [some (.ref l0), some (.int 0), none]) dX11_year_1 rfl (Nat.le_of_ble_eq_true rfl) rfl rfl rfl ?_
  refine z_iconst (q := 3) (v := 0) dX11_year_2 (by decide) rfl ?_
  refine z_istore_n (q := 4) (L' := [some (.ref l0), some (.int 0), some (.int 0)]) dX11_year_3 rfl (Nat.le_of_ble_eq_true rfl) rfl rfl rfl ?_
  exact hF
set_option maxRecDepth 100000 in
set_option maxHeartbeats 4000000 in
theorem wX11_say {ψ : Int32 → ZH → Prop} {l0 : Nat} {l1 : Int32} {h : ZH} (hF : ZcI mX11_in [.long (Int32.toInt64 l1), .long 33, .long 126] h (fun x2 h1 => ((¬ x2 = 0 → (zK h1 l0 = 12) ∧ ((zR h1 l0 20) ≠ 0) ∧ (zK h1 (zR h1 l0 20) = 20) ∧ (3 < zN h1 (zR h1 l0 20)) ∧ ((¬ (zI h1 (zR h1 l0 20) 3) = 40 → ((zR h1 l0 19) ≠ 0) ∧ (zK h1 (zR h1 l0 19) = 20) ∧ (vp_in (120 + (zI h1 (zR h1 l0 20) 3)) (zN h1 (zR h1 l0 19))) ∧ ∀ h10 : ZH, h10 = (zsI h1 (zR h1 l0 19) (Int32.toNatClampNeg (120 + (zI h1 (zR h1 l0 20) 3))) l1) → (zK h10 (zR h1 l0 20) = 20) ∧ (3 < zN h10 (zR h1 l0 20)) ∧ (zK h10 l0 = 12) ∧ ((zR h10 l0 20) ≠ 0) ∧ ∀ h16 : ZH, h16 = (zsI h10 (zR h1 l0 20) 3 ((zI h10 (zR h1 l0 20) 3) + 1)) → (zK h16 (zR h10 l0 20) = 20) ∧ (3 < zN h16 (zR h10 l0 20)) ∧ ψ (zI h16 (zR h10 l0 20) 3) h16) ∧ ((zI h1 (zR h1 l0 20) 3) = 40 → ψ (-4) h1))) ∧ (x2 = 0 → ψ (-2) h1)))) : ZcI mX11_say [.ref l0, .int l1] h ψ := by
  refine Zc.intro (L := [some (.ref l0), some (.int l1)]) (show plainName RX11 = true by decide) rfl (Nat.le_of_ble_eq_true rfl) ?_
  show Zt _ _ 0 0 _ _ _ _
  refine z_iload_n (q := 1) dX11_say_0 rfl rfl rfl ?_
  refine z_i2l (q := 2) dX11_say_1 rfl ?_
  refine z_ldc2 (q := 5) (v := 33) dX11_say_2 cw_X11_204 rfl ?_
  refine z_ldc2 (q := 8) (v := 126) dX11_say_5 cw_X11_206 rfl ?_
  refine z_callSI (rc := 0) (rs := 0) (av := [.long (Int32.toInt64 l1), .long 33, .long 126]) (q := 11) hF dX11_say_8 ml_X11_140 ok_X11_in st_X11_in rfl (Nat.le_of_ble_eq_true rfl) (by decide) (Nat.le_of_ble_eq_true rfl) rfl rfl rfl rfl (fun x2 h1 hF => ?_)
  refine z_if_ne (t := 17) (q := 14) dX11_say_11 (by decide) rfl (fun hc => ?_) (fun hc => ?_)
  · have hF := hF.1 hc
    refine z_aload_n (q := 18) dX11_say_17 rfl rfl rfl ?_
    obtain ⟨g3, hF⟩ := hF
    obtain ⟨g4, hF⟩ := hF
    refine z_getR (c := 11) (k := 20) (r := (RX11, TX11, 54)) (q := 21) dX11_say_18 rfl (by decide) fl_X11_65 rfl g3 g4 rfl ?_
    refine z_iconst (q := 22) (v := 3) dX11_say_21 (by decide) rfl ?_
    obtain ⟨g5, hF⟩ := hF
    obtain ⟨g6, hF⟩ := hF
    refine y_iald (j := 3) (q := 23) dX11_say_22 (Or.inl g5) (zvin (by decide) (by decide) g6) (by decide) rfl ?_
    refine z_bipush (q := 25) (v := 40) dX11_say_23 (by decide) rfl ?_
    refine z_icmp_ne (t := 31) (q := 28) dX11_say_25 (by decide) rfl (fun hc => ?_) (fun hc => ?_)
    · have hF := hF.1 hc
      refine z_aload_n (q := 32) dX11_say_31 rfl rfl rfl ?_
      obtain ⟨g7, hF⟩ := hF
      refine z_getR (c := 11) (k := 19) (r := (RX11, TX11, 54)) (q := 35) dX11_say_32 rfl (by decide) fl_X11_62 rfl g3 g7 rfl ?_
      refine z_bipush (q := 37) (v := 120) dX11_say_35 (by decide) rfl ?_
      refine z_aload_n (q := 38) dX11_say_37 rfl rfl rfl ?_
      refine z_getR (c := 11) (k := 20) (r := (RX11, TX11, 54)) (q := 41) dX11_say_38 rfl (by decide) fl_X11_65 rfl g3 g4 rfl ?_
      refine z_iconst (q := 42) (v := 3) dX11_say_41 (by decide) rfl ?_
      refine y_iald (j := 3) (q := 43) dX11_say_42 (Or.inl g5) (zvin (by decide) (by decide) g6) (by decide) rfl ?_
      refine z_iadd (q := 44) dX11_say_43 rfl ?_
      refine z_iload_n (q := 45) dX11_say_44 rfl rfl rfl ?_
      obtain ⟨g8, hF⟩ := hF
      obtain ⟨g9, hF⟩ := hF
      refine y_iast (j := (Int32.toNatClampNeg (120 + (zI h1 (zR h1 l0 20) 3)))) (q := 46) dX11_say_45 g8 g9 rfl rfl ?_
      refine z_aload_n (q := 47) dX11_say_46 rfl rfl rfl ?_
      refine z_getR (c := 11) (k := 20) (r := (RX11, TX11, 54)) (q := 50) dX11_say_47 rfl (by decide) fl_X11_65 rfl g3 g4 rfl ?_
      refine z_iconst (q := 51) (v := 3) dX11_say_50 (by decide) rfl ?_
      refine z_dup2 (q := 52) dX11_say_51 rfl rfl rfl ?_
      refine z_nameH (fun h10 eh11 => ?_)
      have hF := hF h10 eh11
      obtain ⟨g12, hF⟩ := hF
      obtain ⟨g13, hF⟩ := hF
      refine y_iald (j := 3) (q := 53) dX11_say_52 (Or.inl g12) (zvin (by decide) (by decide) g13) (by decide) rfl ?_
      refine z_iconst (q := 54) (v := 1) dX11_say_53 (by decide) rfl ?_
      refine z_iadd (q := 55) dX11_say_54 rfl ?_
      refine y_iast (j := 3) (q := 56) dX11_say_55 g12 (zvin (by decide) (by decide) g13) (by decide) rfl ?_
      refine z_aload_n (q := 57) dX11_say_56 rfl rfl rfl ?_
      obtain ⟨g14, hF⟩ := hF
      obtain ⟨g15, hF⟩ := hF
      refine z_getR (c := 11) (k := 20) (r := (RX11, TX11, 54)) (q := 60) dX11_say_57 rfl (by decide) fl_X11_65 rfl g14 g15 rfl ?_
      refine z_iconst (q := 61) (v := 3) dX11_say_60 (by decide) rfl ?_
      refine z_nameH (fun h16 eh17 => ?_)
      have hF := hF h16 eh17
      obtain ⟨g18, hF⟩ := hF
      obtain ⟨g19, hF⟩ := hF
      refine y_iald (j := 3) (q := 62) dX11_say_61 (Or.inl g18) (zvin (by decide) (by decide) g19) (by decide) rfl ?_
      exact z_ireturn dX11_say_62 rfl ⟨_, rfl, hF⟩
    · have hF := hF.2 hc
      refine z_bipush (q := 30) (v := (-4)) dX11_say_28 (by decide) rfl ?_
      exact z_ireturn dX11_say_30 rfl ⟨_, rfl, hF⟩
  · have hF := hF.2 hc
    refine z_bipush (q := 16) (v := (-2)) dX11_say_14 (by decide) rfl ?_
    exact z_ireturn dX11_say_16 rfl ⟨_, rfl, hF⟩
set_option maxRecDepth 100000 in
set_option maxHeartbeats 4000000 in
theorem wX11_wipe {ψ : Int32 → ZH → Prop} {l0 : Nat} {h : ZH} (hF : (zK h l0 = 12) ∧ ((zR h l0 20) ≠ 0) ∧ (zK h (zR h l0 20) = 20) ∧ (3 < zN h (zR h l0 20)) ∧ ψ (zI h (zR h l0 20) 3) (zsI h (zR h l0 20) 3 0)) : ZcI mX11_wipe [.ref l0] h ψ := by
  refine Zc.intro (L := [some (.ref l0), none]) (show plainName RX11 = true by decide) rfl (Nat.le_of_ble_eq_true rfl) ?_
  show Zt _ _ 0 0 _ _ _ _
  refine z_aload_n (q := 1) dX11_wipe_0 rfl rfl rfl ?_
  obtain ⟨g1, hF⟩ := hF
  obtain ⟨g2, hF⟩ := hF
  refine z_getR (c := 11) (k := 20) (r := (RX11, TX11, 54)) (q := 4) dX11_wipe_1 rfl (by decide) fl_X11_65 rfl g1 g2 rfl ?_
  refine z_iconst (q := 5) (v := 3) dX11_wipe_4 (by decide) rfl ?_
  obtain ⟨g3, hF⟩ := hF
  obtain ⟨g4, hF⟩ := hF
  refine y_iald (j := 3) (q := 6) dX11_wipe_5 (Or.inl g3) (zvin (by decide) (by decide) g4) (by decide) rfl ?_
  refine z_istore_n (q := 7) (L' := [some (.ref l0), some (.int (zI h (zR h l0 20) 3))]) dX11_wipe_6 rfl (Nat.le_of_ble_eq_true rfl) rfl rfl rfl ?_
  refine z_aload_n (q := 8) dX11_wipe_7 rfl rfl rfl ?_
  refine z_getR (c := 11) (k := 20) (r := (RX11, TX11, 54)) (q := 11) dX11_wipe_8 rfl (by decide) fl_X11_65 rfl g1 g2 rfl ?_
  refine z_iconst (q := 12) (v := 3) dX11_wipe_11 (by decide) rfl ?_
  refine z_iconst (q := 13) (v := 0) dX11_wipe_12 (by decide) rfl ?_
  refine y_iast (j := 3) (q := 14) dX11_wipe_13 g3 (zvin (by decide) (by decide) g4) (by decide) rfl ?_
  refine z_iload_n (q := 15) dX11_wipe_14 rfl rfl rfl ?_
  exact z_ireturn dX11_wipe_15 rfl ⟨_, rfl, hF⟩
set_option maxRecDepth 100000 in
set_option maxHeartbeats 4000000 in
theorem wX11_isDigit {ψ : Int32 → ZH → Prop} {l0 : Int32} {h : ZH} (hF : ZcI mX11_in [.long (Int32.toInt64 l0), .long 48, .long 57] h (fun x2 h1 => (x2 = 0 ∨ x2 = 1) ∧ ψ x2 h1)) : ZcI mX11_isDigit [.int l0] h ψ := by
  refine Zc.intro (L := [some (.int l0)]) (show plainName RX11 = true by decide) rfl (Nat.le_of_ble_eq_true rfl) ?_
  show Zt _ _ 0 0 _ _ _ _
  refine z_iload_n (q := 1) dX11_isDigit_0 rfl rfl rfl ?_
  refine z_i2l (q := 2) dX11_isDigit_1 rfl ?_
  refine z_ldc2 (q := 5) (v := 48) dX11_isDigit_2 cw_X11_208 rfl ?_
  refine z_ldc2 (q := 8) (v := 57) dX11_isDigit_5 cw_X11_210 rfl ?_
  refine z_callSI (rc := 0) (rs := 0) (av := [.long (Int32.toInt64 l0), .long 48, .long 57]) (q := 11) hF dX11_isDigit_8 ml_X11_140 ok_X11_in st_X11_in rfl (Nat.le_of_ble_eq_true rfl) (by decide) (Nat.le_of_ble_eq_true rfl) rfl rfl rfl rfl (fun x2 h1 hF => ?_)
  obtain ⟨g3, hF⟩ := hF
  exact z_zreturn dX11_isDigit_11 rfl g3 ⟨_, rfl, hF⟩
set_option maxRecDepth 100000 in
set_option maxHeartbeats 4000000 in
theorem wX11_isFact {ψ : Int32 → ZH → Prop} {l0 : Int32} {h : ZH} (hF : ((l0 = 97 → ψ 1 h) ∧ (¬ l0 = 97 → ((l0 = 121 → ψ 1 h) ∧ (¬ l0 = 121 → ((l0 = 116 → ψ 1 h) ∧ (¬ l0 = 116 → ((l0 = 107 → ψ 1 h) ∧ (¬ l0 = 107 → ((¬ l0 = 102 → ψ 0 h) ∧ (l0 = 102 → ψ 1 h))))))))))) : ZcI mX11_isFact [.int l0] h ψ := by
  refine Zc.intro (L := [some (.int l0)]) (show plainName RX11 = true by decide) rfl (Nat.le_of_ble_eq_true rfl) ?_
  show Zt _ _ 0 0 _ _ _ _
  refine z_iload_n (q := 1) dX11_isFact_0 rfl rfl rfl ?_
  refine z_bipush (q := 3) (v := 97) dX11_isFact_1 (by decide) rfl ?_
  refine z_icmp_eq (t := 30) (q := 6) dX11_isFact_3 (by decide) rfl (fun hc => ?_) (fun hc => ?_)
  · have hF := hF.1 hc
    refine z_iconst (q := 31) (v := 1) dX11_isFact_30 (by decide) rfl ?_
    refine z_goto (q := 35) dX11_isFact_31 (by decide) ?_
    exact z_zreturn dX11_isFact_35 rfl (by decide) ⟨_, rfl, hF⟩
  · have hF := hF.2 hc
    refine z_iload_n (q := 7) dX11_isFact_6 rfl rfl rfl ?_
    refine z_bipush (q := 9) (v := 121) dX11_isFact_7 (by decide) rfl ?_
    refine z_icmp_eq (t := 30) (q := 12) dX11_isFact_9 (by decide) rfl (fun hc => ?_) (fun hc => ?_)
    · have hF := hF.1 hc
      refine z_iconst (q := 31) (v := 1) dX11_isFact_30 (by decide) rfl ?_
      refine z_goto (q := 35) dX11_isFact_31 (by decide) ?_
      exact z_zreturn dX11_isFact_35 rfl (by decide) ⟨_, rfl, hF⟩
    · have hF := hF.2 hc
      refine z_iload_n (q := 13) dX11_isFact_12 rfl rfl rfl ?_
      refine z_bipush (q := 15) (v := 116) dX11_isFact_13 (by decide) rfl ?_
      refine z_icmp_eq (t := 30) (q := 18) dX11_isFact_15 (by decide) rfl (fun hc => ?_) (fun hc => ?_)
      · have hF := hF.1 hc
        refine z_iconst (q := 31) (v := 1) dX11_isFact_30 (by decide) rfl ?_
        refine z_goto (q := 35) dX11_isFact_31 (by decide) ?_
        exact z_zreturn dX11_isFact_35 rfl (by decide) ⟨_, rfl, hF⟩
      · have hF := hF.2 hc
        refine z_iload_n (q := 19) dX11_isFact_18 rfl rfl rfl ?_
        refine z_bipush (q := 21) (v := 107) dX11_isFact_19 (by decide) rfl ?_
        refine z_icmp_eq (t := 30) (q := 24) dX11_isFact_21 (by decide) rfl (fun hc => ?_) (fun hc => ?_)
        · have hF := hF.1 hc
          refine z_iconst (q := 31) (v := 1) dX11_isFact_30 (by decide) rfl ?_
          refine z_goto (q := 35) dX11_isFact_31 (by decide) ?_
          exact z_zreturn dX11_isFact_35 rfl (by decide) ⟨_, rfl, hF⟩
        · have hF := hF.2 hc
          refine z_iload_n (q := 25) dX11_isFact_24 rfl rfl rfl ?_
          refine z_bipush (q := 27) (v := 102) dX11_isFact_25 (by decide) rfl ?_
          refine z_icmp_ne (t := 34) (q := 30) dX11_isFact_27 (by decide) rfl (fun hc => ?_) (fun hc => ?_)
          · have hF := hF.1 hc
            refine z_iconst (q := 35) (v := 0) dX11_isFact_34 (by decide) rfl ?_
            exact z_zreturn dX11_isFact_35 rfl (by decide) ⟨_, rfl, hF⟩
          · have hF := hF.2 hc
            refine z_iconst (q := 31) (v := 1) dX11_isFact_30 (by decide) rfl ?_
            refine z_goto (q := 35) dX11_isFact_31 (by decide) ?_
            exact z_zreturn dX11_isFact_35 rfl (by decide) ⟨_, rfl, hF⟩
set_option maxRecDepth 100000 in
set_option maxHeartbeats 4000000 in
theorem wX11_isAct {ψ : Int32 → ZH → Prop} {l0 : Int32} {h : ZH} (hF : ((l0 = 43 → ψ 1 h) ∧ (¬ l0 = 43 → ((l0 = 45 → ψ 1 h) ∧ (¬ l0 = 45 → ((l0 = 42 → ψ 1 h) ∧ (¬ l0 = 42 → ((l0 = 60 → ψ 1 h) ∧ (¬ l0 = 60 → ((l0 = 62 → ψ 1 h) ∧ (¬ l0 = 62 → ((l0 = 61 → ψ 1 h) ∧ (¬ l0 = 61 → ((l0 = 38 → ψ 1 h) ∧ (¬ l0 = 38 → ((¬ l0 = 124 → ψ 0 h) ∧ (l0 = 124 → ψ 1 h))))))))))))))))) : ZcI mX11_isAct [.int l0] h ψ := by
  refine Zc.intro (L := [some (.int l0)]) (show plainName RX11 = true by decide) rfl (Nat.le_of_ble_eq_true rfl) ?_
  show Zt _ _ 0 0 _ _ _ _
  refine z_iload_n (q := 1) dX11_isAct_0 rfl rfl rfl ?_
  refine z_bipush (q := 3) (v := 43) dX11_isAct_1 (by decide) rfl ?_
  refine z_icmp_eq (t := 48) (q := 6) dX11_isAct_3 (by decide) rfl (fun hc => ?_) (fun hc => ?_)
  · have hF := hF.1 hc
    refine z_iconst (q := 49) (v := 1) dX11_isAct_48 (by decide) rfl ?_
    refine z_goto (q := 53) dX11_isAct_49 (by decide) ?_
    exact z_zreturn dX11_isAct_53 rfl (by decide) ⟨_, rfl, hF⟩
  · have hF := hF.2 hc
    refine z_iload_n (q := 7) dX11_isAct_6 rfl rfl rfl ?_
    refine z_bipush (q := 9) (v := 45) dX11_isAct_7 (by decide) rfl ?_
    refine z_icmp_eq (t := 48) (q := 12) dX11_isAct_9 (by decide) rfl (fun hc => ?_) (fun hc => ?_)
    · have hF := hF.1 hc
      refine z_iconst (q := 49) (v := 1) dX11_isAct_48 (by decide) rfl ?_
      refine z_goto (q := 53) dX11_isAct_49 (by decide) ?_
      exact z_zreturn dX11_isAct_53 rfl (by decide) ⟨_, rfl, hF⟩
    · have hF := hF.2 hc
      refine z_iload_n (q := 13) dX11_isAct_12 rfl rfl rfl ?_
      refine z_bipush (q := 15) (v := 42) dX11_isAct_13 (by decide) rfl ?_
      refine z_icmp_eq (t := 48) (q := 18) dX11_isAct_15 (by decide) rfl (fun hc => ?_) (fun hc => ?_)
      · have hF := hF.1 hc
        refine z_iconst (q := 49) (v := 1) dX11_isAct_48 (by decide) rfl ?_
        refine z_goto (q := 53) dX11_isAct_49 (by decide) ?_
        exact z_zreturn dX11_isAct_53 rfl (by decide) ⟨_, rfl, hF⟩
      · have hF := hF.2 hc
        refine z_iload_n (q := 19) dX11_isAct_18 rfl rfl rfl ?_
        refine z_bipush (q := 21) (v := 60) dX11_isAct_19 (by decide) rfl ?_
        refine z_icmp_eq (t := 48) (q := 24) dX11_isAct_21 (by decide) rfl (fun hc => ?_) (fun hc => ?_)
        · have hF := hF.1 hc
          refine z_iconst (q := 49) (v := 1) dX11_isAct_48 (by decide) rfl ?_
          refine z_goto (q := 53) dX11_isAct_49 (by decide) ?_
          exact z_zreturn dX11_isAct_53 rfl (by decide) ⟨_, rfl, hF⟩
        · have hF := hF.2 hc
          refine z_iload_n (q := 25) dX11_isAct_24 rfl rfl rfl ?_
          refine z_bipush (q := 27) (v := 62) dX11_isAct_25 (by decide) rfl ?_
          refine z_icmp_eq (t := 48) (q := 30) dX11_isAct_27 (by decide) rfl (fun hc => ?_) (fun hc => ?_)
          · have hF := hF.1 hc
            refine z_iconst (q := 49) (v := 1) dX11_isAct_48 (by decide) rfl ?_
            refine z_goto (q := 53) dX11_isAct_49 (by decide) ?_
            exact z_zreturn dX11_isAct_53 rfl (by decide) ⟨_, rfl, hF⟩
          · have hF := hF.2 hc
            refine z_iload_n (q := 31) dX11_isAct_30 rfl rfl rfl ?_
            refine z_bipush (q := 33) (v := 61) dX11_isAct_31 (by decide) rfl ?_
            refine z_icmp_eq (t := 48) (q := 36) dX11_isAct_33 (by decide) rfl (fun hc => ?_) (fun hc => ?_)
            · have hF := hF.1 hc
              refine z_iconst (q := 49) (v := 1) dX11_isAct_48 (by decide) rfl ?_
              refine z_goto (q := 53) dX11_isAct_49 (by decide) ?_
              exact z_zreturn dX11_isAct_53 rfl (by decide) ⟨_, rfl, hF⟩
            · have hF := hF.2 hc
              refine z_iload_n (q := 37) dX11_isAct_36 rfl rfl rfl ?_
              refine z_bipush (q := 39) (v := 38) dX11_isAct_37 (by decide) rfl ?_
              refine z_icmp_eq (t := 48) (q := 42) dX11_isAct_39 (by decide) rfl (fun hc => ?_) (fun hc => ?_)
              · have hF := hF.1 hc
                refine z_iconst (q := 49) (v := 1) dX11_isAct_48 (by decide) rfl ?_
                refine z_goto (q := 53) dX11_isAct_49 (by decide) ?_
                exact z_zreturn dX11_isAct_53 rfl (by decide) ⟨_, rfl, hF⟩
              · have hF := hF.2 hc
                refine z_iload_n (q := 43) dX11_isAct_42 rfl rfl rfl ?_
                refine z_bipush (q := 45) (v := 124) dX11_isAct_43 (by decide) rfl ?_
                refine z_icmp_ne (t := 52) (q := 48) dX11_isAct_45 (by decide) rfl (fun hc => ?_) (fun hc => ?_)
                · have hF := hF.1 hc
                  refine z_iconst (q := 53) (v := 0) dX11_isAct_52 (by decide) rfl ?_
                  exact z_zreturn dX11_isAct_53 rfl (by decide) ⟨_, rfl, hF⟩
                · have hF := hF.2 hc
                  refine z_iconst (q := 49) (v := 1) dX11_isAct_48 (by decide) rfl ?_
                  refine z_goto (q := 53) dX11_isAct_49 (by decide) ?_
                  exact z_zreturn dX11_isAct_53 rfl (by decide) ⟨_, rfl, hF⟩
set_option maxRecDepth 100000 in
set_option maxHeartbeats 4000000 in
theorem wX11_fault_137 {ψ : Int32 → ZH → Prop} {l0 : Nat} {l1 : Int32} {l2 : Int32} {l3 : Int32} {l4 : Int32} {h : ZH} (hF : ((¬ l4 = 33 → ZcI mX11_isAct [.int l4] h (fun x2 h1 => ((x2 = 0 → ψ l3 h1) ∧ (¬ x2 = 0 → ψ l3 h1)))) ∧ (l4 = 33 → ((l1 ≤ 0 → ZcI mX11_isAct [.int l4] h (fun x4 h3 => ((x4 = 0 → ψ l3 h3) ∧ (¬ x4 = 0 → ψ l3 h3)))) ∧ (¬ l1 ≤ 0 → ZcI mX11_isAct [.int l4] h (fun x6 h5 => ((x6 = 0 → Zt mX11_fault (zPI ψ) 0 0 6 [some (.ref l0), some (.int (l1 - 0)), some (.int l2), some (.int (l3 + 1)), none, none] [] h5) ∧ (¬ x6 = 0 → Zt mX11_fault (zPI ψ) 0 0 6 [some (.ref l0), some (.int (l1 - 1)), some (.int l2), some (.int (l3 + 1)), none, none] [] h5)))))))) : Zt mX11_fault (zPI ψ) 0 0 137 [some (.ref l0), some (.int l1), some (.int l2), some (.int l3), some (.int l4), none] [] h := by
  refine z_iload (q := 139) dX11_fault_137 rfl rfl ?_
  refine z_bipush (q := 141) (v := 33) dX11_fault_139 (by decide) rfl ?_
  refine z_icmp_ne (t := 152) (q := 144) dX11_fault_141 (by decide) rfl (fun hc => ?_) (fun hc => ?_)
  · have hF := hF.1 hc
    refine z_iconst (q := 153) (v := 0) dX11_fault_152 (by decide) rfl ?_
    refine z_istore (q := 155) (L' := [some (.ref l0), some (.int l1), some (.int l2), some (.int l3), some (.int l4), some (.int 0)]) dX11_fault_153 (Nat.le_of_ble_eq_true rfl) rfl rfl rfl ?_
    refine z_iload_n (q := 156) dX11_fault_155 rfl rfl rfl ?_
    refine z_iload (q := 158) dX11_fault_156 rfl rfl ?_
    refine z_callSI (rc := 0) (rs := 0) (av := [.int l4]) (q := 161) hF dX11_fault_158 ml_X11_218 ok_X11_isAct st_X11_isAct rfl (Nat.le_of_ble_eq_true rfl) (by decide) (Nat.le_of_ble_eq_true rfl) rfl rfl rfl rfl (fun x2 h1 hF => ?_)
    refine z_if_eq (t := 168) (q := 164) dX11_fault_161 (by decide) rfl (fun hc => ?_) (fun hc => ?_)
    · have hF := hF.1 hc
      refine z_iconst (q := 169) (v := 0) dX11_fault_168 (by decide) rfl ?_
      refine z_isub (q := 170) dX11_fault_169 rfl ?_
      refine z_istore_n (q := 171) (L' := [some (.ref l0), some (.int (l1 - 0)), some (.int l2), some (.int l3), some (.int l4), some (.int 0)]) dX11_fault_170 rfl (Nat.le_of_ble_eq_true rfl) rfl rfl rfl ?_
      refine z_iload (q := 173) dX11_fault_171 rfl rfl ?_
      refine z_if_ne (t := 178) (q := 176) dX11_fault_173 (by decide) rfl (fun hc => absurd hc (by decide)) (fun _ => ?_)
      refine z_iload_n (q := 177) dX11_fault_176 rfl rfl rfl ?_
      exact z_ireturn dX11_fault_177 rfl ⟨_, rfl, hF⟩
    · have hF := hF.2 hc
      refine z_iconst (q := 165) (v := 1) dX11_fault_164 (by decide) rfl ?_
      refine z_goto (q := 169) dX11_fault_165 (by decide) ?_
      refine z_isub (q := 170) dX11_fault_169 rfl ?_
      refine z_istore_n (q := 171) (L' := [some (.ref l0), some (.int (l1 - 1)), some (.int l2), some (.int l3), some (.int l4), some (.int 0)]) dX11_fault_170 rfl (Nat.le_of_ble_eq_true rfl) rfl rfl rfl ?_
      refine z_iload (q := 173) dX11_fault_171 rfl rfl ?_
      refine z_if_ne (t := 178) (q := 176) dX11_fault_173 (by decide) rfl (fun hc => absurd hc (by decide)) (fun _ => ?_)
      refine z_iload_n (q := 177) dX11_fault_176 rfl rfl rfl ?_
      exact z_ireturn dX11_fault_177 rfl ⟨_, rfl, hF⟩
  · have hF := hF.2 hc
    refine z_iload_n (q := 145) dX11_fault_144 rfl rfl rfl ?_
    refine z_if_le (t := 152) (q := 148) dX11_fault_145 (by decide) rfl (fun hc => ?_) (fun hc => ?_)
    · have hF := hF.1 hc
      refine z_iconst (q := 153) (v := 0) dX11_fault_152 (by decide) rfl ?_
      refine z_istore (q := 155) (L' := [some (.ref l0), some (.int l1), some (.int l2), some (.int l3), some (.int l4), some (.int 0)]) dX11_fault_153 (Nat.le_of_ble_eq_true rfl) rfl rfl rfl ?_
      refine z_iload_n (q := 156) dX11_fault_155 rfl rfl rfl ?_
      refine z_iload (q := 158) dX11_fault_156 rfl rfl ?_
      refine z_callSI (rc := 0) (rs := 0) (av := [.int l4]) (q := 161) hF dX11_fault_158 ml_X11_218 ok_X11_isAct st_X11_isAct rfl (Nat.le_of_ble_eq_true rfl) (by decide) (Nat.le_of_ble_eq_true rfl) rfl rfl rfl rfl (fun x4 h3 hF => ?_)
      refine z_if_eq (t := 168) (q := 164) dX11_fault_161 (by decide) rfl (fun hc => ?_) (fun hc => ?_)
      · have hF := hF.1 hc
        refine z_iconst (q := 169) (v := 0) dX11_fault_168 (by decide) rfl ?_
        refine z_isub (q := 170) dX11_fault_169 rfl ?_
        refine z_istore_n (q := 171) (L' := [some (.ref l0), some (.int (l1 - 0)), some (.int l2), some (.int l3), some (.int l4), some (.int 0)]) dX11_fault_170 rfl (Nat.le_of_ble_eq_true rfl) rfl rfl rfl ?_
        refine z_iload (q := 173) dX11_fault_171 rfl rfl ?_
        refine z_if_ne (t := 178) (q := 176) dX11_fault_173 (by decide) rfl (fun hc => absurd hc (by decide)) (fun _ => ?_)
        refine z_iload_n (q := 177) dX11_fault_176 rfl rfl rfl ?_
        exact z_ireturn dX11_fault_177 rfl ⟨_, rfl, hF⟩
      · have hF := hF.2 hc
        refine z_iconst (q := 165) (v := 1) dX11_fault_164 (by decide) rfl ?_
        refine z_goto (q := 169) dX11_fault_165 (by decide) ?_
        refine z_isub (q := 170) dX11_fault_169 rfl ?_
        refine z_istore_n (q := 171) (L' := [some (.ref l0), some (.int (l1 - 1)), some (.int l2), some (.int l3), some (.int l4), some (.int 0)]) dX11_fault_170 rfl (Nat.le_of_ble_eq_true rfl) rfl rfl rfl ?_
        refine z_iload (q := 173) dX11_fault_171 rfl rfl ?_
        refine z_if_ne (t := 178) (q := 176) dX11_fault_173 (by decide) rfl (fun hc => absurd hc (by decide)) (fun _ => ?_)
        refine z_iload_n (q := 177) dX11_fault_176 rfl rfl rfl ?_
        exact z_ireturn dX11_fault_177 rfl ⟨_, rfl, hF⟩
    · have hF := hF.2 hc
      refine z_iconst (q := 149) (v := 1) dX11_fault_148 (by decide) rfl ?_
      refine z_goto (q := 153) dX11_fault_149 (by decide) ?_
      refine z_istore (q := 155) (L' := [some (.ref l0), some (.int l1), some (.int l2), some (.int l3), some (.int l4), some (.int 1)]) dX11_fault_153 (Nat.le_of_ble_eq_true rfl) rfl rfl rfl ?_
      refine z_iload_n (q := 156) dX11_fault_155 rfl rfl rfl ?_
      refine z_iload (q := 158) dX11_fault_156 rfl rfl ?_
      refine z_callSI (rc := 0) (rs := 0) (av := [.int l4]) (q := 161) hF dX11_fault_158 ml_X11_218 ok_X11_isAct st_X11_isAct rfl (Nat.le_of_ble_eq_true rfl) (by decide) (Nat.le_of_ble_eq_true rfl) rfl rfl rfl rfl (fun x6 h5 hF => ?_)
      refine z_if_eq (t := 168) (q := 164) dX11_fault_161 (by decide) rfl (fun hc => ?_) (fun hc => ?_)
      · have hF := hF.1 hc
        refine z_iconst (q := 169) (v := 0) dX11_fault_168 (by decide) rfl ?_
        refine z_isub (q := 170) dX11_fault_169 rfl ?_
        refine z_istore_n (q := 171) (L' := [some (.ref l0), some (.int (l1 - 0)), some (.int l2), some (.int l3), some (.int l4), some (.int 1)]) dX11_fault_170 rfl (Nat.le_of_ble_eq_true rfl) rfl rfl rfl ?_
        refine z_iload (q := 173) dX11_fault_171 rfl rfl ?_
        refine z_if_ne (t := 178) (q := 176) dX11_fault_173 (by decide) rfl (fun _ => ?_) (fun hc => absurd hc (by decide))
        refine z_iinc (q := 181) (v := (l3 + 1)) (L' := [some (.ref l0), some (.int (l1 - 0)), some (.int l2), some (.int (l3 + 1)), some (.int l4), some (.int 1)]) dX11_fault_178 rfl rfl (Nat.le_of_ble_eq_true rfl) rfl rfl rfl ?_
        refine z_goto (q := 6) dX11_fault_181 (by decide) ?_
        refine Zt.drop (i := 4) (L' := [some (.ref l0), some (.int (l1 - 0)), some (.int l2), some (.int (l3 + 1)), none, some (.int 1)]) rfl ?_
        refine Zt.drop (i := 5) (L' := [some (.ref l0), some (.int (l1 - 0)), some (.int l2), some (.int (l3 + 1)), none, none]) rfl ?_
        exact hF
      · have hF := hF.2 hc
        refine z_iconst (q := 165) (v := 1) dX11_fault_164 (by decide) rfl ?_
        refine z_goto (q := 169) dX11_fault_165 (by decide) ?_
        refine z_isub (q := 170) dX11_fault_169 rfl ?_
        refine z_istore_n (q := 171) (L' := [some (.ref l0), some (.int (l1 - 1)), some (.int l2), some (.int l3), some (.int l4), some (.int 1)]) dX11_fault_170 rfl (Nat.le_of_ble_eq_true rfl) rfl rfl rfl ?_
        refine z_iload (q := 173) dX11_fault_171 rfl rfl ?_
        refine z_if_ne (t := 178) (q := 176) dX11_fault_173 (by decide) rfl (fun _ => ?_) (fun hc => absurd hc (by decide))
        refine z_iinc (q := 181) (v := (l3 + 1)) (L' := [some (.ref l0), some (.int (l1 - 1)), some (.int l2), some (.int (l3 + 1)), some (.int l4), some (.int 1)]) dX11_fault_178 rfl rfl (Nat.le_of_ble_eq_true rfl) rfl rfl rfl ?_
        refine z_goto (q := 6) dX11_fault_181 (by decide) ?_
        refine Zt.drop (i := 4) (L' := [some (.ref l0), some (.int (l1 - 1)), some (.int l2), some (.int (l3 + 1)), none, some (.int 1)]) rfl ?_
        refine Zt.drop (i := 5) (L' := [some (.ref l0), some (.int (l1 - 1)), some (.int l2), some (.int (l3 + 1)), none, none]) rfl ?_
        exact hF
set_option maxRecDepth 100000 in
set_option maxHeartbeats 4000000 in
theorem wX11_fault_92 {ψ : Int32 → ZH → Prop} {l0 : Nat} {l1 : Int32} {l3 : Int32} {l4 : Int32} {h : ZH} (hF : ((5 ≤ l1 → ZcI mX11_isDigit [.int l4] h (fun x8 h7 => ((x8 = 0 → ψ l3 h7) ∧ (¬ x8 = 0 → ψ l3 h7)))) ∧ (¬ 5 ≤ l1 → ZcI mX11_isDigit [.int l4] h (fun x10 h9 => ((x10 = 0 → Zt mX11_fault (zPI ψ) 0 0 6 [some (.ref l0), some (.int (l1 + 1)), some (.int 0), some (.int (l3 + 1)), none, none] [] h9) ∧ (¬ x10 = 0 → Zt mX11_fault (zPI ψ) 0 0 6 [some (.ref l0), some (.int (l1 + 1)), some (.int 1), some (.int (l3 + 1)), none, none] [] h9)))))) : Zt mX11_fault (zPI ψ) 0 0 92 [some (.ref l0), some (.int l1), none, some (.int l3), some (.int l4), none] [] h := by
  refine z_iload_n (q := 93) dX11_fault_92 rfl rfl rfl ?_
  refine z_iconst (q := 94) (v := 5) dX11_fault_93 (by decide) rfl ?_
  refine z_icmp_ge (t := 101) (q := 97) dX11_fault_94 (by decide) rfl (fun hc => ?_) (fun hc => ?_)
  · have hF := hF.1 hc
    refine z_iconst (q := 102) (v := 0) dX11_fault_101 (by decide) rfl ?_
    refine z_istore (q := 104) (L' := [some (.ref l0), some (.int l1), none, some (.int l3), some (.int l4), some (.int 0)]) dX11_fault_102 (Nat.le_of_ble_eq_true rfl) rfl rfl rfl ?_
    refine z_iinc (q := 107) (v := (l1 + 1)) (L' := [some (.ref l0), some (.int (l1 + 1)), none, some (.int l3), some (.int l4), some (.int 0)]) dX11_fault_104 rfl rfl (Nat.le_of_ble_eq_true rfl) rfl rfl rfl ?_
    refine z_iload (q := 109) dX11_fault_107 rfl rfl ?_
    refine z_callSI (rc := 0) (rs := 0) (av := [.int l4]) (q := 112) hF dX11_fault_109 ml_X11_212 ok_X11_isDigit st_X11_isDigit rfl (Nat.le_of_ble_eq_true rfl) (by decide) (Nat.le_of_ble_eq_true rfl) rfl rfl rfl rfl (fun x8 h7 hF => ?_)
    refine z_if_eq (t := 119) (q := 115) dX11_fault_112 (by decide) rfl (fun hc => ?_) (fun hc => ?_)
    · have hF := hF.1 hc
      refine z_iconst (q := 120) (v := 0) dX11_fault_119 (by decide) rfl ?_
      refine z_istore_n (q := 121) (L' := [some (.ref l0), some (.int (l1 + 1)), some (.int 0), some (.int l3), some (.int l4), some (.int 0)]) dX11_fault_120 rfl (Nat.le_of_ble_eq_true rfl) rfl rfl rfl ?_
      refine z_goto (q := 171) dX11_fault_121 (by decide) ?_
      refine z_iload (q := 173) dX11_fault_171 rfl rfl ?_
      refine z_if_ne (t := 178) (q := 176) dX11_fault_173 (by decide) rfl (fun hc => absurd hc (by decide)) (fun _ => ?_)
      refine z_iload_n (q := 177) dX11_fault_176 rfl rfl rfl ?_
      exact z_ireturn dX11_fault_177 rfl ⟨_, rfl, hF⟩
    · have hF := hF.2 hc
      refine z_iconst (q := 116) (v := 1) dX11_fault_115 (by decide) rfl ?_
      refine z_goto (q := 120) dX11_fault_116 (by decide) ?_
      refine z_istore_n (q := 121) (L' := [some (.ref l0), some (.int (l1 + 1)), some (.int 1), some (.int l3), some (.int l4), some (.int 0)]) dX11_fault_120 rfl (Nat.le_of_ble_eq_true rfl) rfl rfl rfl ?_
      refine z_goto (q := 171) dX11_fault_121 (by decide) ?_
      refine z_iload (q := 173) dX11_fault_171 rfl rfl ?_
      refine z_if_ne (t := 178) (q := 176) dX11_fault_173 (by decide) rfl (fun hc => absurd hc (by decide)) (fun _ => ?_)
      refine z_iload_n (q := 177) dX11_fault_176 rfl rfl rfl ?_
      exact z_ireturn dX11_fault_177 rfl ⟨_, rfl, hF⟩
  · have hF := hF.2 hc
    refine z_iconst (q := 98) (v := 1) dX11_fault_97 (by decide) rfl ?_
    refine z_goto (q := 102) dX11_fault_98 (by decide) ?_
    refine z_istore (q := 104) (L' := [some (.ref l0), some (.int l1), none, some (.int l3), some (.int l4), some (.int 1)]) dX11_fault_102 (Nat.le_of_ble_eq_true rfl) rfl rfl rfl ?_
    refine z_iinc (q := 107) (v := (l1 + 1)) (L' := [some (.ref l0), some (.int (l1 + 1)), none, some (.int l3), some (.int l4), some (.int 1)]) dX11_fault_104 rfl rfl (Nat.le_of_ble_eq_true rfl) rfl rfl rfl ?_
    refine z_iload (q := 109) dX11_fault_107 rfl rfl ?_
    refine z_callSI (rc := 0) (rs := 0) (av := [.int l4]) (q := 112) hF dX11_fault_109 ml_X11_212 ok_X11_isDigit st_X11_isDigit rfl (Nat.le_of_ble_eq_true rfl) (by decide) (Nat.le_of_ble_eq_true rfl) rfl rfl rfl rfl (fun x10 h9 hF => ?_)
    refine z_if_eq (t := 119) (q := 115) dX11_fault_112 (by decide) rfl (fun hc => ?_) (fun hc => ?_)
    · have hF := hF.1 hc
      refine z_iconst (q := 120) (v := 0) dX11_fault_119 (by decide) rfl ?_
      refine z_istore_n (q := 121) (L' := [some (.ref l0), some (.int (l1 + 1)), some (.int 0), some (.int l3), some (.int l4), some (.int 1)]) dX11_fault_120 rfl (Nat.le_of_ble_eq_true rfl) rfl rfl rfl ?_
      refine z_goto (q := 171) dX11_fault_121 (by decide) ?_
      refine z_iload (q := 173) dX11_fault_171 rfl rfl ?_
      refine z_if_ne (t := 178) (q := 176) dX11_fault_173 (by decide) rfl (fun _ => ?_) (fun hc => absurd hc (by decide))
      refine z_iinc (q := 181) (v := (l3 + 1)) (L' := [some (.ref l0), some (.int (l1 + 1)), some (.int 0), some (.int (l3 + 1)), some (.int l4), some (.int 1)]) dX11_fault_178 rfl rfl (Nat.le_of_ble_eq_true rfl) rfl rfl rfl ?_
      refine z_goto (q := 6) dX11_fault_181 (by decide) ?_
      refine Zt.drop (i := 4) (L' := [some (.ref l0), some (.int (l1 + 1)), some (.int 0), some (.int (l3 + 1)), none, some (.int 1)]) rfl ?_
      refine Zt.drop (i := 5) (L' := [some (.ref l0), some (.int (l1 + 1)), some (.int 0), some (.int (l3 + 1)), none, none]) rfl ?_
      exact hF
    · have hF := hF.2 hc
      refine z_iconst (q := 116) (v := 1) dX11_fault_115 (by decide) rfl ?_
      refine z_goto (q := 120) dX11_fault_116 (by decide) ?_
      refine z_istore_n (q := 121) (L' := [some (.ref l0), some (.int (l1 + 1)), some (.int 1), some (.int l3), some (.int l4), some (.int 1)]) dX11_fault_120 rfl (Nat.le_of_ble_eq_true rfl) rfl rfl rfl ?_
      refine z_goto (q := 171) dX11_fault_121 (by decide) ?_
      refine z_iload (q := 173) dX11_fault_171 rfl rfl ?_
      refine z_if_ne (t := 178) (q := 176) dX11_fault_173 (by decide) rfl (fun _ => ?_) (fun hc => absurd hc (by decide))
      refine z_iinc (q := 181) (v := (l3 + 1)) (L' := [some (.ref l0), some (.int (l1 + 1)), some (.int 1), some (.int (l3 + 1)), some (.int l4), some (.int 1)]) dX11_fault_178 rfl rfl (Nat.le_of_ble_eq_true rfl) rfl rfl rfl ?_
      refine z_goto (q := 6) dX11_fault_181 (by decide) ?_
      refine Zt.drop (i := 4) (L' := [some (.ref l0), some (.int (l1 + 1)), some (.int 1), some (.int (l3 + 1)), none, some (.int 1)]) rfl ?_
      refine Zt.drop (i := 5) (L' := [some (.ref l0), some (.int (l1 + 1)), some (.int 1), some (.int (l3 + 1)), none, none]) rfl ?_
      exact hF
set_option maxRecDepth 100000 in
set_option maxHeartbeats 4000000 in
theorem wX11_fault_6 {ψ : Int32 → ZH → Prop} {l0 : Nat} {l1 : Int32} {l2 : Int32} {l3 : Int32} {h : ZH} (hF : (zK h l0 = 12) ∧ ((zR h l0 20) ≠ 0) ∧ (zK h (zR h l0 20) = 20) ∧ (3 < zN h (zR h l0 20)) ∧ (((zI h (zR h l0 20) 3) ≤ l3 → ((¬ l1 = 1 → ψ (zI h (zR h l0 20) 3) h) ∧ (l1 = 1 → ((¬ l2 = 0 → ψ (zI h (zR h l0 20) 3) h) ∧ (l2 = 0 → ψ (-6) h))))) ∧ (¬ (zI h (zR h l0 20) 3) ≤ l3 → ((zR h l0 19) ≠ 0) ∧ (zK h (zR h l0 19) = 20) ∧ (vp_in (120 + l3) (zN h (zR h l0 19))) ∧ ∀ v18 : Int32, v18 = (zI h (zR h l0 19) (Int32.toNatClampNeg (120 + l3))) → ((l2 ≤ 0 → ZcI mX11_isDigit [.int v18] h (fun x21 h20 => ((¬ x21 = 0 → Zt mX11_fault (zPI ψ) 0 0 92 [some (.ref l0), some (.int l1), none, some (.int l3), some (.int v18), none] [] h20) ∧ (x21 = 0 → ZcI mX11_isFact [.int v18] h20 (fun x23 h22 => ((x23 = 0 → ZcI mX11_isAct [.int v18] h22 (fun x25 h24 => ((x25 = 0 → Zt mX11_fault (zPI ψ) 0 0 137 [some (.ref l0), some (.int l1), some (.int l2), some (.int l3), some (.int v18), none] [] h24) ∧ (¬ x25 = 0 → ((1 < l1 → ZcI mX11_isAct [.int v18] h24 (fun x27 h26 => ((x27 = 0 → Zt mX11_fault (zPI ψ) 0 0 6 [some (.ref l0), some (.int (l1 - 0)), some (.int l2), some (.int (l3 + 1)), none, none] [] h26) ∧ (¬ x27 = 0 → Zt mX11_fault (zPI ψ) 0 0 6 [some (.ref l0), some (.int (l1 - 1)), some (.int l2), some (.int (l3 + 1)), none, none] [] h26)))) ∧ (¬ 1 < l1 → Zt mX11_fault (zPI ψ) 0 0 137 [some (.ref l0), some (.int l1), some (.int l2), some (.int l3), some (.int v18), none] [] h24)))))) ∧ (¬ x23 = 0 → Zt mX11_fault (zPI ψ) 0 0 92 [some (.ref l0), some (.int l1), none, some (.int l3), some (.int v18), none] [] h22))))))) ∧ (¬ l2 ≤ 0 → ((v18 = 44 → ((¬ v18 = 44 → Zt mX11_fault (zPI ψ) 0 0 6 [some (.ref l0), some (.int l1), some (.int (l2 + 1)), some (.int (l3 + 1)), none, none] [] h) ∧ (v18 = 44 → Zt mX11_fault (zPI ψ) 0 0 6 [some (.ref l0), some (.int l1), some (.int 0), some (.int (l3 + 1)), none, none] [] h))) ∧ (¬ v18 = 44 → ZcI mX11_isDigit [.int v18] h (fun x29 h28 => ((x29 = 0 → ((¬ v18 = 44 → ψ l3 h28) ∧ (v18 = 44 → ψ l3 h28))) ∧ (¬ x29 = 0 → ((4 ≤ l2 → ((¬ v18 = 44 → ψ l3 h28) ∧ (v18 = 44 → ψ l3 h28))) ∧ (¬ 4 ≤ l2 → ((¬ v18 = 44 → Zt mX11_fault (zPI ψ) 0 0 6 [some (.ref l0), some (.int l1), some (.int (l2 + 1)), some (.int (l3 + 1)), none, none] [] h28) ∧ (v18 = 44 → Zt mX11_fault (zPI ψ) 0 0 6 [some (.ref l0), some (.int l1), some (.int 0), some (.int (l3 + 1)), none, none] [] h28)))))))))))))) : Zt mX11_fault (zPI ψ) 0 0 6 [some (.ref l0), some (.int l1), some (.int l2), some (.int l3), none, none] [] h := by
  refine z_iload_n (q := 7) dX11_fault_6 rfl rfl rfl ?_
  refine z_aload_n (q := 8) dX11_fault_7 rfl rfl rfl ?_
  obtain ⟨g11, hF⟩ := hF
  obtain ⟨g12, hF⟩ := hF
  refine z_getR (c := 11) (k := 20) (r := (RX11, TX11, 54)) (q := 11) dX11_fault_8 rfl (by decide) fl_X11_65 rfl g11 g12 rfl ?_
  refine z_iconst (q := 12) (v := 3) dX11_fault_11 (by decide) rfl ?_
  obtain ⟨g13, hF⟩ := hF
  obtain ⟨g14, hF⟩ := hF
  refine y_iald (j := 3) (q := 13) dX11_fault_12 (Or.inl g13) (zvin (by decide) (by decide) g14) (by decide) rfl ?_
  refine z_icmp_ge (t := 184) (q := 16) dX11_fault_13 (by decide) rfl (fun hc => ?_) (fun hc => ?_)
  · have hF := hF.1 hc
    refine z_iload_n (q := 185) dX11_fault_184 rfl rfl rfl ?_
    refine z_iconst (q := 186) (v := 1) dX11_fault_185 (by decide) rfl ?_
    refine z_icmp_ne (t := 198) (q := 189) dX11_fault_186 (by decide) rfl (fun hc => ?_) (fun hc => ?_)
    · have hF := hF.1 hc
      refine z_aload_n (q := 199) dX11_fault_198 rfl rfl rfl ?_
      refine z_getR (c := 11) (k := 20) (r := (RX11, TX11, 54)) (q := 202) dX11_fault_199 rfl (by decide) fl_X11_65 rfl g11 g12 rfl ?_
      refine z_iconst (q := 203) (v := 3) dX11_fault_202 (by decide) rfl ?_
      refine y_iald (j := 3) (q := 204) dX11_fault_203 (Or.inl g13) (zvin (by decide) (by decide) g14) (by decide) rfl ?_
      exact z_ireturn dX11_fault_204 rfl ⟨_, rfl, hF⟩
    · have hF := hF.2 hc
      refine z_iload_n (q := 190) dX11_fault_189 rfl rfl rfl ?_
      refine z_if_ne (t := 198) (q := 193) dX11_fault_190 (by decide) rfl (fun hc => ?_) (fun hc => ?_)
      · have hF := hF.1 hc
        refine z_aload_n (q := 199) dX11_fault_198 rfl rfl rfl ?_
        refine z_getR (c := 11) (k := 20) (r := (RX11, TX11, 54)) (q := 202) dX11_fault_199 rfl (by decide) fl_X11_65 rfl g11 g12 rfl ?_
        refine z_iconst (q := 203) (v := 3) dX11_fault_202 (by decide) rfl ?_
        refine y_iald (j := 3) (q := 204) dX11_fault_203 (Or.inl g13) (zvin (by decide) (by decide) g14) (by decide) rfl ?_
        exact z_ireturn dX11_fault_204 rfl ⟨_, rfl, hF⟩
      · have hF := hF.2 hc
        refine z_bipush (q := 195) (v := (-6)) dX11_fault_193 (by decide) rfl ?_
        refine z_goto (q := 204) dX11_fault_195 (by decide) ?_
        exact z_ireturn dX11_fault_204 rfl ⟨_, rfl, hF⟩
  · have hF := hF.2 hc
    refine z_aload_n (q := 17) dX11_fault_16 rfl rfl rfl ?_
    obtain ⟨g15, hF⟩ := hF
    refine z_getR (c := 11) (k := 19) (r := (RX11, TX11, 54)) (q := 20) dX11_fault_17 rfl (by decide) fl_X11_62 rfl g11 g15 rfl ?_
    refine z_bipush (q := 22) (v := 120) dX11_fault_20 (by decide) rfl ?_
    refine z_iload_n (q := 23) dX11_fault_22 rfl rfl rfl ?_
    refine z_iadd (q := 24) dX11_fault_23 rfl ?_
    obtain ⟨g16, hF⟩ := hF
    obtain ⟨g17, hF⟩ := hF
    refine y_iald (j := (Int32.toNatClampNeg (120 + l3))) (q := 25) dX11_fault_24 (Or.inl g16) g17 rfl rfl ?_
    refine z_nameI (fun v18 ev19 => ?_)
    have hF := hF v18 ev19
    refine z_istore (q := 27) (L' := [some (.ref l0), some (.int l1), some (.int l2), some (.int l3), some (.int v18), none]) dX11_fault_25 (Nat.le_of_ble_eq_true rfl) rfl rfl rfl ?_
    refine z_iload_n (q := 28) dX11_fault_27 rfl rfl rfl ?_
    refine z_if_le (t := 76) (q := 31) dX11_fault_28 (by decide) rfl (fun hc => ?_) (fun hc => ?_)
    · have hF := hF.1 hc
      refine z_iload (q := 78) dX11_fault_76 rfl rfl ?_
      refine z_callSI (rc := 0) (rs := 0) (av := [.int v18]) (q := 81) hF dX11_fault_78 ml_X11_212 ok_X11_isDigit st_X11_isDigit rfl (Nat.le_of_ble_eq_true rfl) (by decide) (Nat.le_of_ble_eq_true rfl) rfl rfl rfl rfl (fun x21 h20 hF => ?_)
      refine z_if_ne (t := 92) (q := 84) dX11_fault_81 (by decide) rfl (fun hc => ?_) (fun hc => ?_)
      · have hF := hF.1 hc
        refine Zt.drop (i := 2) (L' := [some (.ref l0), some (.int l1), none, some (.int l3), some (.int v18), none]) rfl ?_
        exact hF
      · have hF := hF.2 hc
        refine z_iload (q := 86) dX11_fault_84 rfl rfl ?_
        refine z_callSI (rc := 0) (rs := 0) (av := [.int v18]) (q := 89) hF dX11_fault_86 ml_X11_215 ok_X11_isFact st_X11_isFact rfl (Nat.le_of_ble_eq_true rfl) (by decide) (Nat.le_of_ble_eq_true rfl) rfl rfl rfl rfl (fun x23 h22 hF => ?_)
        refine z_if_eq (t := 124) (q := 92) dX11_fault_89 (by decide) rfl (fun hc => ?_) (fun hc => ?_)
        · have hF := hF.1 hc
          refine z_iload (q := 126) dX11_fault_124 rfl rfl ?_
          refine z_callSI (rc := 0) (rs := 0) (av := [.int v18]) (q := 129) hF dX11_fault_126 ml_X11_218 ok_X11_isAct st_X11_isAct rfl (Nat.le_of_ble_eq_true rfl) (by decide) (Nat.le_of_ble_eq_true rfl) rfl rfl rfl rfl (fun x25 h24 hF => ?_)
          refine z_if_eq (t := 137) (q := 132) dX11_fault_129 (by decide) rfl (fun hc => ?_) (fun hc => ?_)
          · have hF := hF.1 hc
            exact hF
          · have hF := hF.2 hc
            refine z_iload_n (q := 133) dX11_fault_132 rfl rfl rfl ?_
            refine z_iconst (q := 134) (v := 1) dX11_fault_133 (by decide) rfl ?_
            refine z_icmp_gt (t := 148) (q := 137) dX11_fault_134 (by decide) rfl (fun hc => ?_) (fun hc => ?_)
            · have hF := hF.1 hc
              refine z_iconst (q := 149) (v := 1) dX11_fault_148 (by decide) rfl ?_
              refine z_goto (q := 153) dX11_fault_149 (by decide) ?_
              refine z_istore (q := 155) (L' := [some (.ref l0), some (.int l1), some (.int l2), some (.int l3), some (.int v18), some (.int 1)]) dX11_fault_153 (Nat.le_of_ble_eq_true rfl) rfl rfl rfl ?_
              refine z_iload_n (q := 156) dX11_fault_155 rfl rfl rfl ?_
              refine z_iload (q := 158) dX11_fault_156 rfl rfl ?_
              refine z_callSI (rc := 0) (rs := 0) (av := [.int v18]) (q := 161) hF dX11_fault_158 ml_X11_218 ok_X11_isAct st_X11_isAct rfl (Nat.le_of_ble_eq_true rfl) (by decide) (Nat.le_of_ble_eq_true rfl) rfl rfl rfl rfl (fun x27 h26 hF => ?_)
              refine z_if_eq (t := 168) (q := 164) dX11_fault_161 (by decide) rfl (fun hc => ?_) (fun hc => ?_)
              · have hF := hF.1 hc
                refine z_iconst (q := 169) (v := 0) dX11_fault_168 (by decide) rfl ?_
                refine z_isub (q := 170) dX11_fault_169 rfl ?_
                refine z_istore_n (q := 171) (L' := [some (.ref l0), some (.int (l1 - 0)), some (.int l2), some (.int l3), some (.int v18), some (.int 1)]) dX11_fault_170 rfl (Nat.le_of_ble_eq_true rfl) rfl rfl rfl ?_
                refine z_iload (q := 173) dX11_fault_171 rfl rfl ?_
                refine z_if_ne (t := 178) (q := 176) dX11_fault_173 (by decide) rfl (fun _ => ?_) (fun hc => absurd hc (by decide))
                refine z_iinc (q := 181) (v := (l3 + 1)) (L' := [some (.ref l0), some (.int (l1 - 0)), some (.int l2), some (.int (l3 + 1)), some (.int v18), some (.int 1)]) dX11_fault_178 rfl rfl (Nat.le_of_ble_eq_true rfl) rfl rfl rfl ?_
                refine z_goto (q := 6) dX11_fault_181 (by decide) ?_
                refine Zt.drop (i := 4) (L' := [some (.ref l0), some (.int (l1 - 0)), some (.int l2), some (.int (l3 + 1)), none, some (.int 1)]) rfl ?_
                refine Zt.drop (i := 5) (L' := [some (.ref l0), some (.int (l1 - 0)), some (.int l2), some (.int (l3 + 1)), none, none]) rfl ?_
                exact hF
              · have hF := hF.2 hc
                refine z_iconst (q := 165) (v := 1) dX11_fault_164 (by decide) rfl ?_
                refine z_goto (q := 169) dX11_fault_165 (by decide) ?_
                refine z_isub (q := 170) dX11_fault_169 rfl ?_
                refine z_istore_n (q := 171) (L' := [some (.ref l0), some (.int (l1 - 1)), some (.int l2), some (.int l3), some (.int v18), some (.int 1)]) dX11_fault_170 rfl (Nat.le_of_ble_eq_true rfl) rfl rfl rfl ?_
                refine z_iload (q := 173) dX11_fault_171 rfl rfl ?_
                refine z_if_ne (t := 178) (q := 176) dX11_fault_173 (by decide) rfl (fun _ => ?_) (fun hc => absurd hc (by decide))
                refine z_iinc (q := 181) (v := (l3 + 1)) (L' := [some (.ref l0), some (.int (l1 - 1)), some (.int l2), some (.int (l3 + 1)), some (.int v18), some (.int 1)]) dX11_fault_178 rfl rfl (Nat.le_of_ble_eq_true rfl) rfl rfl rfl ?_
                refine z_goto (q := 6) dX11_fault_181 (by decide) ?_
                refine Zt.drop (i := 4) (L' := [some (.ref l0), some (.int (l1 - 1)), some (.int l2), some (.int (l3 + 1)), none, some (.int 1)]) rfl ?_
                refine Zt.drop (i := 5) (L' := [some (.ref l0), some (.int (l1 - 1)), some (.int l2), some (.int (l3 + 1)), none, none]) rfl ?_
                exact hF
            · have hF := hF.2 hc
              exact hF
        · have hF := hF.2 hc
          refine Zt.drop (i := 2) (L' := [some (.ref l0), some (.int l1), none, some (.int l3), some (.int v18), none]) rfl ?_
          exact hF
    · have hF := hF.2 hc
      refine z_iload (q := 33) dX11_fault_31 rfl rfl ?_
      refine z_bipush (q := 35) (v := 44) dX11_fault_33 (by decide) rfl ?_
      refine z_icmp_eq (t := 51) (q := 38) dX11_fault_35 (by decide) rfl (fun hc => ?_) (fun hc => ?_)
      · have hF := hF.1 hc
        refine z_iconst (q := 52) (v := 1) dX11_fault_51 (by decide) rfl ?_
        refine z_goto (q := 56) dX11_fault_52 (by decide) ?_
        refine z_istore (q := 58) (L' := [some (.ref l0), some (.int l1), some (.int l2), some (.int l3), some (.int v18), some (.int 1)]) dX11_fault_56 (Nat.le_of_ble_eq_true rfl) rfl rfl rfl ?_
        refine z_iload (q := 60) dX11_fault_58 rfl rfl ?_
        refine z_bipush (q := 62) (v := 44) dX11_fault_60 (by decide) rfl ?_
        refine z_icmp_ne (t := 69) (q := 65) dX11_fault_62 (by decide) rfl (fun hc => ?_) (fun hc => ?_)
        · have hF := hF.1 hc
          refine z_iload_n (q := 70) dX11_fault_69 rfl rfl rfl ?_
          refine z_iconst (q := 71) (v := 1) dX11_fault_70 (by decide) rfl ?_
          refine z_iadd (q := 72) dX11_fault_71 rfl ?_
          refine z_istore_n (q := 73) (L' := [some (.ref l0), some (.int l1), some (.int (l2 + 1)), some (.int l3), some (.int v18), some (.int 1)]) dX11_fault_72 rfl (Nat.le_of_ble_eq_true rfl) rfl rfl rfl ?_
          refine z_goto (q := 171) dX11_fault_73 (by decide) ?_
          refine z_iload (q := 173) dX11_fault_171 rfl rfl ?_
          refine z_if_ne (t := 178) (q := 176) dX11_fault_173 (by decide) rfl (fun _ => ?_) (fun hc => absurd hc (by decide))
          refine z_iinc (q := 181) (v := (l3 + 1)) (L' := [some (.ref l0), some (.int l1), some (.int (l2 + 1)), some (.int (l3 + 1)), some (.int v18), some (.int 1)]) dX11_fault_178 rfl rfl (Nat.le_of_ble_eq_true rfl) rfl rfl rfl ?_
          refine z_goto (q := 6) dX11_fault_181 (by decide) ?_
          refine Zt.drop (i := 4) (L' := [some (.ref l0), some (.int l1), some (.int (l2 + 1)), some (.int (l3 + 1)), none, some (.int 1)]) rfl ?_
          refine Zt.drop (i := 5) (L' := [some (.ref l0), some (.int l1), some (.int (l2 + 1)), some (.int (l3 + 1)), none, none]) rfl ?_
          exact hF
        · have hF := hF.2 hc
          refine z_iconst (q := 66) (v := 0) dX11_fault_65 (by decide) rfl ?_
          refine z_goto (q := 72) dX11_fault_66 (by decide) ?_
          refine z_istore_n (q := 73) (L' := [some (.ref l0), some (.int l1), some (.int 0), some (.int l3), some (.int v18), some (.int 1)]) dX11_fault_72 rfl (Nat.le_of_ble_eq_true rfl) rfl rfl rfl ?_
          refine z_goto (q := 171) dX11_fault_73 (by decide) ?_
          refine z_iload (q := 173) dX11_fault_171 rfl rfl ?_
          refine z_if_ne (t := 178) (q := 176) dX11_fault_173 (by decide) rfl (fun _ => ?_) (fun hc => absurd hc (by decide))
          refine z_iinc (q := 181) (v := (l3 + 1)) (L' := [some (.ref l0), some (.int l1), some (.int 0), some (.int (l3 + 1)), some (.int v18), some (.int 1)]) dX11_fault_178 rfl rfl (Nat.le_of_ble_eq_true rfl) rfl rfl rfl ?_
          refine z_goto (q := 6) dX11_fault_181 (by decide) ?_
          refine Zt.drop (i := 4) (L' := [some (.ref l0), some (.int l1), some (.int 0), some (.int (l3 + 1)), none, some (.int 1)]) rfl ?_
          refine Zt.drop (i := 5) (L' := [some (.ref l0), some (.int l1), some (.int 0), some (.int (l3 + 1)), none, none]) rfl ?_
          exact hF
      · have hF := hF.2 hc
        refine z_iload (q := 40) dX11_fault_38 rfl rfl ?_
        refine z_callSI (rc := 0) (rs := 0) (av := [.int v18]) (q := 43) hF dX11_fault_40 ml_X11_212 ok_X11_isDigit st_X11_isDigit rfl (Nat.le_of_ble_eq_true rfl) (by decide) (Nat.le_of_ble_eq_true rfl) rfl rfl rfl rfl (fun x29 h28 hF => ?_)
        refine z_if_eq (t := 55) (q := 46) dX11_fault_43 (by decide) rfl (fun hc => ?_) (fun hc => ?_)
        · have hF := hF.1 hc
          refine z_iconst (q := 56) (v := 0) dX11_fault_55 (by decide) rfl ?_
          refine z_istore (q := 58) (L' := [some (.ref l0), some (.int l1), some (.int l2), some (.int l3), some (.int v18), some (.int 0)]) dX11_fault_56 (Nat.le_of_ble_eq_true rfl) rfl rfl rfl ?_
          refine z_iload (q := 60) dX11_fault_58 rfl rfl ?_
          refine z_bipush (q := 62) (v := 44) dX11_fault_60 (by decide) rfl ?_
          refine z_icmp_ne (t := 69) (q := 65) dX11_fault_62 (by decide) rfl (fun hc => ?_) (fun hc => ?_)
          · have hF := hF.1 hc
            refine z_iload_n (q := 70) dX11_fault_69 rfl rfl rfl ?_
            refine z_iconst (q := 71) (v := 1) dX11_fault_70 (by decide) rfl ?_
            refine z_iadd (q := 72) dX11_fault_71 rfl ?_
            refine z_istore_n (q := 73) (L' := [some (.ref l0), some (.int l1), some (.int (l2 + 1)), some (.int l3), some (.int v18), some (.int 0)]) dX11_fault_72 rfl (Nat.le_of_ble_eq_true rfl) rfl rfl rfl ?_
            refine z_goto (q := 171) dX11_fault_73 (by decide) ?_
            refine z_iload (q := 173) dX11_fault_171 rfl rfl ?_
            refine z_if_ne (t := 178) (q := 176) dX11_fault_173 (by decide) rfl (fun hc => absurd hc (by decide)) (fun _ => ?_)
            refine z_iload_n (q := 177) dX11_fault_176 rfl rfl rfl ?_
            exact z_ireturn dX11_fault_177 rfl ⟨_, rfl, hF⟩
          · have hF := hF.2 hc
            refine z_iconst (q := 66) (v := 0) dX11_fault_65 (by decide) rfl ?_
            refine z_goto (q := 72) dX11_fault_66 (by decide) ?_
            refine z_istore_n (q := 73) (L' := [some (.ref l0), some (.int l1), some (.int 0), some (.int l3), some (.int v18), some (.int 0)]) dX11_fault_72 rfl (Nat.le_of_ble_eq_true rfl) rfl rfl rfl ?_
            refine z_goto (q := 171) dX11_fault_73 (by decide) ?_
            refine z_iload (q := 173) dX11_fault_171 rfl rfl ?_
            refine z_if_ne (t := 178) (q := 176) dX11_fault_173 (by decide) rfl (fun hc => absurd hc (by decide)) (fun _ => ?_)
            refine z_iload_n (q := 177) dX11_fault_176 rfl rfl rfl ?_
            exact z_ireturn dX11_fault_177 rfl ⟨_, rfl, hF⟩
        · have hF := hF.2 hc
          refine z_iload_n (q := 47) dX11_fault_46 rfl rfl rfl ?_
          refine z_iconst (q := 48) (v := 4) dX11_fault_47 (by decide) rfl ?_
          refine z_icmp_ge (t := 55) (q := 51) dX11_fault_48 (by decide) rfl (fun hc => ?_) (fun hc => ?_)
          · have hF := hF.1 hc
            refine z_iconst (q := 56) (v := 0) dX11_fault_55 (by decide) rfl ?_
            refine z_istore (q := 58) (L' := [some (.ref l0), some (.int l1), some (.int l2), some (.int l3), some (.int v18), some (.int 0)]) dX11_fault_56 (Nat.le_of_ble_eq_true rfl) rfl rfl rfl ?_
            refine z_iload (q := 60) dX11_fault_58 rfl rfl ?_
            refine z_bipush (q := 62) (v := 44) dX11_fault_60 (by decide) rfl ?_
            refine z_icmp_ne (t := 69) (q := 65) dX11_fault_62 (by decide) rfl (fun hc => ?_) (fun hc => ?_)
            · have hF := hF.1 hc
              refine z_iload_n (q := 70) dX11_fault_69 rfl rfl rfl ?_
              refine z_iconst (q := 71) (v := 1) dX11_fault_70 (by decide) rfl ?_
              refine z_iadd (q := 72) dX11_fault_71 rfl ?_
              refine z_istore_n (q := 73) (L' := [some (.ref l0), some (.int l1), some (.int (l2 + 1)), some (.int l3), some (.int v18), some (.int 0)]) dX11_fault_72 rfl (Nat.le_of_ble_eq_true rfl) rfl rfl rfl ?_
              refine z_goto (q := 171) dX11_fault_73 (by decide) ?_
              refine z_iload (q := 173) dX11_fault_171 rfl rfl ?_
              refine z_if_ne (t := 178) (q := 176) dX11_fault_173 (by decide) rfl (fun hc => absurd hc (by decide)) (fun _ => ?_)
              refine z_iload_n (q := 177) dX11_fault_176 rfl rfl rfl ?_
              exact z_ireturn dX11_fault_177 rfl ⟨_, rfl, hF⟩
            · have hF := hF.2 hc
              refine z_iconst (q := 66) (v := 0) dX11_fault_65 (by decide) rfl ?_
              refine z_goto (q := 72) dX11_fault_66 (by decide) ?_
              refine z_istore_n (q := 73) (L' := [some (.ref l0), some (.int l1), some (.int 0), some (.int l3), some (.int v18), some (.int 0)]) dX11_fault_72 rfl (Nat.le_of_ble_eq_true rfl) rfl rfl rfl ?_
              refine z_goto (q := 171) dX11_fault_73 (by decide) ?_
              refine z_iload (q := 173) dX11_fault_171 rfl rfl ?_
              refine z_if_ne (t := 178) (q := 176) dX11_fault_173 (by decide) rfl (fun hc => absurd hc (by decide)) (fun _ => ?_)
              refine z_iload_n (q := 177) dX11_fault_176 rfl rfl rfl ?_
              exact z_ireturn dX11_fault_177 rfl ⟨_, rfl, hF⟩
          · have hF := hF.2 hc
            refine z_iconst (q := 52) (v := 1) dX11_fault_51 (by decide) rfl ?_
            refine z_goto (q := 56) dX11_fault_52 (by decide) ?_
            refine z_istore (q := 58) (L' := [some (.ref l0), some (.int l1), some (.int l2), some (.int l3), some (.int v18), some (.int 1)]) dX11_fault_56 (Nat.le_of_ble_eq_true rfl) rfl rfl rfl ?_
            refine z_iload (q := 60) dX11_fault_58 rfl rfl ?_
            refine z_bipush (q := 62) (v := 44) dX11_fault_60 (by decide) rfl ?_
            refine z_icmp_ne (t := 69) (q := 65) dX11_fault_62 (by decide) rfl (fun hc => ?_) (fun hc => ?_)
            · have hF := hF.1 hc
              refine z_iload_n (q := 70) dX11_fault_69 rfl rfl rfl ?_
              refine z_iconst (q := 71) (v := 1) dX11_fault_70 (by decide) rfl ?_
              refine z_iadd (q := 72) dX11_fault_71 rfl ?_
              refine z_istore_n (q := 73) (L' := [some (.ref l0), some (.int l1), some (.int (l2 + 1)), some (.int l3), some (.int v18), some (.int 1)]) dX11_fault_72 rfl (Nat.le_of_ble_eq_true rfl) rfl rfl rfl ?_
              refine z_goto (q := 171) dX11_fault_73 (by decide) ?_
              refine z_iload (q := 173) dX11_fault_171 rfl rfl ?_
              refine z_if_ne (t := 178) (q := 176) dX11_fault_173 (by decide) rfl (fun _ => ?_) (fun hc => absurd hc (by decide))
              refine z_iinc (q := 181) (v := (l3 + 1)) (L' := [some (.ref l0), some (.int l1), some (.int (l2 + 1)), some (.int (l3 + 1)), some (.int v18), some (.int 1)]) dX11_fault_178 rfl rfl (Nat.le_of_ble_eq_true rfl) rfl rfl rfl ?_
              refine z_goto (q := 6) dX11_fault_181 (by decide) ?_
              refine Zt.drop (i := 4) (L' := [some (.ref l0), some (.int l1), some (.int (l2 + 1)), some (.int (l3 + 1)), none, some (.int 1)]) rfl ?_
              refine Zt.drop (i := 5) (L' := [some (.ref l0), some (.int l1), some (.int (l2 + 1)), some (.int (l3 + 1)), none, none]) rfl ?_
              exact hF
            · have hF := hF.2 hc
              refine z_iconst (q := 66) (v := 0) dX11_fault_65 (by decide) rfl ?_
              refine z_goto (q := 72) dX11_fault_66 (by decide) ?_
              refine z_istore_n (q := 73) (L' := [some (.ref l0), some (.int l1), some (.int 0), some (.int l3), some (.int v18), some (.int 1)]) dX11_fault_72 rfl (Nat.le_of_ble_eq_true rfl) rfl rfl rfl ?_
              refine z_goto (q := 171) dX11_fault_73 (by decide) ?_
              refine z_iload (q := 173) dX11_fault_171 rfl rfl ?_
              refine z_if_ne (t := 178) (q := 176) dX11_fault_173 (by decide) rfl (fun _ => ?_) (fun hc => absurd hc (by decide))
              refine z_iinc (q := 181) (v := (l3 + 1)) (L' := [some (.ref l0), some (.int l1), some (.int 0), some (.int (l3 + 1)), some (.int v18), some (.int 1)]) dX11_fault_178 rfl rfl (Nat.le_of_ble_eq_true rfl) rfl rfl rfl ?_
              refine z_goto (q := 6) dX11_fault_181 (by decide) ?_
              refine Zt.drop (i := 4) (L' := [some (.ref l0), some (.int l1), some (.int 0), some (.int (l3 + 1)), none, some (.int 1)]) rfl ?_
              refine Zt.drop (i := 5) (L' := [some (.ref l0), some (.int l1), some (.int 0), some (.int (l3 + 1)), none, none]) rfl ?_
              exact hF
set_option maxRecDepth 100000 in
set_option maxHeartbeats 4000000 in
theorem wX11_fault {ψ : Int32 → ZH → Prop} {l0 : Nat} {h : ZH} (hF : Zt mX11_fault (zPI ψ) 0 0 6 [some (.ref l0), some (.int 0), some (.int 0), some (.int 0), none, none] [] h) : ZcI mX11_fault [.ref l0] h ψ := by
  refine Zc.intro (L := [some (.ref l0), none, none, none, none, none]) (show plainName RX11 = true by decide) rfl (Nat.le_of_ble_eq_true rfl) ?_
  show Zt _ _ 0 0 _ _ _ _
  refine z_iconst (q := 1) (v := 0) dX11_fault_0 (by decide) rfl ?_
  refine z_istore_n (q := 2) (L' := [some (.ref l0), some (.int 0), none, none, none, none]) dX11_fault_1 rfl (Nat.le_of_ble_eq_true rfl) rfl rfl rfl ?_
  refine z_iconst (q := 3) (v := 0) dX11_fault_2 (by decide) rfl ?_
  refine z_istore_n (q := 4) (L' := [some (.ref l0), some (.int 0), some (.int 0), none, none, none]) dX11_fault_3 rfl (Nat.le_of_ble_eq_true rfl) rfl rfl rfl ?_
  refine z_iconst (q := 5) (v := 0) dX11_fault_4 (by decide) rfl ?_
  refine z_istore_n (q := 6) (L' := [some (.ref l0), some (.int 0), some (.int 0), some (.int 0), none, none]) dX11_fault_5 rfl (Nat.le_of_ble_eq_true rfl) rfl rfl rfl ?_
  exact hF
set_option maxRecDepth 100000 in
set_option maxHeartbeats 4000000 in
theorem wX11_rule_42 {ψ : Int32 → ZH → Prop} {l0 : Nat} {l1 : Int32} {l2 : Int32} {l3 : Int32} {h : ZH} (hF : (zK h l0 = 12) ∧ ((zR h l0 20) ≠ 0) ∧ (zK h (zR h l0 20) = 20) ∧ (3 < zN h (zR h l0 20)) ∧ (((zI h (zR h l0 20) 3) ≤ l3 → (vp_in l1 (zN h (zR h l0 20))) ∧ ((l2 = 0 → ψ 1 (zsI (zsI h (zR h l0 20) (Int32.toNatClampNeg l1) (zI h (zR h l0 20) 3)) (zR h l0 20) 3 0)) ∧ (¬ l2 = 0 → ψ 0 (zsI (zsI h (zR h l0 20) (Int32.toNatClampNeg l1) (zI h (zR h l0 20) 3)) (zR h l0 20) 3 0)))) ∧ (¬ (zI h (zR h l0 20) 3) ≤ l3 → ((zR h l0 19) ≠ 0) ∧ (zK h (zR h l0 19) = 20) ∧ (vp_in (120 + l3) (zN h (zR h l0 19))) ∧ (vp_in ((40 * l1) + l3) (zN h (zR h l0 19))) ∧ Zt mX11_rule (zPI ψ) 0 0 42 [some (.ref l0), some (.int l1), some (.int l2), some (.int (l3 + 1))] [] (zsI h (zR h l0 19) (Int32.toNatClampNeg ((40 * l1) + l3)) (zI h (zR h l0 19) (Int32.toNatClampNeg (120 + l3))))))) : Zt mX11_rule (zPI ψ) 0 0 42 [some (.ref l0), some (.int l1), some (.int l2), some (.int l3)] [] h := by
  refine z_iload_n (q := 43) dX11_rule_42 rfl rfl rfl ?_
  refine z_aload_n (q := 44) dX11_rule_43 rfl rfl rfl ?_
  obtain ⟨g1, hF⟩ := hF
  obtain ⟨g2, hF⟩ := hF
  refine z_getR (c := 11) (k := 20) (r := (RX11, TX11, 54)) (q := 47) dX11_rule_44 rfl (by decide) fl_X11_65 rfl g1 g2 rfl ?_
  refine z_iconst (q := 48) (v := 3) dX11_rule_47 (by decide) rfl ?_
  obtain ⟨g3, hF⟩ := hF
  obtain ⟨g4, hF⟩ := hF
  refine y_iald (j := 3) (q := 49) dX11_rule_48 (Or.inl g3) (zvin (by decide) (by decide) g4) (by decide) rfl ?_
  refine z_icmp_ge (t := 78) (q := 52) dX11_rule_49 (by decide) rfl (fun hc => ?_) (fun hc => ?_)
  · have hF := hF.1 hc
    refine z_aload_n (q := 79) dX11_rule_78 rfl rfl rfl ?_
    refine z_getR (c := 11) (k := 20) (r := (RX11, TX11, 54)) (q := 82) dX11_rule_79 rfl (by decide) fl_X11_65 rfl g1 g2 rfl ?_
    refine z_iload_n (q := 83) dX11_rule_82 rfl rfl rfl ?_
    refine z_aload_n (q := 84) dX11_rule_83 rfl rfl rfl ?_
    refine z_getR (c := 11) (k := 20) (r := (RX11, TX11, 54)) (q := 87) dX11_rule_84 rfl (by decide) fl_X11_65 rfl g1 g2 rfl ?_
    refine z_iconst (q := 88) (v := 3) dX11_rule_87 (by decide) rfl ?_
    refine y_iald (j := 3) (q := 89) dX11_rule_88 (Or.inl g3) (zvin (by decide) (by decide) g4) (by decide) rfl ?_
    obtain ⟨g5, hF⟩ := hF
    refine y_iast (j := (Int32.toNatClampNeg l1)) (q := 90) dX11_rule_89 g3 g5 rfl rfl ?_
    refine z_aload_n (q := 91) dX11_rule_90 rfl rfl rfl ?_
    refine z_getR (c := 11) (k := 20) (r := (RX11, TX11, 54)) (q := 94) dX11_rule_91 rfl (by decide) fl_X11_65 rfl g1 g2 rfl ?_
    refine z_iconst (q := 95) (v := 3) dX11_rule_94 (by decide) rfl ?_
    refine z_iconst (q := 96) (v := 0) dX11_rule_95 (by decide) rfl ?_
    refine y_iast (j := 3) (q := 97) dX11_rule_96 g3 (zvin (by decide) (by decide) g4) (by decide) rfl ?_
    refine z_iload_n (q := 98) dX11_rule_97 rfl rfl rfl ?_
    refine z_if_eq (t := 105) (q := 101) dX11_rule_98 (by decide) rfl (fun hc => ?_) (fun hc => ?_)
    · have hF := hF.1 hc
      refine z_iconst (q := 106) (v := 1) dX11_rule_105 (by decide) rfl ?_
      exact z_ireturn dX11_rule_106 rfl ⟨_, rfl, hF⟩
    · have hF := hF.2 hc
      refine z_iconst (q := 102) (v := 0) dX11_rule_101 (by decide) rfl ?_
      refine z_goto (q := 106) dX11_rule_102 (by decide) ?_
      exact z_ireturn dX11_rule_106 rfl ⟨_, rfl, hF⟩
  · have hF := hF.2 hc
    refine z_aload_n (q := 53) dX11_rule_52 rfl rfl rfl ?_
    obtain ⟨g6, hF⟩ := hF
    refine z_getR (c := 11) (k := 19) (r := (RX11, TX11, 54)) (q := 56) dX11_rule_53 rfl (by decide) fl_X11_62 rfl g1 g6 rfl ?_
    refine z_bipush (q := 58) (v := 40) dX11_rule_56 (by decide) rfl ?_
    refine z_iload_n (q := 59) dX11_rule_58 rfl rfl rfl ?_
    refine z_imul (q := 60) dX11_rule_59 rfl ?_
    refine z_iload_n (q := 61) dX11_rule_60 rfl rfl rfl ?_
    refine z_iadd (q := 62) dX11_rule_61 rfl ?_
    refine z_aload_n (q := 63) dX11_rule_62 rfl rfl rfl ?_
    refine z_getR (c := 11) (k := 19) (r := (RX11, TX11, 54)) (q := 66) dX11_rule_63 rfl (by decide) fl_X11_62 rfl g1 g6 rfl ?_
    refine z_bipush (q := 68) (v := 120) dX11_rule_66 (by decide) rfl ?_
    refine z_iload_n (q := 69) dX11_rule_68 rfl rfl rfl ?_
    refine z_iadd (q := 70) dX11_rule_69 rfl ?_
    obtain ⟨g7, hF⟩ := hF
    obtain ⟨g8, hF⟩ := hF
    refine y_iald (j := (Int32.toNatClampNeg (120 + l3))) (q := 71) dX11_rule_70 (Or.inl g7) g8 rfl rfl ?_
    obtain ⟨g9, hF⟩ := hF
    refine y_iast (j := (Int32.toNatClampNeg ((40 * l1) + l3))) (q := 72) dX11_rule_71 g7 g9 rfl rfl ?_
    refine z_iinc (q := 75) (v := (l3 + 1)) (L' := [some (.ref l0), some (.int l1), some (.int l2), some (.int (l3 + 1))]) dX11_rule_72 rfl rfl (Nat.le_of_ble_eq_true rfl) rfl rfl rfl ?_
    refine z_goto (q := 42) dX11_rule_75 (by decide) ?_
    exact hF
set_option maxRecDepth 100000 in
set_option maxHeartbeats 4000000 in
theorem wX11_rule {ψ : Int32 → ZH → Prop} {l0 : Nat} {l1 : Int32} {h : ZH} (hF : ZcI mX11_in [.long (Int32.toInt64 l1), .long 0, .long 2] h (fun x11 h10 => ((¬ x11 = 0 → (zK h10 l0 = 12) ∧ ZcI mX11_fault [.ref l0] h10 (fun x14 h12 => ((x14 < 0 → (zK h12 l0 = 12) ∧ ((zR h12 l0 20) ≠ 0) ∧ (zK h12 (zR h12 l0 20) = 20) ∧ (vp_in l1 (zN h12 (zR h12 l0 20))) ∧ (((zI h12 (zR h12 l0 20) (Int32.toNatClampNeg l1)) < 0 → Zt mX11_rule (zPI ψ) 0 0 42 [some (.ref l0), some (.int l1), some (.int 0), some (.int 0)] [] h12) ∧ (¬ (zI h12 (zR h12 l0 20) (Int32.toNatClampNeg l1)) < 0 → Zt mX11_rule (zPI ψ) 0 0 42 [some (.ref l0), some (.int l1), some (.int 1), some (.int 0)] [] h12))) ∧ (¬ x14 < 0 → ψ (-5) h12)))) ∧ (x11 = 0 → ψ (-2) h10)))) : ZcI mX11_rule [.ref l0, .int l1] h ψ := by
  refine Zc.intro (L := [some (.ref l0), some (.int l1), none, none]) (show plainName RX11 = true by decide) rfl (Nat.le_of_ble_eq_true rfl) ?_
  show Zt _ _ 0 0 _ _ _ _
  refine z_iload_n (q := 1) dX11_rule_0 rfl rfl rfl ?_
  refine z_i2l (q := 2) dX11_rule_1 rfl ?_
  refine z_lconst (q := 3) (v := 0) dX11_rule_2 (by decide) rfl ?_
  refine z_ldc2 (q := 6) (v := 2) dX11_rule_3 cw_X11_183 rfl ?_
  refine z_callSI (rc := 0) (rs := 0) (av := [.long (Int32.toInt64 l1), .long 0, .long 2]) (q := 9) hF dX11_rule_6 ml_X11_140 ok_X11_in st_X11_in rfl (Nat.le_of_ble_eq_true rfl) (by decide) (Nat.le_of_ble_eq_true rfl) rfl rfl rfl rfl (fun x11 h10 hF => ?_)
  refine z_if_ne (t := 15) (q := 12) dX11_rule_9 (by decide) rfl (fun hc => ?_) (fun hc => ?_)
  · have hF := hF.1 hc
    refine z_aload_n (q := 16) dX11_rule_15 rfl rfl rfl ?_
    obtain ⟨g13, hF⟩ := hF
    refine z_callVI (rc := 0) (rs := 0) (b := l0) (av := []) (ci := 11) (r := (RX11, TX11, 54)) (q := 19) hF dX11_rule_16 ml_X11_221 ok_X11_fault in_X11_fault se_X11_fault rfl rfl g13 rfl (Nat.le_of_ble_eq_true rfl) (by decide) (Nat.le_of_ble_eq_true rfl) rfl rfl rfl rfl (fun x14 h12 hF => ?_)
    refine z_if_lt (t := 25) (q := 22) dX11_rule_19 (by decide) rfl (fun hc => ?_) (fun hc => ?_)
    · have hF := hF.1 hc
      refine z_aload_n (q := 26) dX11_rule_25 rfl rfl rfl ?_
      obtain ⟨g15, hF⟩ := hF
      obtain ⟨g16, hF⟩ := hF
      refine z_getR (c := 11) (k := 20) (r := (RX11, TX11, 54)) (q := 29) dX11_rule_26 rfl (by decide) fl_X11_65 rfl g15 g16 rfl ?_
      refine z_iload_n (q := 30) dX11_rule_29 rfl rfl rfl ?_
      obtain ⟨g17, hF⟩ := hF
      obtain ⟨g18, hF⟩ := hF
      refine y_iald (j := (Int32.toNatClampNeg l1)) (q := 31) dX11_rule_30 (Or.inl g17) g18 rfl rfl ?_
      refine z_if_lt (t := 38) (q := 34) dX11_rule_31 (by decide) rfl (fun hc => ?_) (fun hc => ?_)
      · have hF := hF.1 hc
        refine z_iconst (q := 39) (v := 0) dX11_rule_38 (by decide) rfl ?_
        refine z_istore_n (q := 40) (L' := [some (.ref l0), some (.int l1), some (.int 0), none]) dX11_rule_39 rfl (Nat.le_of_ble_eq_true rfl) rfl rfl rfl ?_
        refine z_iconst (q := 41) (v := 0) dX11_rule_40 (by decide) rfl ?_
        refine z_istore_n (q := 42) (L' := [some (.ref l0), some (.int l1), some (.int 0), some (.int 0)]) dX11_rule_41 rfl (Nat.le_of_ble_eq_true rfl) rfl rfl rfl ?_
        exact hF
      · have hF := hF.2 hc
        refine z_iconst (q := 35) (v := 1) dX11_rule_34 (by decide) rfl ?_
        refine z_goto (q := 39) dX11_rule_35 (by decide) ?_
        refine z_istore_n (q := 40) (L' := [some (.ref l0), some (.int l1), some (.int 1), none]) dX11_rule_39 rfl (Nat.le_of_ble_eq_true rfl) rfl rfl rfl ?_
        refine z_iconst (q := 41) (v := 0) dX11_rule_40 (by decide) rfl ?_
        refine z_istore_n (q := 42) (L' := [some (.ref l0), some (.int l1), some (.int 1), some (.int 0)]) dX11_rule_41 rfl (Nat.le_of_ble_eq_true rfl) rfl rfl rfl ?_
        exact hF
    · have hF := hF.2 hc
      refine z_bipush (q := 24) (v := (-5)) dX11_rule_22 (by decide) rfl ?_
      exact z_ireturn dX11_rule_24 rfl ⟨_, rfl, hF⟩
  · have hF := hF.2 hc
    refine z_bipush (q := 14) (v := (-2)) dX11_rule_12 (by decide) rfl ?_
    exact z_ireturn dX11_rule_14 rfl ⟨_, rfl, hF⟩
set_option maxRecDepth 100000 in
set_option maxHeartbeats 4000000 in
theorem wX11_factOf {ψ : Int32 → ZH → Prop} {l0 : Nat} {l1 : Int32} {l2 : Int32} {h : ZH} (hF : ((l2 = 97 → (zK h l0 = 12) ∧ ((zR h l0 10) ≠ 0) ∧ (zK h (zR h l0 10) = 20) ∧ (vp_in l1 (zN h (zR h l0 10))) ∧ ψ (zI h (zR h l0 10) (Int32.toNatClampNeg l1)) h) ∧ (l2 = 107 → (zK h l0 = 12) ∧ ((zR h l0 15) ≠ 0) ∧ (zK h (zR h l0 15) = 21) ∧ (vp_in l1 (zN h (zR h l0 15))) ∧ (((zI h (zR h l0 15) (Int32.toNatClampNeg l1)) = 0 → ψ 0 h) ∧ (¬ (zI h (zR h l0 15) (Int32.toNatClampNeg l1)) = 0 → ψ 1 h))) ∧ (l2 = 116 → (zK h l0 = 12) ∧ ((zR h l0 11) ≠ 0) ∧ (zK h (zR h l0 11) = 20) ∧ (vp_in l1 (zN h (zR h l0 11))) ∧ ψ (zI h (zR h l0 11) (Int32.toNatClampNeg l1)) h) ∧ (l2 = 121 → (zK h l0 = 12) ∧ ((zR h l0 12) ≠ 0) ∧ (zK h (zR h l0 12) = 20) ∧ (vp_in l1 (zN h (zR h l0 12))) ∧ ψ (zI h (zR h l0 12) (Int32.toNatClampNeg l1)) h) ∧ (¬ l2 = 97 → ¬ l2 = 107 → ¬ l2 = 116 → ¬ l2 = 121 → (zK h l0 = 12) ∧ ((zR h l0 14) ≠ 0) ∧ (zK h (zR h l0 14) = 20) ∧ (vp_in l1 (zN h (zR h l0 14))) ∧ ((0 ≤ (zI h (zR h l0 14) (Int32.toNatClampNeg l1)) → ((zR h l0 13) ≠ 0) ∧ (zK h (zR h l0 13) = 20) ∧ (vp_in l1 (zN h (zR h l0 13))) ∧ ZcI mX11_farTo [.ref l0, .int (zI h (zR h l0 13) (Int32.toNatClampNeg l1)), .int (zI h (zR h l0 14) (Int32.toNatClampNeg l1))] h (fun x29 h28 => ψ x29 h28)) ∧ (¬ 0 ≤ (zI h (zR h l0 14) (Int32.toNatClampNeg l1)) → ψ 0 h))))) : ZcI mX11_factOf [.ref l0, .int l1, .int l2] h ψ := by
  refine Zc.intro (L := [some (.ref l0), some (.int l1), some (.int l2)]) (show plainName RX11 = true by decide) rfl (Nat.le_of_ble_eq_true rfl) ?_
  show Zt _ _ 0 0 _ _ _ _
  refine z_iload_n (q := 1) dX11_factOf_0 rfl rfl rfl ?_
  by_cases e1 : l2 = 97
  · refine z_lookup (q := 44) (off := 43) dX11_factOf_1 (by decide) (by rw [e1]; decide) (by decide) ?_
    have hF := hF.1 e1
    refine z_aload_n (q := 45) dX11_factOf_44 rfl rfl rfl ?_
    obtain ⟨g5, hF⟩ := hF
    obtain ⟨g6, hF⟩ := hF
    refine z_getR (c := 11) (k := 10) (r := (RX11, TX11, 54)) (q := 48) dX11_factOf_45 rfl (by decide) fl_X11_38 rfl g5 g6 rfl ?_
    refine z_iload_n (q := 49) dX11_factOf_48 rfl rfl rfl ?_
    obtain ⟨g7, hF⟩ := hF
    obtain ⟨g8, hF⟩ := hF
    refine y_iald (j := (Int32.toNatClampNeg l1)) (q := 50) dX11_factOf_49 (Or.inl g7) g8 rfl rfl ?_
    exact z_ireturn dX11_factOf_50 rfl ⟨_, rfl, hF⟩
  by_cases e2 : l2 = 107
  · refine z_lookup (q := 65) (off := 64) dX11_factOf_1 (by decide) (by rw [e2]; decide) (by decide) ?_
    have hF := hF.2.1 e2
    refine z_aload_n (q := 66) dX11_factOf_65 rfl rfl rfl ?_
    obtain ⟨g9, hF⟩ := hF
    obtain ⟨g10, hF⟩ := hF
    refine z_getR (c := 11) (k := 15) (r := (RX11, TX11, 54)) (q := 69) dX11_factOf_66 rfl (by decide) fl_X11_53 rfl g9 g10 rfl ?_
    refine z_iload_n (q := 70) dX11_factOf_69 rfl rfl rfl ?_
    obtain ⟨g11, hF⟩ := hF
    obtain ⟨g12, hF⟩ := hF
    refine y_bald (j := (Int32.toNatClampNeg l1)) (q := 71) dX11_factOf_70 g11 g12 rfl rfl ?_
    refine z_if_eq (t := 78) (q := 74) dX11_factOf_71 (by decide) rfl (fun hc => ?_) (fun hc => ?_)
    · have hF := hF.1 hc
      refine z_iconst (q := 79) (v := 0) dX11_factOf_78 (by decide) rfl ?_
      exact z_ireturn dX11_factOf_79 rfl ⟨_, rfl, hF⟩
    · have hF := hF.2 hc
      refine z_iconst (q := 75) (v := 1) dX11_factOf_74 (by decide) rfl ?_
      refine z_goto (q := 79) dX11_factOf_75 (by decide) ?_
      exact z_ireturn dX11_factOf_79 rfl ⟨_, rfl, hF⟩
  by_cases e3 : l2 = 116
  · refine z_lookup (q := 58) (off := 57) dX11_factOf_1 (by decide) (by rw [e3]; decide) (by decide) ?_
    have hF := hF.2.2.1 e3
    refine z_aload_n (q := 59) dX11_factOf_58 rfl rfl rfl ?_
    obtain ⟨g13, hF⟩ := hF
    obtain ⟨g14, hF⟩ := hF
    refine z_getR (c := 11) (k := 11) (r := (RX11, TX11, 54)) (q := 62) dX11_factOf_59 rfl (by decide) fl_X11_41 rfl g13 g14 rfl ?_
    refine z_iload_n (q := 63) dX11_factOf_62 rfl rfl rfl ?_
    obtain ⟨g15, hF⟩ := hF
    obtain ⟨g16, hF⟩ := hF
    refine y_iald (j := (Int32.toNatClampNeg l1)) (q := 64) dX11_factOf_63 (Or.inl g15) g16 rfl rfl ?_
    exact z_ireturn dX11_factOf_64 rfl ⟨_, rfl, hF⟩
  by_cases e4 : l2 = 121
  · refine z_lookup (q := 51) (off := 50) dX11_factOf_1 (by decide) (by rw [e4]; decide) (by decide) ?_
    have hF := hF.2.2.2.1 e4
    refine z_aload_n (q := 52) dX11_factOf_51 rfl rfl rfl ?_
    obtain ⟨g17, hF⟩ := hF
    obtain ⟨g18, hF⟩ := hF
    refine z_getR (c := 11) (k := 12) (r := (RX11, TX11, 54)) (q := 55) dX11_factOf_52 rfl (by decide) fl_X11_44 rfl g17 g18 rfl ?_
    refine z_iload_n (q := 56) dX11_factOf_55 rfl rfl rfl ?_
    obtain ⟨g19, hF⟩ := hF
    obtain ⟨g20, hF⟩ := hF
    refine y_iald (j := (Int32.toNatClampNeg l1)) (q := 57) dX11_factOf_56 (Or.inl g19) g20 rfl rfl ?_
    exact z_ireturn dX11_factOf_57 rfl ⟨_, rfl, hF⟩
  refine z_lookup (q := 80) (off := 79) dX11_factOf_1 (by decide) (by
    simp only [lookupswitch.offset]
    rw [if_neg (fun q => zsw_ne (k := 97) e1 (by decide) q.symm), if_neg (fun q => zsw_ne (k := 107) e2 (by decide) q.symm), if_neg (fun q => zsw_ne (k := 116) e3 (by decide) q.symm), if_neg (fun q => zsw_ne (k := 121) e4 (by decide) q.symm)]) (by decide) ?_
  have hF := hF.2.2.2.2 e1 e2 e3 e4
  refine z_aload_n (q := 81) dX11_factOf_80 rfl rfl rfl ?_
  obtain ⟨g21, hF⟩ := hF
  obtain ⟨g22, hF⟩ := hF
  refine z_getR (c := 11) (k := 14) (r := (RX11, TX11, 54)) (q := 84) dX11_factOf_81 rfl (by decide) fl_X11_50 rfl g21 g22 rfl ?_
  refine z_iload_n (q := 85) dX11_factOf_84 rfl rfl rfl ?_
  obtain ⟨g23, hF⟩ := hF
  obtain ⟨g24, hF⟩ := hF
  refine y_iald (j := (Int32.toNatClampNeg l1)) (q := 86) dX11_factOf_85 (Or.inl g23) g24 rfl rfl ?_
  refine z_if_ge (t := 93) (q := 89) dX11_factOf_86 (by decide) rfl (fun hc => ?_) (fun hc => ?_)
  · have hF := hF.1 hc
    refine z_aload_n (q := 94) dX11_factOf_93 rfl rfl rfl ?_
    refine z_aload_n (q := 95) dX11_factOf_94 rfl rfl rfl ?_
    obtain ⟨g25, hF⟩ := hF
    refine z_getR (c := 11) (k := 13) (r := (RX11, TX11, 54)) (q := 98) dX11_factOf_95 rfl (by decide) fl_X11_47 rfl g21 g25 rfl ?_
    refine z_iload_n (q := 99) dX11_factOf_98 rfl rfl rfl ?_
    obtain ⟨g26, hF⟩ := hF
    obtain ⟨g27, hF⟩ := hF
    refine y_iald (j := (Int32.toNatClampNeg l1)) (q := 100) dX11_factOf_99 (Or.inl g26) g27 rfl rfl ?_
    refine z_aload_n (q := 101) dX11_factOf_100 rfl rfl rfl ?_
    refine z_getR (c := 11) (k := 14) (r := (RX11, TX11, 54)) (q := 104) dX11_factOf_101 rfl (by decide) fl_X11_50 rfl g21 g22 rfl ?_
    refine z_iload_n (q := 105) dX11_factOf_104 rfl rfl rfl ?_
    refine y_iald (j := (Int32.toNatClampNeg l1)) (q := 106) dX11_factOf_105 (Or.inl g23) g24 rfl rfl ?_
    refine z_callVI (rc := 0) (rs := 0) (b := l0) (av := [.int (zI h (zR h l0 13) (Int32.toNatClampNeg l1)), .int (zI h (zR h l0 14) (Int32.toNatClampNeg l1))]) (ci := 11) (r := (RX11, TX11, 54)) (q := 109) hF dX11_factOf_106 ml_X11_225 ok_X11_farTo in_X11_farTo se_X11_farTo rfl rfl g21 rfl (Nat.le_of_ble_eq_true rfl) (by decide) (Nat.le_of_ble_eq_true rfl) rfl rfl rfl rfl (fun x29 h28 hF => ?_)
    exact z_ireturn dX11_factOf_109 rfl ⟨_, rfl, hF⟩
  · have hF := hF.2 hc
    refine z_iconst (q := 90) (v := 0) dX11_factOf_89 (by decide) rfl ?_
    refine z_goto (q := 109) dX11_factOf_90 (by decide) ?_
    exact z_ireturn dX11_factOf_109 rfl ⟨_, rfl, hF⟩
set_option maxRecDepth 100000 in
set_option maxHeartbeats 4000000 in
theorem wX11_actOn {ψ : Int64 → ZH → Prop} {l0 : Int32} {l1 : Int64} {l3 : Int64} {h : ZH} (hF : ((l0 = 38 → (((lg_cmp l1 0) = 0 → ψ 0 h) ∧ (¬ (lg_cmp l1 0) = 0 → (((lg_cmp l3 0) = 0 → ψ 0 h) ∧ (¬ (lg_cmp l3 0) = 0 → ψ 1 h))))) ∧ (l0 = 42 → ψ (l1 * l3) h) ∧ (l0 = 43 → ψ (l1 + l3) h) ∧ (l0 = 45 → ψ (l1 - l3) h) ∧ (l0 = 60 → ((0 ≤ (lg_cmp l1 l3) → ψ 0 h) ∧ (¬ 0 ≤ (lg_cmp l1 l3) → ψ 1 h))) ∧ (l0 = 61 → ((¬ (lg_cmp l1 l3) = 0 → ψ 0 h) ∧ ((lg_cmp l1 l3) = 0 → ψ 1 h))) ∧ (l0 = 62 → (((lg_cmp l1 l3) ≤ 0 → ψ 0 h) ∧ (¬ (lg_cmp l1 l3) ≤ 0 → ψ 1 h))) ∧ (¬ l0 = 38 → ¬ l0 = 42 → ¬ l0 = 43 → ¬ l0 = 45 → ¬ l0 = 60 → ¬ l0 = 61 → ¬ l0 = 62 → ((¬ (lg_cmp l1 0) = 0 → ψ 1 h) ∧ ((lg_cmp l1 0) = 0 → (((lg_cmp l3 0) = 0 → ψ 0 h) ∧ (¬ (lg_cmp l3 0) = 0 → ψ 1 h))))))) : ZcL mX11_actOn [.int l0, .long l1, .long l3] h ψ := by
  refine Zc.intro (L := [some (.int l0), some (.long l1), none, some (.long l3), none]) (show plainName RX11 = true by decide) rfl (Nat.le_of_ble_eq_true rfl) ?_
  show Zt _ _ 0 0 _ _ _ _
  refine z_iload_n (q := 1) dX11_actOn_0 rfl rfl rfl ?_
  by_cases e1 : l0 = 38
  · refine z_tableIn (q := 164) (off := 163) dX11_actOn_1 (by rw [e1]; decide) (by rw [e1]; decide) (by rw [e1]; decide) (by decide) ?_
    have hF := hF.1 e1
    refine z_lload_n (q := 165) dX11_actOn_164 rfl rfl rfl ?_
    refine z_lconst (q := 166) (v := 0) dX11_actOn_165 (by decide) rfl ?_
    refine z_lcmp (q := 167) dX11_actOn_166 rfl ?_
    refine z_if_eq (t := 180) (q := 170) dX11_actOn_167 (by decide) rfl (fun hc => ?_) (fun hc => ?_)
    · have hF := hF.1 hc
      refine z_lconst (q := 181) (v := 0) dX11_actOn_180 (by decide) rfl ?_
      exact z_lreturn dX11_actOn_181 rfl ⟨_, rfl, hF⟩
    · have hF := hF.2 hc
      refine z_lload_n (q := 171) dX11_actOn_170 rfl rfl rfl ?_
      refine z_lconst (q := 172) (v := 0) dX11_actOn_171 (by decide) rfl ?_
      refine z_lcmp (q := 173) dX11_actOn_172 rfl ?_
      refine z_if_eq (t := 180) (q := 176) dX11_actOn_173 (by decide) rfl (fun hc => ?_) (fun hc => ?_)
      · have hF := hF.1 hc
        refine z_lconst (q := 181) (v := 0) dX11_actOn_180 (by decide) rfl ?_
        exact z_lreturn dX11_actOn_181 rfl ⟨_, rfl, hF⟩
      · have hF := hF.2 hc
        refine z_lconst (q := 177) (v := 1) dX11_actOn_176 (by decide) rfl ?_
        refine z_goto (q := 181) dX11_actOn_177 (by decide) ?_
        exact z_lreturn dX11_actOn_181 rfl ⟨_, rfl, hF⟩
  by_cases e2 : l0 = 42
  · refine z_tableIn (q := 124) (off := 123) dX11_actOn_1 (by rw [e2]; decide) (by rw [e2]; decide) (by rw [e2]; decide) (by decide) ?_
    have hF := hF.2.1 e2
    refine z_lload_n (q := 125) dX11_actOn_124 rfl rfl rfl ?_
    refine z_lload_n (q := 126) dX11_actOn_125 rfl rfl rfl ?_
    refine z_lmul (q := 127) dX11_actOn_126 rfl ?_
    exact z_lreturn dX11_actOn_127 rfl ⟨_, rfl, hF⟩
  by_cases e3 : l0 = 43
  · refine z_tableIn (q := 116) (off := 115) dX11_actOn_1 (by rw [e3]; decide) (by rw [e3]; decide) (by rw [e3]; decide) (by decide) ?_
    have hF := hF.2.2.1 e3
    refine z_lload_n (q := 117) dX11_actOn_116 rfl rfl rfl ?_
    refine z_lload_n (q := 118) dX11_actOn_117 rfl rfl rfl ?_
    refine z_ladd (q := 119) dX11_actOn_118 rfl ?_
    exact z_lreturn dX11_actOn_119 rfl ⟨_, rfl, hF⟩
  by_cases e4 : l0 = 45
  · refine z_tableIn (q := 120) (off := 119) dX11_actOn_1 (by rw [e4]; decide) (by rw [e4]; decide) (by rw [e4]; decide) (by decide) ?_
    have hF := hF.2.2.2.1 e4
    refine z_lload_n (q := 121) dX11_actOn_120 rfl rfl rfl ?_
    refine z_lload_n (q := 122) dX11_actOn_121 rfl rfl rfl ?_
    refine z_lsub (q := 123) dX11_actOn_122 rfl ?_
    exact z_lreturn dX11_actOn_123 rfl ⟨_, rfl, hF⟩
  by_cases e5 : l0 = 60
  · refine z_tableIn (q := 128) (off := 127) dX11_actOn_1 (by rw [e5]; decide) (by rw [e5]; decide) (by rw [e5]; decide) (by decide) ?_
    have hF := hF.2.2.2.2.1 e5
    refine z_lload_n (q := 129) dX11_actOn_128 rfl rfl rfl ?_
    refine z_lload_n (q := 130) dX11_actOn_129 rfl rfl rfl ?_
    refine z_lcmp (q := 131) dX11_actOn_130 rfl ?_
    refine z_if_ge (t := 138) (q := 134) dX11_actOn_131 (by decide) rfl (fun hc => ?_) (fun hc => ?_)
    · have hF := hF.1 hc
      refine z_lconst (q := 139) (v := 0) dX11_actOn_138 (by decide) rfl ?_
      exact z_lreturn dX11_actOn_139 rfl ⟨_, rfl, hF⟩
    · have hF := hF.2 hc
      refine z_lconst (q := 135) (v := 1) dX11_actOn_134 (by decide) rfl ?_
      refine z_goto (q := 139) dX11_actOn_135 (by decide) ?_
      exact z_lreturn dX11_actOn_139 rfl ⟨_, rfl, hF⟩
  by_cases e6 : l0 = 61
  · refine z_tableIn (q := 152) (off := 151) dX11_actOn_1 (by rw [e6]; decide) (by rw [e6]; decide) (by rw [e6]; decide) (by decide) ?_
    have hF := hF.2.2.2.2.2.1 e6
    refine z_lload_n (q := 153) dX11_actOn_152 rfl rfl rfl ?_
    refine z_lload_n (q := 154) dX11_actOn_153 rfl rfl rfl ?_
    refine z_lcmp (q := 155) dX11_actOn_154 rfl ?_
    refine z_if_ne (t := 162) (q := 158) dX11_actOn_155 (by decide) rfl (fun hc => ?_) (fun hc => ?_)
    · have hF := hF.1 hc
      refine z_lconst (q := 163) (v := 0) dX11_actOn_162 (by decide) rfl ?_
      exact z_lreturn dX11_actOn_163 rfl ⟨_, rfl, hF⟩
    · have hF := hF.2 hc
      refine z_lconst (q := 159) (v := 1) dX11_actOn_158 (by decide) rfl ?_
      refine z_goto (q := 163) dX11_actOn_159 (by decide) ?_
      exact z_lreturn dX11_actOn_163 rfl ⟨_, rfl, hF⟩
  by_cases e7 : l0 = 62
  · refine z_tableIn (q := 140) (off := 139) dX11_actOn_1 (by rw [e7]; decide) (by rw [e7]; decide) (by rw [e7]; decide) (by decide) ?_
    have hF := hF.2.2.2.2.2.2.1 e7
    refine z_lload_n (q := 141) dX11_actOn_140 rfl rfl rfl ?_
    refine z_lload_n (q := 142) dX11_actOn_141 rfl rfl rfl ?_
    refine z_lcmp (q := 143) dX11_actOn_142 rfl ?_
    refine z_if_le (t := 150) (q := 146) dX11_actOn_143 (by decide) rfl (fun hc => ?_) (fun hc => ?_)
    · have hF := hF.1 hc
      refine z_lconst (q := 151) (v := 0) dX11_actOn_150 (by decide) rfl ?_
      exact z_lreturn dX11_actOn_151 rfl ⟨_, rfl, hF⟩
    · have hF := hF.2 hc
      refine z_lconst (q := 147) (v := 1) dX11_actOn_146 (by decide) rfl ?_
      refine z_goto (q := 151) dX11_actOn_147 (by decide) ?_
      exact z_lreturn dX11_actOn_151 rfl ⟨_, rfl, hF⟩
  have hD : Zt mX11_actOn (zPL ψ) 0 0 182 [some (.int l0), some (.long l1), none, some (.long l3), none] [] h := by
    have hF := hF.2.2.2.2.2.2.2 e1 e2 e3 e4 e5 e6 e7
    refine z_lload_n (q := 183) dX11_actOn_182 rfl rfl rfl ?_
    refine z_lconst (q := 184) (v := 0) dX11_actOn_183 (by decide) rfl ?_
    refine z_lcmp (q := 185) dX11_actOn_184 rfl ?_
    refine z_if_ne (t := 194) (q := 188) dX11_actOn_185 (by decide) rfl (fun hc => ?_) (fun hc => ?_)
    · have hF := hF.1 hc
      refine z_lconst (q := 195) (v := 1) dX11_actOn_194 (by decide) rfl ?_
      refine z_goto (q := 199) dX11_actOn_195 (by decide) ?_
      exact z_lreturn dX11_actOn_199 rfl ⟨_, rfl, hF⟩
    · have hF := hF.2 hc
      refine z_lload_n (q := 189) dX11_actOn_188 rfl rfl rfl ?_
      refine z_lconst (q := 190) (v := 0) dX11_actOn_189 (by decide) rfl ?_
      refine z_lcmp (q := 191) dX11_actOn_190 rfl ?_
      refine z_if_eq (t := 198) (q := 194) dX11_actOn_191 (by decide) rfl (fun hc => ?_) (fun hc => ?_)
      · have hF := hF.1 hc
        refine z_lconst (q := 199) (v := 0) dX11_actOn_198 (by decide) rfl ?_
        exact z_lreturn dX11_actOn_199 rfl ⟨_, rfl, hF⟩
      · have hF := hF.2 hc
        refine z_lconst (q := 195) (v := 1) dX11_actOn_194 (by decide) rfl ?_
        refine z_goto (q := 199) dX11_actOn_195 (by decide) ?_
        exact z_lreturn dX11_actOn_199 rfl ⟨_, rfl, hF⟩
  by_cases hr : l0.toInt < 38 ∨ 62 < l0.toInt
  · exact z_tableOut (q := 182) dX11_actOn_1 hr (by decide) hD
  · refine z_tableIn (q := 182) (off := 181) dX11_actOn_1 (by omega) (by omega) (by
      have k0 := zsw_ne (k := 38) e1 (by decide)
      have k1 := zsw_ne (k := 42) e2 (by decide)
      have k2 := zsw_ne (k := 43) e3 (by decide)
      have k3 := zsw_ne (k := 45) e4 (by decide)
      have k4 := zsw_ne (k := 60) e5 (by decide)
      have k5 := zsw_ne (k := 61) e6 (by decide)
      have k6 := zsw_ne (k := 62) e7 (by decide)
      generalize l0.toInt = z at *
      obtain ⟨j, hj⟩ : ∃ j : Nat, z = 38 + j := ⟨(z - 38).toNat, by omega⟩
      subst hj
      have hj2 : j < 25 := by omega
      rw [show (38 + (j : Int) - 38).toNat = j by omega]
      have : ∀ j : Nat, j < 25 → (j = 0 ∨ j = 4 ∨ j = 5 ∨ j = 7 ∨ j = 22 ∨ j = 23 ∨ j = 24) ∨ (#[163, 181, 181, 181, 123, 115, 181, 119, 181, 181, 181, 181, 181, 181, 181, 181, 181, 181, 181, 181, 181, 181, 127, 151, 139] : Array Int)[j]? = some (181 : Int) := by decide
      exact (this j hj2).resolve_left (by omega)) (by decide) hD
set_option maxRecDepth 100000 in
set_option maxHeartbeats 4000000 in
theorem wX11_lay {ψ : ZH → Prop} {l0 : Nat} {l1 : Int64} {h : ZH} (hF : (zK h l0 = 12) ∧ ((zR h l0 21) ≠ 0) ∧ (((lg_cmp l1 1000000) ≤ 0 → ((0 ≤ (lg_cmp l1 (-1000000)) → (zK h (zR h l0 21) = 20) ∧ (vp_in (zI h l0 22) (zN h (zR h l0 21))) ∧ ∀ h5 : ZH, h5 = (zsI h (zR h l0 21) (Int32.toNatClampNeg (zI h l0 22)) (Int64.toInt32 l1)) → (zK h5 l0 = 12) ∧ ψ (zsI h5 l0 22 ((zI h5 l0 22) + 1))) ∧ (¬ 0 ≤ (lg_cmp l1 (-1000000)) → (zK h (zR h l0 21) = 20) ∧ (vp_in (zI h l0 22) (zN h (zR h l0 21))) ∧ ∀ h10 : ZH, h10 = (zsI h (zR h l0 21) (Int32.toNatClampNeg (zI h l0 22)) (-1000000)) → (zK h10 l0 = 12) ∧ ψ (zsI h10 l0 22 ((zI h10 l0 22) + 1))))) ∧ (¬ (lg_cmp l1 1000000) ≤ 0 → (zK h (zR h l0 21) = 20) ∧ (vp_in (zI h l0 22) (zN h (zR h l0 21))) ∧ ∀ h15 : ZH, h15 = (zsI h (zR h l0 21) (Int32.toNatClampNeg (zI h l0 22)) 1000000) → (zK h15 l0 = 12) ∧ ψ (zsI h15 l0 22 ((zI h15 l0 22) + 1))))) : ZcV mX11_lay [.ref l0, .long l1] h ψ := by
  refine Zc.intro (L := [some (.ref l0), some (.long l1), none]) (show plainName RX11 = true by decide) rfl (Nat.le_of_ble_eq_true rfl) ?_
  show Zt _ _ 0 0 _ _ _ _
  refine z_aload_n (q := 1) dX11_lay_0 rfl rfl rfl ?_
  obtain ⟨g1, hF⟩ := hF
  obtain ⟨g2, hF⟩ := hF
  refine z_getR (c := 11) (k := 21) (r := (RX11, TX11, 54)) (q := 4) dX11_lay_1 rfl (by decide) fl_X11_68 rfl g1 g2 rfl ?_
  refine z_aload_n (q := 5) dX11_lay_4 rfl rfl rfl ?_
  refine z_getI (c := 11) (k := 22) (r := (RX11, TX11, 54)) (q := 8) dX11_lay_5 rfl (by decide) fl_X11_229 rfl g1 rfl ?_
  refine z_lload_n (q := 9) dX11_lay_8 rfl rfl rfl ?_
  refine z_ldc2 (q := 12) (v := 1000000) dX11_lay_9 cw_X11_232 rfl ?_
  refine z_lcmp (q := 13) dX11_lay_12 rfl ?_
  refine z_if_le (t := 21) (q := 16) dX11_lay_13 (by decide) rfl (fun hc => ?_) (fun hc => ?_)
  · have hF := hF.1 hc
    refine z_lload_n (q := 22) dX11_lay_21 rfl rfl rfl ?_
    refine z_ldc2 (q := 25) (v := (-1000000)) dX11_lay_22 cw_X11_235 rfl ?_
    refine z_lcmp (q := 26) dX11_lay_25 rfl ?_
    refine z_if_ge (t := 34) (q := 29) dX11_lay_26 (by decide) rfl (fun hc => ?_) (fun hc => ?_)
    · have hF := hF.1 hc
      refine z_lload_n (q := 35) dX11_lay_34 rfl rfl rfl ?_
      refine z_l2i (q := 36) dX11_lay_35 rfl ?_
      obtain ⟨g3, hF⟩ := hF
      obtain ⟨g4, hF⟩ := hF
      refine y_iast (j := (Int32.toNatClampNeg (zI h l0 22))) (q := 37) dX11_lay_36 g3 g4 rfl rfl ?_
      refine z_aload_n (q := 38) dX11_lay_37 rfl rfl rfl ?_
      refine z_dup (q := 39) dX11_lay_38 rfl rfl ?_
      refine z_nameH (fun h5 eh6 => ?_)
      have hF := hF h5 eh6
      obtain ⟨g7, hF⟩ := hF
      refine z_getI (c := 11) (k := 22) (r := (RX11, TX11, 54)) (q := 42) dX11_lay_39 rfl (by decide) fl_X11_229 rfl g7 rfl ?_
      refine z_iconst (q := 43) (v := 1) dX11_lay_42 (by decide) rfl ?_
      refine z_iadd (q := 44) dX11_lay_43 rfl ?_
      refine z_putI (c := 11) (k := 22) (r := (RX11, TX11, 54)) (q := 47) dX11_lay_44 rfl (by decide) fl_X11_229 rfl rfl g7 rfl ?_
      exact z_return dX11_lay_47 rfl ⟨rfl, hF⟩
    · have hF := hF.2 hc
      refine z_ldc (q := 31) (v := (-1000000)) dX11_lay_29 cw_X11_237 rfl ?_
      refine z_goto (q := 36) dX11_lay_31 (by decide) ?_
      obtain ⟨g8, hF⟩ := hF
      obtain ⟨g9, hF⟩ := hF
      refine y_iast (j := (Int32.toNatClampNeg (zI h l0 22))) (q := 37) dX11_lay_36 g8 g9 rfl rfl ?_
      refine z_aload_n (q := 38) dX11_lay_37 rfl rfl rfl ?_
      refine z_dup (q := 39) dX11_lay_38 rfl rfl ?_
      refine z_nameH (fun h10 eh11 => ?_)
      have hF := hF h10 eh11
      obtain ⟨g12, hF⟩ := hF
      refine z_getI (c := 11) (k := 22) (r := (RX11, TX11, 54)) (q := 42) dX11_lay_39 rfl (by decide) fl_X11_229 rfl g12 rfl ?_
      refine z_iconst (q := 43) (v := 1) dX11_lay_42 (by decide) rfl ?_
      refine z_iadd (q := 44) dX11_lay_43 rfl ?_
      refine z_putI (c := 11) (k := 22) (r := (RX11, TX11, 54)) (q := 47) dX11_lay_44 rfl (by decide) fl_X11_229 rfl rfl g12 rfl ?_
      exact z_return dX11_lay_47 rfl ⟨rfl, hF⟩
  · have hF := hF.2 hc
    refine z_ldc (q := 18) (v := 1000000) dX11_lay_16 cw_X11_234 rfl ?_
    refine z_goto (q := 36) dX11_lay_18 (by decide) ?_
    obtain ⟨g13, hF⟩ := hF
    obtain ⟨g14, hF⟩ := hF
    refine y_iast (j := (Int32.toNatClampNeg (zI h l0 22))) (q := 37) dX11_lay_36 g13 g14 rfl rfl ?_
    refine z_aload_n (q := 38) dX11_lay_37 rfl rfl rfl ?_
    refine z_dup (q := 39) dX11_lay_38 rfl rfl ?_
    refine z_nameH (fun h15 eh16 => ?_)
    have hF := hF h15 eh16
    obtain ⟨g17, hF⟩ := hF
    refine z_getI (c := 11) (k := 22) (r := (RX11, TX11, 54)) (q := 42) dX11_lay_39 rfl (by decide) fl_X11_229 rfl g17 rfl ?_
    refine z_iconst (q := 43) (v := 1) dX11_lay_42 (by decide) rfl ?_
    refine z_iadd (q := 44) dX11_lay_43 rfl ?_
    refine z_putI (c := 11) (k := 22) (r := (RX11, TX11, 54)) (q := 47) dX11_lay_44 rfl (by decide) fl_X11_229 rfl rfl g17 rfl ?_
    exact z_return dX11_lay_47 rfl ⟨rfl, hF⟩
set_option maxRecDepth 100000 in
set_option maxHeartbeats 4000000 in
theorem wX11_worthOf_13 {ψ : Int32 → ZH → Prop} {l0 : Nat} {l1 : Int32} {l2 : Int32} {l3 : Int32} {l4 : Int32} {h : ZH} (hF : (zK h l0 = 12) ∧ ((zR h l0 20) ≠ 0) ∧ (zK h (zR h l0 20) = 20) ∧ (vp_in l1 (zN h (zR h l0 20))) ∧ ((((40 * l1) + (zI h (zR h l0 20) (Int32.toNatClampNeg l1))) ≤ l4 → ((zR h l0 21) ≠ 0) ∧ (zK h (zR h l0 21) = 20) ∧ (0 < zN h (zR h l0 21)) ∧ ψ (zI h (zR h l0 21) 0) h) ∧ (¬ ((40 * l1) + (zI h (zR h l0 20) (Int32.toNatClampNeg l1))) ≤ l4 → ((zR h l0 19) ≠ 0) ∧ (zK h (zR h l0 19) = 20) ∧ (vp_in l4 (zN h (zR h l0 19))) ∧ ∀ v11 : Int32, v11 = (zI h (zR h l0 19) (Int32.toNatClampNeg l4)) → ZcI mX11_isDigit [.int v11] h (fun x14 h13 => ((x14 = 0 → ((¬ v11 = 44 → ZcI mX11_isFact [.int v11] h13 (fun x16 h15 => ((x16 = 0 → ((¬ v11 = 33 → (zK h15 l0 = 12) ∧ ((zR h15 l0 21) ≠ 0) ∧ ∀ h19 : ZH, h19 = (zsI h15 l0 22 ((zI h15 l0 22) - 2)) → (zK h19 l0 = 12) ∧ (zK h19 (zR h15 l0 21) = 20) ∧ (vp_in (zI h19 l0 22) (zN h19 (zR h15 l0 21))) ∧ ((zR h19 l0 21) ≠ 0) ∧ (zK h19 (zR h19 l0 21) = 20) ∧ (vp_in ((zI h19 l0 22) + 1) (zN h19 (zR h19 l0 21))) ∧ ZcL mX11_actOn [.int v11, .long (Int32.toInt64 (zI h19 (zR h15 l0 21) (Int32.toNatClampNeg (zI h19 l0 22)))), .long (Int32.toInt64 (zI h19 (zR h19 l0 21) (Int32.toNatClampNeg ((zI h19 l0 22) + 1))))] h19 (fun x28 h27 => (zK h27 l0 = 12) ∧ ZcV mX11_lay [.ref l0, .long x28] h27 (fun h29 => Zt mX11_worthOf (zPI ψ) 0 0 13 [some (.ref l0), some (.int l1), some (.int l2), some (.int l3), some (.int (l4 + 1)), none] [] h29))) ∧ (v11 = 33 → (zK h15 l0 = 12) ∧ ((zR h15 l0 21) ≠ 0) ∧ ∀ h33 : ZH, h33 = (zsI h15 l0 22 ((zI h15 l0 22) - 1)) → (zK h33 l0 = 12) ∧ (zK h33 (zR h15 l0 21) = 20) ∧ (vp_in (zI h33 l0 22) (zN h33 (zR h15 l0 21))) ∧ ((¬ (zI h33 (zR h15 l0 21) (Int32.toNatClampNeg (zI h33 l0 22))) = 0 → ZcV mX11_lay [.ref l0, .long 0] h33 (fun h38 => Zt mX11_worthOf (zPI ψ) 0 0 13 [some (.ref l0), some (.int l1), some (.int l2), some (.int l3), some (.int (l4 + 1)), none] [] h38)) ∧ ((zI h33 (zR h15 l0 21) (Int32.toNatClampNeg (zI h33 l0 22))) = 0 → ZcV mX11_lay [.ref l0, .long 1] h33 (fun h39 => Zt mX11_worthOf (zPI ψ) 0 0 13 [some (.ref l0), some (.int l1), some (.int l2), some (.int l3), some (.int (l4 + 1)), none] [] h39)))))) ∧ (¬ x16 = 0 → (zK h15 l0 = 12) ∧ ZcI mX11_factOf [.ref l0, .int l2, .int v11] h15 (fun x42 h40 => (zK h40 l0 = 12) ∧ ZcV mX11_lay [.ref l0, .long (Int32.toInt64 x42)] h40 (fun h43 => Zt mX11_worthOf (zPI ψ) 0 0 13 [some (.ref l0), some (.int l1), some (.int l2), some (.int l3), some (.int (l4 + 1)), none] [] h43)))))) ∧ (v11 = 44 → (zK h13 l0 = 12) ∧ ZcV mX11_lay [.ref l0, .long (Int32.toInt64 l3)] h13 (fun h45 => Zt mX11_worthOf (zPI ψ) 0 0 13 [some (.ref l0), some (.int l1), some (.int l2), some (.int 0), some (.int (l4 + 1)), none] [] h45)))) ∧ (¬ x14 = 0 → Zt mX11_worthOf (zPI ψ) 0 0 13 [some (.ref l0), some (.int l1), some (.int l2), some (.int (((10 * l3) + v11) - 48)), some (.int (l4 + 1)), none] [] h13)))))) : Zt mX11_worthOf (zPI ψ) 0 0 13 [some (.ref l0), some (.int l1), some (.int l2), some (.int l3), some (.int l4), none] [] h := by
  refine z_iload (q := 15) dX11_worthOf_13 rfl rfl ?_
  refine z_bipush (q := 17) (v := 40) dX11_worthOf_15 (by decide) rfl ?_
  refine z_iload_n (q := 18) dX11_worthOf_17 rfl rfl rfl ?_
  refine z_imul (q := 19) dX11_worthOf_18 rfl ?_
  refine z_aload_n (q := 20) dX11_worthOf_19 rfl rfl rfl ?_
  obtain ⟨g1, hF⟩ := hF
  obtain ⟨g2, hF⟩ := hF
  refine z_getR (c := 11) (k := 20) (r := (RX11, TX11, 54)) (q := 23) dX11_worthOf_20 rfl (by decide) fl_X11_65 rfl g1 g2 rfl ?_
  refine z_iload_n (q := 24) dX11_worthOf_23 rfl rfl rfl ?_
  obtain ⟨g3, hF⟩ := hF
  obtain ⟨g4, hF⟩ := hF
  refine y_iald (j := (Int32.toNatClampNeg l1)) (q := 25) dX11_worthOf_24 (Or.inl g3) g4 rfl rfl ?_
  refine z_iadd (q := 26) dX11_worthOf_25 rfl ?_
  refine z_icmp_ge (t := 189) (q := 29) dX11_worthOf_26 (by decide) rfl (fun hc => ?_) (fun hc => ?_)
  · have hF := hF.1 hc
    refine z_aload_n (q := 190) dX11_worthOf_189 rfl rfl rfl ?_
    obtain ⟨g5, hF⟩ := hF
    refine z_getR (c := 11) (k := 21) (r := (RX11, TX11, 54)) (q := 193) dX11_worthOf_190 rfl (by decide) fl_X11_68 rfl g1 g5 rfl ?_
    refine z_iconst (q := 194) (v := 0) dX11_worthOf_193 (by decide) rfl ?_
    obtain ⟨g6, hF⟩ := hF
    obtain ⟨g7, hF⟩ := hF
    refine y_iald (j := 0) (q := 195) dX11_worthOf_194 (Or.inl g6) (zvin (by decide) (by decide) g7) (by decide) rfl ?_
    exact z_ireturn dX11_worthOf_195 rfl ⟨_, rfl, hF⟩
  · have hF := hF.2 hc
    refine z_aload_n (q := 30) dX11_worthOf_29 rfl rfl rfl ?_
    obtain ⟨g8, hF⟩ := hF
    refine z_getR (c := 11) (k := 19) (r := (RX11, TX11, 54)) (q := 33) dX11_worthOf_30 rfl (by decide) fl_X11_62 rfl g1 g8 rfl ?_
    refine z_iload (q := 35) dX11_worthOf_33 rfl rfl ?_
    obtain ⟨g9, hF⟩ := hF
    obtain ⟨g10, hF⟩ := hF
    refine y_iald (j := (Int32.toNatClampNeg l4)) (q := 36) dX11_worthOf_35 (Or.inl g9) g10 rfl rfl ?_
    refine z_nameI (fun v11 ev12 => ?_)
    have hF := hF v11 ev12
    refine z_istore (q := 38) (L' := [some (.ref l0), some (.int l1), some (.int l2), some (.int l3), some (.int l4), some (.int v11)]) dX11_worthOf_36 (Nat.le_of_ble_eq_true rfl) rfl rfl rfl ?_
    refine z_iload (q := 40) dX11_worthOf_38 rfl rfl ?_
    refine z_callSI (rc := 0) (rs := 0) (av := [.int v11]) (q := 43) hF dX11_worthOf_40 ml_X11_212 ok_X11_isDigit st_X11_isDigit rfl (Nat.le_of_ble_eq_true rfl) (by decide) (Nat.le_of_ble_eq_true rfl) rfl rfl rfl rfl (fun x14 h13 hF => ?_)
    refine z_if_eq (t := 60) (q := 46) dX11_worthOf_43 (by decide) rfl (fun hc => ?_) (fun hc => ?_)
    · have hF := hF.1 hc
      refine z_iload (q := 62) dX11_worthOf_60 rfl rfl ?_
      refine z_bipush (q := 64) (v := 44) dX11_worthOf_62 (by decide) rfl ?_
      refine z_icmp_ne (t := 78) (q := 67) dX11_worthOf_64 (by decide) rfl (fun hc => ?_) (fun hc => ?_)
      · have hF := hF.1 hc
        refine z_iload (q := 80) dX11_worthOf_78 rfl rfl ?_
        refine z_callSI (rc := 0) (rs := 0) (av := [.int v11]) (q := 83) hF dX11_worthOf_80 ml_X11_215 ok_X11_isFact st_X11_isFact rfl (Nat.le_of_ble_eq_true rfl) (by decide) (Nat.le_of_ble_eq_true rfl) rfl rfl rfl rfl (fun x16 h15 hF => ?_)
        refine z_if_eq (t := 101) (q := 86) dX11_worthOf_83 (by decide) rfl (fun hc => ?_) (fun hc => ?_)
        · have hF := hF.1 hc
          refine z_iload (q := 103) dX11_worthOf_101 rfl rfl ?_
          refine z_bipush (q := 105) (v := 33) dX11_worthOf_103 (by decide) rfl ?_
          refine z_icmp_ne (t := 142) (q := 108) dX11_worthOf_105 (by decide) rfl (fun hc => ?_) (fun hc => ?_)
          · have hF := hF.1 hc
            refine z_aload_n (q := 143) dX11_worthOf_142 rfl rfl rfl ?_
            refine z_dup (q := 144) dX11_worthOf_143 rfl rfl ?_
            obtain ⟨g17, hF⟩ := hF
            refine z_getI (c := 11) (k := 22) (r := (RX11, TX11, 54)) (q := 147) dX11_worthOf_144 rfl (by decide) fl_X11_229 rfl g17 rfl ?_
            refine z_iconst (q := 148) (v := 2) dX11_worthOf_147 (by decide) rfl ?_
            refine z_isub (q := 149) dX11_worthOf_148 rfl ?_
            refine z_putI (c := 11) (k := 22) (r := (RX11, TX11, 54)) (q := 152) dX11_worthOf_149 rfl (by decide) fl_X11_229 rfl rfl g17 rfl ?_
            refine z_aload_n (q := 153) dX11_worthOf_152 rfl rfl rfl ?_
            refine z_iload (q := 155) dX11_worthOf_153 rfl rfl ?_
            refine z_aload_n (q := 156) dX11_worthOf_155 rfl rfl rfl ?_
            obtain ⟨g18, hF⟩ := hF
            refine z_getR (c := 11) (k := 21) (r := (RX11, TX11, 54)) (q := 159) dX11_worthOf_156 rfl (by decide) fl_X11_68 rfl g17 g18 rfl ?_
            refine z_aload_n (q := 160) dX11_worthOf_159 rfl rfl rfl ?_
            refine z_nameH (fun h19 eh20 => ?_)
            have hF := hF h19 eh20
            obtain ⟨g21, hF⟩ := hF
            refine z_getI (c := 11) (k := 22) (r := (RX11, TX11, 54)) (q := 163) dX11_worthOf_160 rfl (by decide) fl_X11_229 rfl g21 rfl ?_
            obtain ⟨g22, hF⟩ := hF
            obtain ⟨g23, hF⟩ := hF
            refine y_iald (j := (Int32.toNatClampNeg (zI h19 l0 22))) (q := 164) dX11_worthOf_163 (Or.inl g22) g23 rfl rfl ?_
            refine z_i2l (q := 165) dX11_worthOf_164 rfl ?_
            refine z_aload_n (q := 166) dX11_worthOf_165 rfl rfl rfl ?_
            obtain ⟨g24, hF⟩ := hF
            refine z_getR (c := 11) (k := 21) (r := (RX11, TX11, 54)) (q := 169) dX11_worthOf_166 rfl (by decide) fl_X11_68 rfl g21 g24 rfl ?_
            refine z_aload_n (q := 170) dX11_worthOf_169 rfl rfl rfl ?_
            refine z_getI (c := 11) (k := 22) (r := (RX11, TX11, 54)) (q := 173) dX11_worthOf_170 rfl (by decide) fl_X11_229 rfl g21 rfl ?_
            refine z_iconst (q := 174) (v := 1) dX11_worthOf_173 (by decide) rfl ?_
            refine z_iadd (q := 175) dX11_worthOf_174 rfl ?_
            obtain ⟨g25, hF⟩ := hF
            obtain ⟨g26, hF⟩ := hF
            refine y_iald (j := (Int32.toNatClampNeg ((zI h19 l0 22) + 1))) (q := 176) dX11_worthOf_175 (Or.inl g25) g26 rfl rfl ?_
            refine z_i2l (q := 177) dX11_worthOf_176 rfl ?_
            refine z_callSL (rc := 0) (rs := 0) (av := [.int v11, .long (Int32.toInt64 (zI h19 (zR h15 l0 21) (Int32.toNatClampNeg (zI h19 l0 22)))), .long (Int32.toInt64 (zI h19 (zR h19 l0 21) (Int32.toNatClampNeg ((zI h19 l0 22) + 1))))]) (q := 180) hF dX11_worthOf_177 ml_X11_245 ok_X11_actOn st_X11_actOn rfl (Nat.le_of_ble_eq_true rfl) (by decide) (Nat.le_of_ble_eq_true rfl) rfl rfl rfl rfl (fun x28 h27 hF => ?_)
            obtain ⟨g30, hF⟩ := hF
            refine z_callVV (rc := 0) (rs := 0) (b := l0) (av := [.long x28]) (ci := 11) (r := (RX11, TX11, 54)) (q := 183) hF dX11_worthOf_180 ml_X11_238 ok_X11_lay in_X11_lay se_X11_lay rfl rfl g30 rfl (Nat.le_of_ble_eq_true rfl) (by decide) (Nat.le_of_ble_eq_true rfl) rfl rfl rfl rfl (fun h29 hF => ?_)
            refine z_iinc (q := 186) (v := (l4 + 1)) (L' := [some (.ref l0), some (.int l1), some (.int l2), some (.int l3), some (.int (l4 + 1)), some (.int v11)]) dX11_worthOf_183 rfl rfl (Nat.le_of_ble_eq_true rfl) rfl rfl rfl ?_
            refine z_goto (q := 13) dX11_worthOf_186 (by decide) ?_
            refine Zt.drop (i := 5) (L' := [some (.ref l0), some (.int l1), some (.int l2), some (.int l3), some (.int (l4 + 1)), none]) rfl ?_
            exact hF
          · have hF := hF.2 hc
            refine z_aload_n (q := 109) dX11_worthOf_108 rfl rfl rfl ?_
            refine z_dup (q := 110) dX11_worthOf_109 rfl rfl ?_
            obtain ⟨g31, hF⟩ := hF
            refine z_getI (c := 11) (k := 22) (r := (RX11, TX11, 54)) (q := 113) dX11_worthOf_110 rfl (by decide) fl_X11_229 rfl g31 rfl ?_
            refine z_iconst (q := 114) (v := 1) dX11_worthOf_113 (by decide) rfl ?_
            refine z_isub (q := 115) dX11_worthOf_114 rfl ?_
            refine z_putI (c := 11) (k := 22) (r := (RX11, TX11, 54)) (q := 118) dX11_worthOf_115 rfl (by decide) fl_X11_229 rfl rfl g31 rfl ?_
            refine z_aload_n (q := 119) dX11_worthOf_118 rfl rfl rfl ?_
            refine z_aload_n (q := 120) dX11_worthOf_119 rfl rfl rfl ?_
            obtain ⟨g32, hF⟩ := hF
            refine z_getR (c := 11) (k := 21) (r := (RX11, TX11, 54)) (q := 123) dX11_worthOf_120 rfl (by decide) fl_X11_68 rfl g31 g32 rfl ?_
            refine z_aload_n (q := 124) dX11_worthOf_123 rfl rfl rfl ?_
            refine z_nameH (fun h33 eh34 => ?_)
            have hF := hF h33 eh34
            obtain ⟨g35, hF⟩ := hF
            refine z_getI (c := 11) (k := 22) (r := (RX11, TX11, 54)) (q := 127) dX11_worthOf_124 rfl (by decide) fl_X11_229 rfl g35 rfl ?_
            obtain ⟨g36, hF⟩ := hF
            obtain ⟨g37, hF⟩ := hF
            refine y_iald (j := (Int32.toNatClampNeg (zI h33 l0 22))) (q := 128) dX11_worthOf_127 (Or.inl g36) g37 rfl rfl ?_
            refine z_if_ne (t := 135) (q := 131) dX11_worthOf_128 (by decide) rfl (fun hc => ?_) (fun hc => ?_)
            · have hF := hF.1 hc
              refine z_lconst (q := 136) (v := 0) dX11_worthOf_135 (by decide) rfl ?_
              refine z_callVV (rc := 0) (rs := 0) (b := l0) (av := [.long 0]) (ci := 11) (r := (RX11, TX11, 54)) (q := 139) hF dX11_worthOf_136 ml_X11_238 ok_X11_lay in_X11_lay se_X11_lay rfl rfl g35 rfl (Nat.le_of_ble_eq_true rfl) (by decide) (Nat.le_of_ble_eq_true rfl) rfl rfl rfl rfl (fun h38 hF => ?_)
              refine z_goto (q := 183) dX11_worthOf_139 (by decide) ?_
              refine z_iinc (q := 186) (v := (l4 + 1)) (L' := [some (.ref l0), some (.int l1), some (.int l2), some (.int l3), some (.int (l4 + 1)), some (.int v11)]) dX11_worthOf_183 rfl rfl (Nat.le_of_ble_eq_true rfl) rfl rfl rfl ?_
              refine z_goto (q := 13) dX11_worthOf_186 (by decide) ?_
              refine Zt.drop (i := 5) (L' := [some (.ref l0), some (.int l1), some (.int l2), some (.int l3), some (.int (l4 + 1)), none]) rfl ?_
              exact hF
            · have hF := hF.2 hc
              refine z_lconst (q := 132) (v := 1) dX11_worthOf_131 (by decide) rfl ?_
              refine z_goto (q := 136) dX11_worthOf_132 (by decide) ?_
              refine z_callVV (rc := 0) (rs := 0) (b := l0) (av := [.long 1]) (ci := 11) (r := (RX11, TX11, 54)) (q := 139) hF dX11_worthOf_136 ml_X11_238 ok_X11_lay in_X11_lay se_X11_lay rfl rfl g35 rfl (Nat.le_of_ble_eq_true rfl) (by decide) (Nat.le_of_ble_eq_true rfl) rfl rfl rfl rfl (fun h39 hF => ?_)
              refine z_goto (q := 183) dX11_worthOf_139 (by decide) ?_
              refine z_iinc (q := 186) (v := (l4 + 1)) (L' := [some (.ref l0), some (.int l1), some (.int l2), some (.int l3), some (.int (l4 + 1)), some (.int v11)]) dX11_worthOf_183 rfl rfl (Nat.le_of_ble_eq_true rfl) rfl rfl rfl ?_
              refine z_goto (q := 13) dX11_worthOf_186 (by decide) ?_
              refine Zt.drop (i := 5) (L' := [some (.ref l0), some (.int l1), some (.int l2), some (.int l3), some (.int (l4 + 1)), none]) rfl ?_
              exact hF
        · have hF := hF.2 hc
          refine z_aload_n (q := 87) dX11_worthOf_86 rfl rfl rfl ?_
          refine z_aload_n (q := 88) dX11_worthOf_87 rfl rfl rfl ?_
          refine z_iload_n (q := 89) dX11_worthOf_88 rfl rfl rfl ?_
          refine z_iload (q := 91) dX11_worthOf_89 rfl rfl ?_
          obtain ⟨g41, hF⟩ := hF
          refine z_callVI (rc := 0) (rs := 0) (b := l0) (av := [.int l2, .int v11]) (ci := 11) (r := (RX11, TX11, 54)) (q := 94) hF dX11_worthOf_91 ml_X11_242 ok_X11_factOf in_X11_factOf se_X11_factOf rfl rfl g41 rfl (Nat.le_of_ble_eq_true rfl) (by decide) (Nat.le_of_ble_eq_true rfl) rfl rfl rfl rfl (fun x42 h40 hF => ?_)
          refine z_i2l (q := 95) dX11_worthOf_94 rfl ?_
          obtain ⟨g44, hF⟩ := hF
          refine z_callVV (rc := 0) (rs := 0) (b := l0) (av := [.long (Int32.toInt64 x42)]) (ci := 11) (r := (RX11, TX11, 54)) (q := 98) hF dX11_worthOf_95 ml_X11_238 ok_X11_lay in_X11_lay se_X11_lay rfl rfl g44 rfl (Nat.le_of_ble_eq_true rfl) (by decide) (Nat.le_of_ble_eq_true rfl) rfl rfl rfl rfl (fun h43 hF => ?_)
          refine z_goto (q := 183) dX11_worthOf_98 (by decide) ?_
          refine z_iinc (q := 186) (v := (l4 + 1)) (L' := [some (.ref l0), some (.int l1), some (.int l2), some (.int l3), some (.int (l4 + 1)), some (.int v11)]) dX11_worthOf_183 rfl rfl (Nat.le_of_ble_eq_true rfl) rfl rfl rfl ?_
          refine z_goto (q := 13) dX11_worthOf_186 (by decide) ?_
          refine Zt.drop (i := 5) (L' := [some (.ref l0), some (.int l1), some (.int l2), some (.int l3), some (.int (l4 + 1)), none]) rfl ?_
          exact hF
      · have hF := hF.2 hc
        refine z_aload_n (q := 68) dX11_worthOf_67 rfl rfl rfl ?_
        refine z_iload_n (q := 69) dX11_worthOf_68 rfl rfl rfl ?_
        refine z_i2l (q := 70) dX11_worthOf_69 rfl ?_
        obtain ⟨g46, hF⟩ := hF
        refine z_callVV (rc := 0) (rs := 0) (b := l0) (av := [.long (Int32.toInt64 l3)]) (ci := 11) (r := (RX11, TX11, 54)) (q := 73) hF dX11_worthOf_70 ml_X11_238 ok_X11_lay in_X11_lay se_X11_lay rfl rfl g46 rfl (Nat.le_of_ble_eq_true rfl) (by decide) (Nat.le_of_ble_eq_true rfl) rfl rfl rfl rfl (fun h45 hF => ?_)
        refine z_iconst (q := 74) (v := 0) dX11_worthOf_73 (by decide) rfl ?_
        refine z_istore_n (q := 75) (L' := [some (.ref l0), some (.int l1), some (.int l2), some (.int 0), some (.int l4), some (.int v11)]) dX11_worthOf_74 rfl (Nat.le_of_ble_eq_true rfl) rfl rfl rfl ?_
        refine z_goto (q := 183) dX11_worthOf_75 (by decide) ?_
        refine z_iinc (q := 186) (v := (l4 + 1)) (L' := [some (.ref l0), some (.int l1), some (.int l2), some (.int 0), some (.int (l4 + 1)), some (.int v11)]) dX11_worthOf_183 rfl rfl (Nat.le_of_ble_eq_true rfl) rfl rfl rfl ?_
        refine z_goto (q := 13) dX11_worthOf_186 (by decide) ?_
        refine Zt.drop (i := 5) (L' := [some (.ref l0), some (.int l1), some (.int l2), some (.int 0), some (.int (l4 + 1)), none]) rfl ?_
        exact hF
    · have hF := hF.2 hc
      refine z_bipush (q := 48) (v := 10) dX11_worthOf_46 (by decide) rfl ?_
      refine z_iload_n (q := 49) dX11_worthOf_48 rfl rfl rfl ?_
      refine z_imul (q := 50) dX11_worthOf_49 rfl ?_
      refine z_iload (q := 52) dX11_worthOf_50 rfl rfl ?_
      refine z_iadd (q := 53) dX11_worthOf_52 rfl ?_
      refine z_bipush (q := 55) (v := 48) dX11_worthOf_53 (by decide) rfl ?_
      refine z_isub (q := 56) dX11_worthOf_55 rfl ?_
      refine z_istore_n (q := 57) (L' := [some (.ref l0), some (.int l1), some (.int l2), some (.int (((10 * l3) + v11) - 48)), some (.int l4), some (.int v11)]) dX11_worthOf_56 rfl (Nat.le_of_ble_eq_true rfl) rfl rfl rfl ?_
      refine z_goto (q := 183) dX11_worthOf_57 (by decide) ?_
      refine z_iinc (q := 186) (v := (l4 + 1)) (L' := [some (.ref l0), some (.int l1), some (.int l2), some (.int (((10 * l3) + v11) - 48)), some (.int (l4 + 1)), some (.int v11)]) dX11_worthOf_183 rfl rfl (Nat.le_of_ble_eq_true rfl) rfl rfl rfl ?_
      refine z_goto (q := 13) dX11_worthOf_186 (by decide) ?_
      refine Zt.drop (i := 5) (L' := [some (.ref l0), some (.int l1), some (.int l2), some (.int (((10 * l3) + v11) - 48)), some (.int (l4 + 1)), none]) rfl ?_
      exact hF
set_option maxRecDepth 100000 in
set_option maxHeartbeats 4000000 in
theorem wX11_worthOf {ψ : Int32 → ZH → Prop} {l0 : Nat} {l1 : Int32} {l2 : Int32} {h : ZH} (hF : (zK h l0 = 12) ∧ Zt mX11_worthOf (zPI ψ) 0 0 13 [some (.ref l0), some (.int l1), some (.int l2), some (.int 0), some (.int (40 * l1)), none] [] (zsI h l0 22 0)) : ZcI mX11_worthOf [.ref l0, .int l1, .int l2] h ψ := by
  refine Zc.intro (L := [some (.ref l0), some (.int l1), some (.int l2), none, none, none]) (show plainName RX11 = true by decide) rfl (Nat.le_of_ble_eq_true rfl) ?_
  show Zt _ _ 0 0 _ _ _ _
  refine z_aload_n (q := 1) dX11_worthOf_0 rfl rfl rfl ?_
  refine z_iconst (q := 2) (v := 0) dX11_worthOf_1 (by decide) rfl ?_
  obtain ⟨g47, hF⟩ := hF
  refine z_putI (c := 11) (k := 22) (r := (RX11, TX11, 54)) (q := 5) dX11_worthOf_2 rfl (by decide) fl_X11_229 rfl rfl g47 rfl ?_
  refine z_iconst (q := 6) (v := 0) dX11_worthOf_5 (by decide) rfl ?_
  refine z_istore_n (q := 7) (L' := [some (.ref l0), some (.int l1), some (.int l2), some (.int 0), none, none]) dX11_worthOf_6 rfl (Nat.le_of_ble_eq_true rfl) rfl rfl rfl ?_
  refine z_bipush (q := 9) (v := 40) dX11_worthOf_7 (by decide) rfl ?_
  refine z_iload_n (q := 10) dX11_worthOf_9 rfl rfl rfl ?_
  refine z_imul (q := 11) dX11_worthOf_10 rfl ?_
  refine z_istore (q := 13) (L' := [some (.ref l0), some (.int l1), some (.int l2), some (.int 0), some (.int (40 * l1)), none]) dX11_worthOf_11 (Nat.le_of_ble_eq_true rfl) rfl rfl rfl ?_
  exact hF
set_option maxRecDepth 100000 in
set_option maxHeartbeats 4000000 in
theorem wX11_worth {ψ : Int32 → ZH → Prop} {l0 : Nat} {l1 : Int32} {l2 : Int32} {h : ZH} (hF : (zK h l0 = 12) ∧ ZcI mX11_isMan [.ref l0, .int l2] h (fun x3 h1 => ((¬ x3 = 0 → ZcI mX11_in [.long (Int32.toInt64 l1), .long 0, .long 2] h1 (fun x5 h4 => ((¬ x5 = 0 → (zK h4 l0 = 12) ∧ ((zR h4 l0 20) ≠ 0) ∧ (zK h4 (zR h4 l0 20) = 20) ∧ (vp_in l1 (zN h4 (zR h4 l0 20))) ∧ ((0 ≤ (zI h4 (zR h4 l0 20) (Int32.toNatClampNeg l1)) → ZcI mX11_worthOf [.ref l0, .int l1, .int l2] h4 (fun x11 h10 => ψ x11 h10)) ∧ (¬ 0 ≤ (zI h4 (zR h4 l0 20) (Int32.toNatClampNeg l1)) → ψ (-2000006) h4))) ∧ (x5 = 0 → ψ (-2000002) h4)))) ∧ (x3 = 0 → ψ (-2000001) h1)))) : ZcI mX11_worth [.ref l0, .int l1, .int l2] h ψ := by
  refine Zc.intro (L := [some (.ref l0), some (.int l1), some (.int l2)]) (show plainName RX11 = true by decide) rfl (Nat.le_of_ble_eq_true rfl) ?_
  show Zt _ _ 0 0 _ _ _ _
  refine z_aload_n (q := 1) dX11_worth_0 rfl rfl rfl ?_
  refine z_iload_n (q := 2) dX11_worth_1 rfl rfl rfl ?_
  obtain ⟨g2, hF⟩ := hF
  refine z_callVI (rc := 0) (rs := 0) (b := l0) (av := [.int l2]) (ci := 11) (r := (RX11, TX11, 54)) (q := 5) hF dX11_worth_2 ml_X11_187 ok_X11_isMan in_X11_isMan se_X11_isMan rfl rfl g2 rfl (Nat.le_of_ble_eq_true rfl) (by decide) (Nat.le_of_ble_eq_true rfl) rfl rfl rfl rfl (fun x3 h1 hF => ?_)
  refine z_if_ne (t := 11) (q := 8) dX11_worth_5 (by decide) rfl (fun hc => ?_) (fun hc => ?_)
  · have hF := hF.1 hc
    refine z_iload_n (q := 12) dX11_worth_11 rfl rfl rfl ?_
    refine z_i2l (q := 13) dX11_worth_12 rfl ?_
    refine z_lconst (q := 14) (v := 0) dX11_worth_13 (by decide) rfl ?_
    refine z_ldc2 (q := 17) (v := 2) dX11_worth_14 cw_X11_183 rfl ?_
    refine z_callSI (rc := 0) (rs := 0) (av := [.long (Int32.toInt64 l1), .long 0, .long 2]) (q := 20) hF dX11_worth_17 ml_X11_140 ok_X11_in st_X11_in rfl (Nat.le_of_ble_eq_true rfl) (by decide) (Nat.le_of_ble_eq_true rfl) rfl rfl rfl rfl (fun x5 h4 hF => ?_)
    refine z_if_ne (t := 26) (q := 23) dX11_worth_20 (by decide) rfl (fun hc => ?_) (fun hc => ?_)
    · have hF := hF.1 hc
      refine z_aload_n (q := 27) dX11_worth_26 rfl rfl rfl ?_
      obtain ⟨g6, hF⟩ := hF
      obtain ⟨g7, hF⟩ := hF
      refine z_getR (c := 11) (k := 20) (r := (RX11, TX11, 54)) (q := 30) dX11_worth_27 rfl (by decide) fl_X11_65 rfl g6 g7 rfl ?_
      refine z_iload_n (q := 31) dX11_worth_30 rfl rfl rfl ?_
      obtain ⟨g8, hF⟩ := hF
      obtain ⟨g9, hF⟩ := hF
      refine y_iald (j := (Int32.toNatClampNeg l1)) (q := 32) dX11_worth_31 (Or.inl g8) g9 rfl rfl ?_
      refine z_if_ge (t := 40) (q := 35) dX11_worth_32 (by decide) rfl (fun hc => ?_) (fun hc => ?_)
      · have hF := hF.1 hc
        refine z_aload_n (q := 41) dX11_worth_40 rfl rfl rfl ?_
        refine z_iload_n (q := 42) dX11_worth_41 rfl rfl rfl ?_
        refine z_iload_n (q := 43) dX11_worth_42 rfl rfl rfl ?_
        refine z_callVI (rc := 0) (rs := 0) (b := l0) (av := [.int l1, .int l2]) (ci := 11) (r := (RX11, TX11, 54)) (q := 46) hF dX11_worth_43 ml_X11_252 ok_X11_worthOf in_X11_worthOf se_X11_worthOf rfl rfl g6 rfl (Nat.le_of_ble_eq_true rfl) (by decide) (Nat.le_of_ble_eq_true rfl) rfl rfl rfl rfl (fun x11 h10 hF => ?_)
        exact z_ireturn dX11_worth_46 rfl ⟨_, rfl, hF⟩
      · have hF := hF.2 hc
        refine z_ldc (q := 37) (v := (-2000006)) dX11_worth_35 cw_X11_251 rfl ?_
        refine z_goto (q := 46) dX11_worth_37 (by decide) ?_
        exact z_ireturn dX11_worth_46 rfl ⟨_, rfl, hF⟩
    · have hF := hF.2 hc
      refine z_ldc (q := 25) (v := (-2000002)) dX11_worth_23 cw_X11_250 rfl ?_
      exact z_ireturn dX11_worth_25 rfl ⟨_, rfl, hF⟩
  · have hF := hF.2 hc
    refine z_ldc (q := 10) (v := (-2000001)) dX11_worth_8 cw_X11_249 rfl ?_
    exact z_ireturn dX11_worth_10 rfl ⟨_, rfl, hF⟩
set_option maxRecDepth 100000 in
set_option maxHeartbeats 4000000 in
theorem wX11_isSo {ψ : Int32 → ZH → Prop} {l0 : Nat} {l1 : Int32} {l2 : Int32} {h : ZH} (hF : (zK h l0 = 12) ∧ ((zR h l0 20) ≠ 0) ∧ (zK h (zR h l0 20) = 20) ∧ (vp_in l1 (zN h (zR h l0 20))) ∧ (((zI h (zR h l0 20) (Int32.toNatClampNeg l1)) < 0 → ψ 0 h) ∧ (¬ (zI h (zR h l0 20) (Int32.toNatClampNeg l1)) < 0 → ZcI mX11_worthOf [.ref l0, .int l1, .int l2] h (fun x6 h5 => ((x6 = 0 → ψ 0 h5) ∧ (¬ x6 = 0 → ψ 1 h5)))))) : ZcI mX11_isSo [.ref l0, .int l1, .int l2] h ψ := by
  refine Zc.intro (L := [some (.ref l0), some (.int l1), some (.int l2)]) (show plainName RX11 = true by decide) rfl (Nat.le_of_ble_eq_true rfl) ?_
  show Zt _ _ 0 0 _ _ _ _
  refine z_aload_n (q := 1) dX11_isSo_0 rfl rfl rfl ?_
  obtain ⟨g1, hF⟩ := hF
  obtain ⟨g2, hF⟩ := hF
  refine z_getR (c := 11) (k := 20) (r := (RX11, TX11, 54)) (q := 4) dX11_isSo_1 rfl (by decide) fl_X11_65 rfl g1 g2 rfl ?_
  refine z_iload_n (q := 5) dX11_isSo_4 rfl rfl rfl ?_
  obtain ⟨g3, hF⟩ := hF
  obtain ⟨g4, hF⟩ := hF
  refine y_iald (j := (Int32.toNatClampNeg l1)) (q := 6) dX11_isSo_5 (Or.inl g3) g4 rfl rfl ?_
  refine z_if_lt (t := 22) (q := 9) dX11_isSo_6 (by decide) rfl (fun hc => ?_) (fun hc => ?_)
  · have hF := hF.1 hc
    refine z_iconst (q := 23) (v := 0) dX11_isSo_22 (by decide) rfl ?_
    exact z_zreturn dX11_isSo_23 rfl (by decide) ⟨_, rfl, hF⟩
  · have hF := hF.2 hc
    refine z_aload_n (q := 10) dX11_isSo_9 rfl rfl rfl ?_
    refine z_iload_n (q := 11) dX11_isSo_10 rfl rfl rfl ?_
    refine z_iload_n (q := 12) dX11_isSo_11 rfl rfl rfl ?_
    refine z_callVI (rc := 0) (rs := 0) (b := l0) (av := [.int l1, .int l2]) (ci := 11) (r := (RX11, TX11, 54)) (q := 15) hF dX11_isSo_12 ml_X11_252 ok_X11_worthOf in_X11_worthOf se_X11_worthOf rfl rfl g1 rfl (Nat.le_of_ble_eq_true rfl) (by decide) (Nat.le_of_ble_eq_true rfl) rfl rfl rfl rfl (fun x6 h5 hF => ?_)
    refine z_if_eq (t := 22) (q := 18) dX11_isSo_15 (by decide) rfl (fun hc => ?_) (fun hc => ?_)
    · have hF := hF.1 hc
      refine z_iconst (q := 23) (v := 0) dX11_isSo_22 (by decide) rfl ?_
      exact z_zreturn dX11_isSo_23 rfl (by decide) ⟨_, rfl, hF⟩
    · have hF := hF.2 hc
      refine z_iconst (q := 19) (v := 1) dX11_isSo_18 (by decide) rfl ?_
      refine z_goto (q := 23) dX11_isSo_19 (by decide) ?_
      exact z_zreturn dX11_isSo_23 rfl (by decide) ⟨_, rfl, hF⟩
set_option maxRecDepth 100000 in
set_option maxHeartbeats 4000000 in
theorem wX11_findMovers_117 {ψ : ZH → Prop} {l0 : Nat} {l1 : Int32} {l2 : Int32} {l3 : Int32} {l4 : Int32} {h : ZH} (hF : (zK h l0 = 12) ∧ ((zR h l0 8) ≠ 0) ∧ (zK h (zR h l0 8) = 20) ∧ (vp_in ((3 * l2) + l3) (zN h (zR h l0 8))) ∧ (((zI h (zR h l0 8) (Int32.toNatClampNeg ((3 * l2) + l3))) ≤ l4 → Zt mX11_findMovers (zPV ψ) 0 0 95 [some (.ref l0), some (.int l1), some (.int l2), some (.int (l3 + 1)), none] [] h) ∧ (¬ (zI h (zR h l0 8) (Int32.toNatClampNeg ((3 * l2) + l3))) ≤ l4 → ((12 ≤ (zI h l0 28) → Zt mX11_findMovers (zPV ψ) 0 0 95 [some (.ref l0), some (.int l1), some (.int l2), some (.int (l3 + 1)), none] [] h) ∧ (¬ 12 ≤ (zI h l0 28) → ((zR h l0 26) ≠ 0) ∧ (zK h (zR h l0 26) = 20) ∧ (vp_in (zI h l0 28) (zN h (zR h l0 26))) ∧ ((zR h l0 27) ≠ 0) ∧ ∀ h9 : ZH, h9 = (zsI h (zR h l0 26) (Int32.toNatClampNeg (zI h l0 28)) l2) → (zK h9 l0 = 12) ∧ (zK h9 (zR h l0 27) = 20) ∧ (vp_in (zI h9 l0 28) (zN h9 (zR h l0 27))) ∧ ∀ h14 : ZH, h14 = (zsI h9 (zR h l0 27) (Int32.toNatClampNeg (zI h9 l0 28)) l3) → (zK h14 l0 = 12) ∧ Zt mX11_findMovers (zPV ψ) 0 0 117 [some (.ref l0), some (.int l1), some (.int l2), some (.int l3), some (.int (l4 + 1))] [] (zsI h14 l0 28 ((zI h14 l0 28) + 1))))))) : Zt mX11_findMovers (zPV ψ) 0 0 117 [some (.ref l0), some (.int l1), some (.int l2), some (.int l3), some (.int l4)] [] h := by
  refine z_iload (q := 119) dX11_findMovers_117 rfl rfl ?_
  refine z_aload_n (q := 120) dX11_findMovers_119 rfl rfl rfl ?_
  obtain ⟨g1, hF⟩ := hF
  obtain ⟨g2, hF⟩ := hF
  refine z_getR (c := 11) (k := 8) (r := (RX11, TX11, 54)) (q := 123) dX11_findMovers_120 rfl (by decide) fl_X11_35 rfl g1 g2 rfl ?_
  refine z_iconst (q := 124) (v := 3) dX11_findMovers_123 (by decide) rfl ?_
  refine z_iload_n (q := 125) dX11_findMovers_124 rfl rfl rfl ?_
  refine z_imul (q := 126) dX11_findMovers_125 rfl ?_
  refine z_iload_n (q := 127) dX11_findMovers_126 rfl rfl rfl ?_
  refine z_iadd (q := 128) dX11_findMovers_127 rfl ?_
  obtain ⟨g3, hF⟩ := hF
  obtain ⟨g4, hF⟩ := hF
  refine y_iald (j := (Int32.toNatClampNeg ((3 * l2) + l3))) (q := 129) dX11_findMovers_128 (Or.inl g3) g4 rfl rfl ?_
  refine z_icmp_ge (t := 177) (q := 132) dX11_findMovers_129 (by decide) rfl (fun hc => ?_) (fun hc => ?_)
  · have hF := hF.1 hc
    refine z_iinc (q := 180) (v := (l3 + 1)) (L' := [some (.ref l0), some (.int l1), some (.int l2), some (.int (l3 + 1)), some (.int l4)]) dX11_findMovers_177 rfl rfl (Nat.le_of_ble_eq_true rfl) rfl rfl rfl ?_
    refine z_goto (q := 95) dX11_findMovers_180 (by decide) ?_
    refine Zt.drop (i := 4) (L' := [some (.ref l0), some (.int l1), some (.int l2), some (.int (l3 + 1)), none]) rfl ?_
    exact hF
  · have hF := hF.2 hc
    refine z_aload_n (q := 133) dX11_findMovers_132 rfl rfl rfl ?_
    refine z_getI (c := 11) (k := 28) (r := (RX11, TX11, 54)) (q := 136) dX11_findMovers_133 rfl (by decide) fl_X11_264 rfl g1 rfl ?_
    refine z_bipush (q := 138) (v := 12) dX11_findMovers_136 (by decide) rfl ?_
    refine z_icmp_ge (t := 177) (q := 141) dX11_findMovers_138 (by decide) rfl (fun hc => ?_) (fun hc => ?_)
    · have hF := hF.1 hc
      refine z_iinc (q := 180) (v := (l3 + 1)) (L' := [some (.ref l0), some (.int l1), some (.int l2), some (.int (l3 + 1)), some (.int l4)]) dX11_findMovers_177 rfl rfl (Nat.le_of_ble_eq_true rfl) rfl rfl rfl ?_
      refine z_goto (q := 95) dX11_findMovers_180 (by decide) ?_
      refine Zt.drop (i := 4) (L' := [some (.ref l0), some (.int l1), some (.int l2), some (.int (l3 + 1)), none]) rfl ?_
      exact hF
    · have hF := hF.2 hc
      refine z_aload_n (q := 142) dX11_findMovers_141 rfl rfl rfl ?_
      obtain ⟨g5, hF⟩ := hF
      refine z_getR (c := 11) (k := 26) (r := (RX11, TX11, 54)) (q := 145) dX11_findMovers_142 rfl (by decide) fl_X11_74 rfl g1 g5 rfl ?_
      refine z_aload_n (q := 146) dX11_findMovers_145 rfl rfl rfl ?_
      refine z_getI (c := 11) (k := 28) (r := (RX11, TX11, 54)) (q := 149) dX11_findMovers_146 rfl (by decide) fl_X11_264 rfl g1 rfl ?_
      refine z_iload_n (q := 150) dX11_findMovers_149 rfl rfl rfl ?_
      obtain ⟨g6, hF⟩ := hF
      obtain ⟨g7, hF⟩ := hF
      refine y_iast (j := (Int32.toNatClampNeg (zI h l0 28))) (q := 151) dX11_findMovers_150 g6 g7 rfl rfl ?_
      refine z_aload_n (q := 152) dX11_findMovers_151 rfl rfl rfl ?_
      obtain ⟨g8, hF⟩ := hF
      refine z_getR (c := 11) (k := 27) (r := (RX11, TX11, 54)) (q := 155) dX11_findMovers_152 rfl (by decide) fl_X11_77 rfl g1 g8 rfl ?_
      refine z_aload_n (q := 156) dX11_findMovers_155 rfl rfl rfl ?_
      refine z_nameH (fun h9 eh10 => ?_)
      have hF := hF h9 eh10
      obtain ⟨g11, hF⟩ := hF
      refine z_getI (c := 11) (k := 28) (r := (RX11, TX11, 54)) (q := 159) dX11_findMovers_156 rfl (by decide) fl_X11_264 rfl g11 rfl ?_
      refine z_iload_n (q := 160) dX11_findMovers_159 rfl rfl rfl ?_
      obtain ⟨g12, hF⟩ := hF
      obtain ⟨g13, hF⟩ := hF
      refine y_iast (j := (Int32.toNatClampNeg (zI h9 l0 28))) (q := 161) dX11_findMovers_160 g12 g13 rfl rfl ?_
      refine z_aload_n (q := 162) dX11_findMovers_161 rfl rfl rfl ?_
      refine z_dup (q := 163) dX11_findMovers_162 rfl rfl ?_
      refine z_nameH (fun h14 eh15 => ?_)
      have hF := hF h14 eh15
      obtain ⟨g16, hF⟩ := hF
      refine z_getI (c := 11) (k := 28) (r := (RX11, TX11, 54)) (q := 166) dX11_findMovers_163 rfl (by decide) fl_X11_264 rfl g16 rfl ?_
      refine z_iconst (q := 167) (v := 1) dX11_findMovers_166 (by decide) rfl ?_
      refine z_iadd (q := 168) dX11_findMovers_167 rfl ?_
      refine z_putI (c := 11) (k := 28) (r := (RX11, TX11, 54)) (q := 171) dX11_findMovers_168 rfl (by decide) fl_X11_264 rfl rfl g16 rfl ?_
      refine z_iinc (q := 174) (v := (l4 + 1)) (L' := [some (.ref l0), some (.int l1), some (.int l2), some (.int l3), some (.int (l4 + 1))]) dX11_findMovers_171 rfl rfl (Nat.le_of_ble_eq_true rfl) rfl rfl rfl ?_
      refine z_goto (q := 117) dX11_findMovers_174 (by decide) ?_
      exact hF
set_option maxRecDepth 100000 in
set_option maxHeartbeats 4000000 in
theorem wX11_findMovers_95 {ψ : ZH → Prop} {l0 : Nat} {l1 : Int32} {l2 : Int32} {l3 : Int32} {h : ZH} (hF : ((3 ≤ l3 → Zt mX11_findMovers (zPV ψ) 0 0 85 [some (.ref l0), some (.int l1), some (.int (l2 + 1)), none, none] [] h) ∧ (¬ 3 ≤ l3 → (zK h l0 = 12) ∧ ((zR h l0 7) ≠ 0) ∧ (zK h (zR h l0 7) = 21) ∧ (vp_in l2 (zN h (zR h l0 7))) ∧ (((zI h (zR h l0 7) (Int32.toNatClampNeg l2)) = 0 → Zt mX11_findMovers (zPV ψ) 0 0 85 [some (.ref l0), some (.int l1), some (.int (l2 + 1)), none, none] [] h) ∧ (¬ (zI h (zR h l0 7) (Int32.toNatClampNeg l2)) = 0 → ((l2 = l1 → Zt mX11_findMovers (zPV ψ) 0 0 85 [some (.ref l0), some (.int l1), some (.int (l2 + 1)), none, none] [] h) ∧ (¬ l2 = l1 → Zt mX11_findMovers (zPV ψ) 0 0 117 [some (.ref l0), some (.int l1), some (.int l2), some (.int l3), some (.int 0)] [] h))))))) : Zt mX11_findMovers (zPV ψ) 0 0 95 [some (.ref l0), some (.int l1), some (.int l2), some (.int l3), none] [] h := by
  refine z_iload_n (q := 96) dX11_findMovers_95 rfl rfl rfl ?_
  refine z_iconst (q := 97) (v := 3) dX11_findMovers_96 (by decide) rfl ?_
  refine z_icmp_ge (t := 183) (q := 100) dX11_findMovers_97 (by decide) rfl (fun hc => ?_) (fun hc => ?_)
  · have hF := hF.1 hc
    refine z_iinc (q := 186) (v := (l2 + 1)) (L' := [some (.ref l0), some (.int l1), some (.int (l2 + 1)), some (.int l3), none]) dX11_findMovers_183 rfl rfl (Nat.le_of_ble_eq_true rfl) rfl rfl rfl ?_
    refine z_goto (q := 85) dX11_findMovers_186 (by decide) ?_
    refine Zt.drop (i := 3) (L' := [some (.ref l0), some (.int l1), some (.int (l2 + 1)), none, none]) rfl ?_
    exact hF
  · have hF := hF.2 hc
    refine z_aload_n (q := 101) dX11_findMovers_100 rfl rfl rfl ?_
    obtain ⟨g17, hF⟩ := hF
    obtain ⟨g18, hF⟩ := hF
    refine z_getR (c := 11) (k := 7) (r := (RX11, TX11, 54)) (q := 104) dX11_findMovers_101 rfl (by decide) fl_X11_31 rfl g17 g18 rfl ?_
    refine z_iload_n (q := 105) dX11_findMovers_104 rfl rfl rfl ?_
    obtain ⟨g19, hF⟩ := hF
    obtain ⟨g20, hF⟩ := hF
    refine y_bald (j := (Int32.toNatClampNeg l2)) (q := 106) dX11_findMovers_105 g19 g20 rfl rfl ?_
    refine z_if_eq (t := 183) (q := 109) dX11_findMovers_106 (by decide) rfl (fun hc => ?_) (fun hc => ?_)
    · have hF := hF.1 hc
      refine z_iinc (q := 186) (v := (l2 + 1)) (L' := [some (.ref l0), some (.int l1), some (.int (l2 + 1)), some (.int l3), none]) dX11_findMovers_183 rfl rfl (Nat.le_of_ble_eq_true rfl) rfl rfl rfl ?_
      refine z_goto (q := 85) dX11_findMovers_186 (by decide) ?_
      refine Zt.drop (i := 3) (L' := [some (.ref l0), some (.int l1), some (.int (l2 + 1)), none, none]) rfl ?_
      exact hF
    · have hF := hF.2 hc
      refine z_iload_n (q := 110) dX11_findMovers_109 rfl rfl rfl ?_
      refine z_iload_n (q := 111) dX11_findMovers_110 rfl rfl rfl ?_
      refine z_icmp_eq (t := 183) (q := 114) dX11_findMovers_111 (by decide) rfl (fun hc => ?_) (fun hc => ?_)
      · have hF := hF.1 hc
        refine z_iinc (q := 186) (v := (l2 + 1)) (L' := [some (.ref l0), some (.int l1), some (.int (l2 + 1)), some (.int l3), none]) dX11_findMovers_183 rfl rfl (Nat.le_of_ble_eq_true rfl) rfl rfl rfl ?_
        refine z_goto (q := 85) dX11_findMovers_186 (by decide) ?_
        refine Zt.drop (i := 3) (L' := [some (.ref l0), some (.int l1), some (.int (l2 + 1)), none, none]) rfl ?_
        exact hF
      · have hF := hF.2 hc
        refine z_iconst (q := 115) (v := 0) dX11_findMovers_114 (by decide) rfl ?_
        refine z_istore (q := 117) (L' := [some (.ref l0), some (.int l1), some (.int l2), some (.int l3), some (.int 0)]) dX11_findMovers_115 (Nat.le_of_ble_eq_true rfl) rfl rfl rfl ?_
        exact hF
set_option maxRecDepth 100000 in
set_option maxHeartbeats 4000000 in
theorem wX11_findMovers_85 {ψ : ZH → Prop} {l0 : Nat} {l1 : Int32} {l2 : Int32} {h : ZH} (hF : (zK h l0 = 12) ∧ (((zI h l0 9) ≤ l2 → ψ h) ∧ (¬ (zI h l0 9) ≤ l2 → Zt mX11_findMovers (zPV ψ) 0 0 95 [some (.ref l0), some (.int l1), some (.int l2), some (.int 0), none] [] h))) : Zt mX11_findMovers (zPV ψ) 0 0 85 [some (.ref l0), some (.int l1), some (.int l2), none, none] [] h := by
  refine z_iload_n (q := 86) dX11_findMovers_85 rfl rfl rfl ?_
  refine z_aload_n (q := 87) dX11_findMovers_86 rfl rfl rfl ?_
  obtain ⟨g21, hF⟩ := hF
  refine z_getI (c := 11) (k := 9) (r := (RX11, TX11, 54)) (q := 90) dX11_findMovers_87 rfl (by decide) fl_X11_144 rfl g21 rfl ?_
  refine z_icmp_ge (t := 189) (q := 93) dX11_findMovers_90 (by decide) rfl (fun hc => ?_) (fun hc => ?_)
  · have hF := hF.1 hc
    exact z_return dX11_findMovers_189 rfl ⟨rfl, hF⟩
  · have hF := hF.2 hc
    refine z_iconst (q := 94) (v := 0) dX11_findMovers_93 (by decide) rfl ?_
    refine z_istore_n (q := 95) (L' := [some (.ref l0), some (.int l1), some (.int l2), some (.int 0), none]) dX11_findMovers_94 rfl (Nat.le_of_ble_eq_true rfl) rfl rfl rfl ?_
    exact hF
set_option maxRecDepth 100000 in
set_option maxHeartbeats 4000000 in
theorem wX11_findMovers_12 {ψ : ZH → Prop} {l0 : Nat} {l1 : Int32} {l2 : Int32} {h : ZH} (hF : (zK h l0 = 12) ∧ (((zI h l0 17) ≤ l2 → Zt mX11_findMovers (zPV ψ) 0 0 85 [some (.ref l0), some (.int l1), some (.int 0), none, none] [] (zsI h l0 28 0)) ∧ (¬ (zI h l0 17) ≤ l2 → ((zR h l0 14) ≠ 0) ∧ (zK h (zR h l0 14) = 20) ∧ (vp_in l2 (zN h (zR h l0 14))) ∧ ((¬ (zI h (zR h l0 14) (Int32.toNatClampNeg l2)) = l1 → Zt mX11_findMovers (zPV ψ) 0 0 12 [some (.ref l0), some (.int l1), some (.int (l2 + 1)), none, none] [] h) ∧ ((zI h (zR h l0 14) (Int32.toNatClampNeg l2)) = l1 → ZcI mX11_isSo [.ref l0, .int 0, .int l2] h (fun x27 h26 => ((x27 = 0 → (zK h26 l0 = 12) ∧ ((zR h26 l0 23) ≠ 0) ∧ (zK h26 (zR h26 l0 23) = 20) ∧ (vp_in (zI h26 l0 24) (zN h26 (zR h26 l0 23))) ∧ ∀ h32 : ZH, h32 = (zsI h26 (zR h26 l0 23) (Int32.toNatClampNeg (zI h26 l0 24)) l2) → (zK h32 l0 = 12) ∧ Zt mX11_findMovers (zPV ψ) 0 0 12 [some (.ref l0), some (.int l1), some (.int (l2 + 1)), none, none] [] (zsI h32 l0 24 ((zI h32 l0 24) + 1))) ∧ (¬ x27 = 0 → (zK h26 l0 = 12) ∧ Zt mX11_findMovers (zPV ψ) 0 0 12 [some (.ref l0), some (.int l1), some (.int (l2 + 1)), none, none] [] (zsI h26 l0 25 ((zI h26 l0 25) + 1)))))))))) : Zt mX11_findMovers (zPV ψ) 0 0 12 [some (.ref l0), some (.int l1), some (.int l2), none, none] [] h := by
  refine z_iload_n (q := 13) dX11_findMovers_12 rfl rfl rfl ?_
  refine z_aload_n (q := 14) dX11_findMovers_13 rfl rfl rfl ?_
  obtain ⟨g22, hF⟩ := hF
  refine z_getI (c := 11) (k := 17) (r := (RX11, TX11, 54)) (q := 17) dX11_findMovers_14 rfl (by decide) fl_X11_166 rfl g22 rfl ?_
  refine z_icmp_ge (t := 78) (q := 20) dX11_findMovers_17 (by decide) rfl (fun hc => ?_) (fun hc => ?_)
  · have hF := hF.1 hc
    refine z_aload_n (q := 79) dX11_findMovers_78 rfl rfl rfl ?_
    refine z_iconst (q := 80) (v := 0) dX11_findMovers_79 (by decide) rfl ?_
    refine z_putI (c := 11) (k := 28) (r := (RX11, TX11, 54)) (q := 83) dX11_findMovers_80 rfl (by decide) fl_X11_264 rfl rfl g22 rfl ?_
    refine z_iconst (q := 84) (v := 0) dX11_findMovers_83 (by decide) rfl ?_
    refine z_istore_n (q := 85) (L' := [some (.ref l0), some (.int l1), some (.int 0), none, none]) dX11_findMovers_84 rfl (Nat.le_of_ble_eq_true rfl) rfl rfl rfl ?_
    exact hF
  · have hF := hF.2 hc
    refine z_aload_n (q := 21) dX11_findMovers_20 rfl rfl rfl ?_
    obtain ⟨g23, hF⟩ := hF
    refine z_getR (c := 11) (k := 14) (r := (RX11, TX11, 54)) (q := 24) dX11_findMovers_21 rfl (by decide) fl_X11_50 rfl g22 g23 rfl ?_
    refine z_iload_n (q := 25) dX11_findMovers_24 rfl rfl rfl ?_
    obtain ⟨g24, hF⟩ := hF
    obtain ⟨g25, hF⟩ := hF
    refine y_iald (j := (Int32.toNatClampNeg l2)) (q := 26) dX11_findMovers_25 (Or.inl g24) g25 rfl rfl ?_
    refine z_iload_n (q := 27) dX11_findMovers_26 rfl rfl rfl ?_
    refine z_icmp_ne (t := 72) (q := 30) dX11_findMovers_27 (by decide) rfl (fun hc => ?_) (fun hc => ?_)
    · have hF := hF.1 hc
      refine z_iinc (q := 75) (v := (l2 + 1)) (L' := [some (.ref l0), some (.int l1), some (.int (l2 + 1)), none, none]) dX11_findMovers_72 rfl rfl (Nat.le_of_ble_eq_true rfl) rfl rfl rfl ?_
      refine z_goto (q := 12) dX11_findMovers_75 (by decide) ?_
      exact hF
    · have hF := hF.2 hc
      refine z_aload_n (q := 31) dX11_findMovers_30 rfl rfl rfl ?_
      refine z_iconst (q := 32) (v := 0) dX11_findMovers_31 (by decide) rfl ?_
      refine z_iload_n (q := 33) dX11_findMovers_32 rfl rfl rfl ?_
      refine z_callVI (rc := 0) (rs := 0) (b := l0) (av := [.int 0, .int l2]) (ci := 11) (r := (RX11, TX11, 54)) (q := 36) hF dX11_findMovers_33 ml_X11_261 ok_X11_isSo in_X11_isSo se_X11_isSo rfl rfl g22 rfl (Nat.le_of_ble_eq_true rfl) (by decide) (Nat.le_of_ble_eq_true rfl) rfl rfl rfl rfl (fun x27 h26 hF => ?_)
      refine z_if_eq (t := 52) (q := 39) dX11_findMovers_36 (by decide) rfl (fun hc => ?_) (fun hc => ?_)
      · have hF := hF.1 hc
        refine z_aload_n (q := 53) dX11_findMovers_52 rfl rfl rfl ?_
        obtain ⟨g28, hF⟩ := hF
        obtain ⟨g29, hF⟩ := hF
        refine z_getR (c := 11) (k := 23) (r := (RX11, TX11, 54)) (q := 56) dX11_findMovers_53 rfl (by decide) fl_X11_71 rfl g28 g29 rfl ?_
        refine z_aload_n (q := 57) dX11_findMovers_56 rfl rfl rfl ?_
        refine z_getI (c := 11) (k := 24) (r := (RX11, TX11, 54)) (q := 60) dX11_findMovers_57 rfl (by decide) fl_X11_255 rfl g28 rfl ?_
        refine z_iload_n (q := 61) dX11_findMovers_60 rfl rfl rfl ?_
        obtain ⟨g30, hF⟩ := hF
        obtain ⟨g31, hF⟩ := hF
        refine y_iast (j := (Int32.toNatClampNeg (zI h26 l0 24))) (q := 62) dX11_findMovers_61 g30 g31 rfl rfl ?_
        refine z_aload_n (q := 63) dX11_findMovers_62 rfl rfl rfl ?_
        refine z_dup (q := 64) dX11_findMovers_63 rfl rfl ?_
        refine z_nameH (fun h32 eh33 => ?_)
        have hF := hF h32 eh33
        obtain ⟨g34, hF⟩ := hF
        refine z_getI (c := 11) (k := 24) (r := (RX11, TX11, 54)) (q := 67) dX11_findMovers_64 rfl (by decide) fl_X11_255 rfl g34 rfl ?_
        refine z_iconst (q := 68) (v := 1) dX11_findMovers_67 (by decide) rfl ?_
        refine z_iadd (q := 69) dX11_findMovers_68 rfl ?_
        refine z_putI (c := 11) (k := 24) (r := (RX11, TX11, 54)) (q := 72) dX11_findMovers_69 rfl (by decide) fl_X11_255 rfl rfl g34 rfl ?_
        refine z_iinc (q := 75) (v := (l2 + 1)) (L' := [some (.ref l0), some (.int l1), some (.int (l2 + 1)), none, none]) dX11_findMovers_72 rfl rfl (Nat.le_of_ble_eq_true rfl) rfl rfl rfl ?_
        refine z_goto (q := 12) dX11_findMovers_75 (by decide) ?_
        exact hF
      · have hF := hF.2 hc
        refine z_aload_n (q := 40) dX11_findMovers_39 rfl rfl rfl ?_
        refine z_dup (q := 41) dX11_findMovers_40 rfl rfl ?_
        obtain ⟨g35, hF⟩ := hF
        refine z_getI (c := 11) (k := 25) (r := (RX11, TX11, 54)) (q := 44) dX11_findMovers_41 rfl (by decide) fl_X11_258 rfl g35 rfl ?_
        refine z_iconst (q := 45) (v := 1) dX11_findMovers_44 (by decide) rfl ?_
        refine z_iadd (q := 46) dX11_findMovers_45 rfl ?_
        refine z_putI (c := 11) (k := 25) (r := (RX11, TX11, 54)) (q := 49) dX11_findMovers_46 rfl (by decide) fl_X11_258 rfl rfl g35 rfl ?_
        refine z_goto (q := 72) dX11_findMovers_49 (by decide) ?_
        refine z_iinc (q := 75) (v := (l2 + 1)) (L' := [some (.ref l0), some (.int l1), some (.int (l2 + 1)), none, none]) dX11_findMovers_72 rfl rfl (Nat.le_of_ble_eq_true rfl) rfl rfl rfl ?_
        refine z_goto (q := 12) dX11_findMovers_75 (by decide) ?_
        exact hF
set_option maxRecDepth 100000 in
set_option maxHeartbeats 4000000 in
theorem wX11_findMovers {ψ : ZH → Prop} {l0 : Nat} {l1 : Int32} {h : ZH} (hF : (zK h l0 = 12) ∧ Zt mX11_findMovers (zPV ψ) 0 0 12 [some (.ref l0), some (.int l1), some (.int 0), none, none] [] (zsI (zsI h l0 24 0) l0 25 0)) : ZcV mX11_findMovers [.ref l0, .int l1] h ψ := by
  refine Zc.intro (L := [some (.ref l0), some (.int l1), none, none, none]) (show plainName RX11 = true by decide) rfl (Nat.le_of_ble_eq_true rfl) ?_
  show Zt _ _ 0 0 _ _ _ _
  refine z_aload_n (q := 1) dX11_findMovers_0 rfl rfl rfl ?_
  refine z_iconst (q := 2) (v := 0) dX11_findMovers_1 (by decide) rfl ?_
  obtain ⟨g36, hF⟩ := hF
  refine z_putI (c := 11) (k := 24) (r := (RX11, TX11, 54)) (q := 5) dX11_findMovers_2 rfl (by decide) fl_X11_255 rfl rfl g36 rfl ?_
  refine z_aload_n (q := 6) dX11_findMovers_5 rfl rfl rfl ?_
  refine z_iconst (q := 7) (v := 0) dX11_findMovers_6 (by decide) rfl ?_
  refine z_putI (c := 11) (k := 25) (r := (RX11, TX11, 54)) (q := 10) dX11_findMovers_7 rfl (by decide) fl_X11_258 rfl rfl g36 rfl ?_
  refine z_iconst (q := 11) (v := 0) dX11_findMovers_10 (by decide) rfl ?_
  refine z_istore_n (q := 12) (L' := [some (.ref l0), some (.int l1), some (.int 0), none, none]) dX11_findMovers_11 rfl (Nat.le_of_ble_eq_true rfl) rfl rfl rfl ?_
  exact hF
set_option maxRecDepth 100000 in
set_option maxHeartbeats 4000000 in
theorem wX11_byslot_43 {ψ : Int32 → ZH → Prop} {l0 : Nat} {l1 : Int32} {l2 : Int32} {l3 : Int32} {l4 : Int32} {l5 : Int32} {s0 : Int32} {h : ZH} (hF : ((((l2 >>> (l3 &&& 31)) &&& 1) = 1 → ψ 1000000000 h) ∧ (¬ ((l2 >>> (l3 &&& 31)) &&& 1) = 1 → (zK h l0 = 12) ∧ ((zR h l0 27) ≠ 0) ∧ (zK h (zR h l0 27) = 20) ∧ (vp_in l3 (zN h (zR h l0 27))) ∧ ((zR h l0 11) ≠ 0) ∧ (zK h (zR h l0 11) = 20) ∧ (vp_in l4 (zN h (zR h l0 11))) ∧ ((¬ (zI h (zR h l0 27) (Int32.toNatClampNeg l3)) = (zI h (zR h l0 11) (Int32.toNatClampNeg l4)) → ψ 1000000000 h) ∧ ((zI h (zR h l0 27) (Int32.toNatClampNeg l3)) = (zI h (zR h l0 11) (Int32.toNatClampNeg l4)) → ((s0 = 0 → ((zR h l0 29) ≠ 0) ∧ (zK h (zR h l0 29) = 20) ∧ (vp_in ((4096 * (l1 + 1)) + (l2 ||| ((1 : Int32) <<< (l3 &&& 31)))) (zN h (zR h l0 29))) ∧ ((s0 = 0 → ψ (((zI h (zR h l0 29) (Int32.toNatClampNeg ((4096 * (l1 + 1)) + (l2 ||| ((1 : Int32) <<< (l3 &&& 31)))))) + l5) + 0) h) ∧ (¬ s0 = 0 → ψ (((zI h (zR h l0 29) (Int32.toNatClampNeg ((4096 * (l1 + 1)) + (l2 ||| ((1 : Int32) <<< (l3 &&& 31)))))) + l5) + 100000) h))) ∧ (¬ s0 = 0 → ((zR h l0 31) ≠ 0) ∧ (zK h (zR h l0 31) = 21) ∧ (vp_in l1 (zN h (zR h l0 31))) ∧ (((zI h (zR h l0 31) (Int32.toNatClampNeg l1)) = 0 → ((zR h l0 29) ≠ 0) ∧ (zK h (zR h l0 29) = 20) ∧ (vp_in ((4096 * (l1 + 1)) + (l2 ||| ((1 : Int32) <<< (l3 &&& 31)))) (zN h (zR h l0 29))) ∧ ((s0 = 0 → ψ (((zI h (zR h l0 29) (Int32.toNatClampNeg ((4096 * (l1 + 1)) + (l2 ||| ((1 : Int32) <<< (l3 &&& 31)))))) + l5) + 0) h) ∧ (¬ s0 = 0 → ψ (((zI h (zR h l0 29) (Int32.toNatClampNeg ((4096 * (l1 + 1)) + (l2 ||| ((1 : Int32) <<< (l3 &&& 31)))))) + l5) + 100000) h))) ∧ (¬ (zI h (zR h l0 31) (Int32.toNatClampNeg l1)) = 0 → ψ 1000000000 h))))))))) : Zt mX11_byslot (zPI ψ) 0 0 43 [some (.ref l0), some (.int l1), some (.int l2), some (.int l3), some (.int l4), some (.int l5), none] [.int s0] h := by
  refine z_istore (q := 45) (L' := [some (.ref l0), some (.int l1), some (.int l2), some (.int l3), some (.int l4), some (.int l5), some (.int s0)]) dX11_byslot_43 (Nat.le_of_ble_eq_true rfl) rfl rfl rfl ?_
  refine z_iload_n (q := 46) dX11_byslot_45 rfl rfl rfl ?_
  refine z_iload_n (q := 47) dX11_byslot_46 rfl rfl rfl ?_
  refine z_ishr (q := 48) dX11_byslot_47 rfl ?_
  refine z_iconst (q := 49) (v := 1) dX11_byslot_48 (by decide) rfl ?_
  refine z_iand (q := 50) dX11_byslot_49 rfl ?_
  refine z_iconst (q := 51) (v := 1) dX11_byslot_50 (by decide) rfl ?_
  refine z_icmp_eq (t := 84) (q := 54) dX11_byslot_51 (by decide) rfl (fun hc => ?_) (fun hc => ?_)
  · have hF := hF.1 hc
    refine z_ldcw (q := 87) (v := 1000000000) dX11_byslot_84 cw_X11_267 rfl ?_
    exact z_ireturn dX11_byslot_87 rfl ⟨_, rfl, hF⟩
  · have hF := hF.2 hc
    refine z_aload_n (q := 55) dX11_byslot_54 rfl rfl rfl ?_
    obtain ⟨g1, hF⟩ := hF
    obtain ⟨g2, hF⟩ := hF
    refine z_getR (c := 11) (k := 27) (r := (RX11, TX11, 54)) (q := 58) dX11_byslot_55 rfl (by decide) fl_X11_77 rfl g1 g2 rfl ?_
    refine z_iload_n (q := 59) dX11_byslot_58 rfl rfl rfl ?_
    obtain ⟨g3, hF⟩ := hF
    obtain ⟨g4, hF⟩ := hF
    refine y_iald (j := (Int32.toNatClampNeg l3)) (q := 60) dX11_byslot_59 (Or.inl g3) g4 rfl rfl ?_
    refine z_aload_n (q := 61) dX11_byslot_60 rfl rfl rfl ?_
    obtain ⟨g5, hF⟩ := hF
    refine z_getR (c := 11) (k := 11) (r := (RX11, TX11, 54)) (q := 64) dX11_byslot_61 rfl (by decide) fl_X11_41 rfl g1 g5 rfl ?_
    refine z_iload (q := 66) dX11_byslot_64 rfl rfl ?_
    obtain ⟨g6, hF⟩ := hF
    obtain ⟨g7, hF⟩ := hF
    refine y_iald (j := (Int32.toNatClampNeg l4)) (q := 67) dX11_byslot_66 (Or.inl g6) g7 rfl rfl ?_
    refine z_icmp_ne (t := 84) (q := 70) dX11_byslot_67 (by decide) rfl (fun hc => ?_) (fun hc => ?_)
    · have hF := hF.1 hc
      refine z_ldcw (q := 87) (v := 1000000000) dX11_byslot_84 cw_X11_267 rfl ?_
      exact z_ireturn dX11_byslot_87 rfl ⟨_, rfl, hF⟩
    · have hF := hF.2 hc
      refine z_iload (q := 72) dX11_byslot_70 rfl rfl ?_
      refine z_if_eq (t := 88) (q := 75) dX11_byslot_72 (by decide) rfl (fun hc => ?_) (fun hc => ?_)
      · have hF := hF.1 hc
        refine z_aload_n (q := 89) dX11_byslot_88 rfl rfl rfl ?_
        obtain ⟨g8, hF⟩ := hF
        refine z_getR (c := 11) (k := 29) (r := (RX11, TX11, 54)) (q := 92) dX11_byslot_89 rfl (by decide) fl_X11_81 rfl g1 g8 rfl ?_
        refine z_sipush (q := 95) (v := 4096) dX11_byslot_92 (by decide) rfl ?_
        refine z_iload_n (q := 96) dX11_byslot_95 rfl rfl rfl ?_
        refine z_iconst (q := 97) (v := 1) dX11_byslot_96 (by decide) rfl ?_
        refine z_iadd (q := 98) dX11_byslot_97 rfl ?_
        refine z_imul (q := 99) dX11_byslot_98 rfl ?_
        refine z_iload_n (q := 100) dX11_byslot_99 rfl rfl rfl ?_
        refine z_iconst (q := 101) (v := 1) dX11_byslot_100 (by decide) rfl ?_
        refine z_iload_n (q := 102) dX11_byslot_101 rfl rfl rfl ?_
        refine z_ishl (q := 103) dX11_byslot_102 rfl ?_
        refine z_ior (q := 104) dX11_byslot_103 rfl ?_
        refine z_iadd (q := 105) dX11_byslot_104 rfl ?_
        obtain ⟨g9, hF⟩ := hF
        obtain ⟨g10, hF⟩ := hF
        refine y_iald (j := (Int32.toNatClampNeg ((4096 * (l1 + 1)) + (l2 ||| ((1 : Int32) <<< (l3 &&& 31)))))) (q := 106) dX11_byslot_105 (Or.inl g9) g10 rfl rfl ?_
        refine z_iload (q := 108) dX11_byslot_106 rfl rfl ?_
        refine z_iadd (q := 109) dX11_byslot_108 rfl ?_
        refine z_iload (q := 111) dX11_byslot_109 rfl rfl ?_
        refine z_if_eq (t := 120) (q := 114) dX11_byslot_111 (by decide) rfl (fun hc => ?_) (fun hc => ?_)
        · have hF := hF.1 hc
          refine z_iconst (q := 121) (v := 0) dX11_byslot_120 (by decide) rfl ?_
          refine z_iadd (q := 122) dX11_byslot_121 rfl ?_
          exact z_ireturn dX11_byslot_122 rfl ⟨_, rfl, hF⟩
        · have hF := hF.2 hc
          refine z_ldcw (q := 117) (v := 100000) dX11_byslot_114 cw_X11_268 rfl ?_
          refine z_goto (q := 121) dX11_byslot_117 (by decide) ?_
          refine z_iadd (q := 122) dX11_byslot_121 rfl ?_
          exact z_ireturn dX11_byslot_122 rfl ⟨_, rfl, hF⟩
      · have hF := hF.2 hc
        refine z_aload_n (q := 76) dX11_byslot_75 rfl rfl rfl ?_
        obtain ⟨g11, hF⟩ := hF
        refine z_getR (c := 11) (k := 31) (r := (RX11, TX11, 54)) (q := 79) dX11_byslot_76 rfl (by decide) fl_X11_87 rfl g1 g11 rfl ?_
        refine z_iload_n (q := 80) dX11_byslot_79 rfl rfl rfl ?_
        obtain ⟨g12, hF⟩ := hF
        obtain ⟨g13, hF⟩ := hF
        refine y_bald (j := (Int32.toNatClampNeg l1)) (q := 81) dX11_byslot_80 g12 g13 rfl rfl ?_
        refine z_if_eq (t := 88) (q := 84) dX11_byslot_81 (by decide) rfl (fun hc => ?_) (fun hc => ?_)
        · have hF := hF.1 hc
          refine z_aload_n (q := 89) dX11_byslot_88 rfl rfl rfl ?_
          obtain ⟨g14, hF⟩ := hF
          refine z_getR (c := 11) (k := 29) (r := (RX11, TX11, 54)) (q := 92) dX11_byslot_89 rfl (by decide) fl_X11_81 rfl g1 g14 rfl ?_
          refine z_sipush (q := 95) (v := 4096) dX11_byslot_92 (by decide) rfl ?_
          refine z_iload_n (q := 96) dX11_byslot_95 rfl rfl rfl ?_
          refine z_iconst (q := 97) (v := 1) dX11_byslot_96 (by decide) rfl ?_
          refine z_iadd (q := 98) dX11_byslot_97 rfl ?_
          refine z_imul (q := 99) dX11_byslot_98 rfl ?_
          refine z_iload_n (q := 100) dX11_byslot_99 rfl rfl rfl ?_
          refine z_iconst (q := 101) (v := 1) dX11_byslot_100 (by decide) rfl ?_
          refine z_iload_n (q := 102) dX11_byslot_101 rfl rfl rfl ?_
          refine z_ishl (q := 103) dX11_byslot_102 rfl ?_
          refine z_ior (q := 104) dX11_byslot_103 rfl ?_
          refine z_iadd (q := 105) dX11_byslot_104 rfl ?_
          obtain ⟨g15, hF⟩ := hF
          obtain ⟨g16, hF⟩ := hF
          refine y_iald (j := (Int32.toNatClampNeg ((4096 * (l1 + 1)) + (l2 ||| ((1 : Int32) <<< (l3 &&& 31)))))) (q := 106) dX11_byslot_105 (Or.inl g15) g16 rfl rfl ?_
          refine z_iload (q := 108) dX11_byslot_106 rfl rfl ?_
          refine z_iadd (q := 109) dX11_byslot_108 rfl ?_
          refine z_iload (q := 111) dX11_byslot_109 rfl rfl ?_
          refine z_if_eq (t := 120) (q := 114) dX11_byslot_111 (by decide) rfl (fun hc => ?_) (fun hc => ?_)
          · have hF := hF.1 hc
            refine z_iconst (q := 121) (v := 0) dX11_byslot_120 (by decide) rfl ?_
            refine z_iadd (q := 122) dX11_byslot_121 rfl ?_
            exact z_ireturn dX11_byslot_122 rfl ⟨_, rfl, hF⟩
          · have hF := hF.2 hc
            refine z_ldcw (q := 117) (v := 100000) dX11_byslot_114 cw_X11_268 rfl ?_
            refine z_goto (q := 121) dX11_byslot_117 (by decide) ?_
            refine z_iadd (q := 122) dX11_byslot_121 rfl ?_
            exact z_ireturn dX11_byslot_122 rfl ⟨_, rfl, hF⟩
        · have hF := hF.2 hc
          refine z_ldcw (q := 87) (v := 1000000000) dX11_byslot_84 cw_X11_267 rfl ?_
          exact z_ireturn dX11_byslot_87 rfl ⟨_, rfl, hF⟩
set_option maxRecDepth 100000 in
set_option maxHeartbeats 4000000 in
theorem wX11_byslot {ψ : Int32 → ZH → Prop} {l0 : Nat} {l1 : Int32} {l2 : Int32} {l3 : Int32} {h : ZH} (hF : (zK h l0 = 12) ∧ ((zR h l0 23) ≠ 0) ∧ (zK h (zR h l0 23) = 20) ∧ (vp_in l1 (zN h (zR h l0 23))) ∧ ∀ v21 : Int32, v21 = (zI h (zR h l0 23) (Int32.toNatClampNeg l1)) → ((zR h l0 13) ≠ 0) ∧ (zK h (zR h l0 13) = 20) ∧ (vp_in v21 (zN h (zR h l0 13))) ∧ ((zR h l0 26) ≠ 0) ∧ (zK h (zR h l0 26) = 20) ∧ (vp_in l3 (zN h (zR h l0 26))) ∧ ZcI mX11_farTo [.ref l0, .int (zI h (zR h l0 13) (Int32.toNatClampNeg v21)), .int (zI h (zR h l0 26) (Int32.toNatClampNeg l3))] h (fun x30 h29 => (zK h29 l0 = 12) ∧ ((zR h29 l0 18) ≠ 0) ∧ (zK h29 (zR h29 l0 18) = 20) ∧ (1 < zN h29 (zR h29 l0 18)) ∧ ((x30 ≤ (zI h29 (zR h29 l0 18) 1) → Zt mX11_byslot (zPI ψ) 0 0 43 [some (.ref l0), some (.int l1), some (.int l2), some (.int l3), some (.int v21), some (.int x30), none] [.int 0] h29) ∧ (¬ x30 ≤ (zI h29 (zR h29 l0 18) 1) → Zt mX11_byslot (zPI ψ) 0 0 43 [some (.ref l0), some (.int l1), some (.int l2), some (.int l3), some (.int v21), some (.int x30), none] [.int 1] h29)))) : ZcI mX11_byslot [.ref l0, .int l1, .int l2, .int l3] h ψ := by
  refine Zc.intro (L := [some (.ref l0), some (.int l1), some (.int l2), some (.int l3), none, none, none]) (show plainName RX11 = true by decide) rfl (Nat.le_of_ble_eq_true rfl) ?_
  show Zt _ _ 0 0 _ _ _ _
  refine z_aload_n (q := 1) dX11_byslot_0 rfl rfl rfl ?_
  obtain ⟨g17, hF⟩ := hF
  obtain ⟨g18, hF⟩ := hF
  refine z_getR (c := 11) (k := 23) (r := (RX11, TX11, 54)) (q := 4) dX11_byslot_1 rfl (by decide) fl_X11_71 rfl g17 g18 rfl ?_
  refine z_iload_n (q := 5) dX11_byslot_4 rfl rfl rfl ?_
  obtain ⟨g19, hF⟩ := hF
  obtain ⟨g20, hF⟩ := hF
  refine y_iald (j := (Int32.toNatClampNeg l1)) (q := 6) dX11_byslot_5 (Or.inl g19) g20 rfl rfl ?_
  refine z_nameI (fun v21 ev22 => ?_)
  have hF := hF v21 ev22
  refine z_istore (q := 8) (L' := [some (.ref l0), some (.int l1), some (.int l2), some (.int l3), some (.int v21), none, none]) dX11_byslot_6 (Nat.le_of_ble_eq_true rfl) rfl rfl rfl ?_
  refine z_aload_n (q := 9) dX11_byslot_8 rfl rfl rfl ?_
  refine z_aload_n (q := 10) dX11_byslot_9 rfl rfl rfl ?_
  obtain ⟨g23, hF⟩ := hF
  refine z_getR (c := 11) (k := 13) (r := (RX11, TX11, 54)) (q := 13) dX11_byslot_10 rfl (by decide) fl_X11_47 rfl g17 g23 rfl ?_
  refine z_iload (q := 15) dX11_byslot_13 rfl rfl ?_
  obtain ⟨g24, hF⟩ := hF
  obtain ⟨g25, hF⟩ := hF
  refine y_iald (j := (Int32.toNatClampNeg v21)) (q := 16) dX11_byslot_15 (Or.inl g24) g25 rfl rfl ?_
  refine z_aload_n (q := 17) dX11_byslot_16 rfl rfl rfl ?_
  obtain ⟨g26, hF⟩ := hF
  refine z_getR (c := 11) (k := 26) (r := (RX11, TX11, 54)) (q := 20) dX11_byslot_17 rfl (by decide) fl_X11_74 rfl g17 g26 rfl ?_
  refine z_iload_n (q := 21) dX11_byslot_20 rfl rfl rfl ?_
  obtain ⟨g27, hF⟩ := hF
  obtain ⟨g28, hF⟩ := hF
  refine y_iald (j := (Int32.toNatClampNeg l3)) (q := 22) dX11_byslot_21 (Or.inl g27) g28 rfl rfl ?_
  refine z_callVI (rc := 0) (rs := 0) (b := l0) (av := [.int (zI h (zR h l0 13) (Int32.toNatClampNeg v21)), .int (zI h (zR h l0 26) (Int32.toNatClampNeg l3))]) (ci := 11) (r := (RX11, TX11, 54)) (q := 25) hF dX11_byslot_22 ml_X11_225 ok_X11_farTo in_X11_farTo se_X11_farTo rfl rfl g17 rfl (Nat.le_of_ble_eq_true rfl) (by decide) (Nat.le_of_ble_eq_true rfl) rfl rfl rfl rfl (fun x30 h29 hF => ?_)
  refine z_istore (q := 27) (L' := [some (.ref l0), some (.int l1), some (.int l2), some (.int l3), some (.int v21), some (.int x30), none]) dX11_byslot_25 (Nat.le_of_ble_eq_true rfl) rfl rfl rfl ?_
  refine z_iload (q := 29) dX11_byslot_27 rfl rfl ?_
  refine z_aload_n (q := 30) dX11_byslot_29 rfl rfl rfl ?_
  obtain ⟨g31, hF⟩ := hF
  obtain ⟨g32, hF⟩ := hF
  refine z_getR (c := 11) (k := 18) (r := (RX11, TX11, 54)) (q := 33) dX11_byslot_30 rfl (by decide) fl_X11_59 rfl g31 g32 rfl ?_
  refine z_iconst (q := 34) (v := 1) dX11_byslot_33 (by decide) rfl ?_
  obtain ⟨g33, hF⟩ := hF
  obtain ⟨g34, hF⟩ := hF
  refine y_iald (j := 1) (q := 35) dX11_byslot_34 (Or.inl g33) (zvin (by decide) (by decide) g34) (by decide) rfl ?_
  refine z_icmp_le (t := 42) (q := 38) dX11_byslot_35 (by decide) rfl (fun hc => ?_) (fun hc => ?_)
  · have hF := hF.1 hc
    refine z_iconst (q := 43) (v := 0) dX11_byslot_42 (by decide) rfl ?_
    exact hF
  · have hF := hF.2 hc
    refine z_iconst (q := 39) (v := 1) dX11_byslot_38 (by decide) rfl ?_
    refine z_goto (q := 43) dX11_byslot_39 (by decide) ?_
    exact hF
set_option maxRecDepth 100000 in
set_option maxHeartbeats 4000000 in
theorem wX11_findMove_218 {ψ : ZH → Prop} {l0 : Nat} {l2 : Int32} {l3 : Int32} {l4 : Int32} {h : ZH} (hF : (zK h l0 = 12) ∧ (((zI h l0 28) ≤ l4 → ((zR h l0 30) ≠ 0) ∧ (zK h (zR h l0 30) = 20) ∧ (vp_in l3 (zN h (zR h l0 30))) ∧ ((0 ≤ (zI h (zR h l0 30) (Int32.toNatClampNeg l3)) → ∀ v5 : Int32, v5 = (l2 ||| ((1 : Int32) <<< ((zI h (zR h l0 30) (Int32.toNatClampNeg l3)) &&& 31))) → Zt mX11_findMove (zPV ψ) 0 0 199 [some (.ref l0), none, some (.int v5), some (.int (l3 + 1)), none, none, none] [] h) ∧ (¬ 0 ≤ (zI h (zR h l0 30) (Int32.toNatClampNeg l3)) → Zt mX11_findMove (zPV ψ) 0 0 199 [some (.ref l0), none, some (.int (l2 ||| 0)), some (.int (l3 + 1)), none, none, none] [] h))) ∧ (¬ (zI h l0 28) ≤ l4 → ((zR h l0 30) ≠ 0) ∧ (zK h (zR h l0 30) = 20) ∧ (vp_in l3 (zN h (zR h l0 30))) ∧ ((0 ≤ (zI h (zR h l0 30) (Int32.toNatClampNeg l3)) → ((0 ≤ (zI h (zR h l0 30) (Int32.toNatClampNeg l3)) → ∀ v10 : Int32, v10 = (l2 ||| ((1 : Int32) <<< ((zI h (zR h l0 30) (Int32.toNatClampNeg l3)) &&& 31))) → Zt mX11_findMove (zPV ψ) 0 0 199 [some (.ref l0), none, some (.int v10), some (.int (l3 + 1)), none, none, none] [] h) ∧ (¬ 0 ≤ (zI h (zR h l0 30) (Int32.toNatClampNeg l3)) → Zt mX11_findMove (zPV ψ) 0 0 199 [some (.ref l0), none, some (.int (l2 ||| 0)), some (.int (l3 + 1)), none, none, none] [] h))) ∧ (¬ 0 ≤ (zI h (zR h l0 30) (Int32.toNatClampNeg l3)) → ZcI mX11_byslot [.ref l0, .int l3, .int l2, .int l4] h (fun x13 h12 => (zK h12 l0 = 12) ∧ ((zR h12 l0 29) ≠ 0) ∧ (zK h12 (zR h12 l0 29) = 20) ∧ (vp_in ((4096 * l3) + l2) (zN h12 (zR h12 l0 29))) ∧ ((¬ x13 = (zI h12 (zR h12 l0 29) (Int32.toNatClampNeg ((4096 * l3) + l2))) → (zK h12 (zR h l0 30) = 20) ∧ (vp_in l3 (zN h12 (zR h l0 30))) ∧ Zt mX11_findMove (zPV ψ) 0 0 218 [some (.ref l0), none, some (.int l2), some (.int l3), some (.int (l4 + 1)), none, none] [] (zsI h12 (zR h l0 30) (Int32.toNatClampNeg l3) (-6))) ∧ (x13 = (zI h12 (zR h12 l0 29) (Int32.toNatClampNeg ((4096 * l3) + l2))) → (zK h12 (zR h l0 30) = 20) ∧ (vp_in l3 (zN h12 (zR h l0 30))) ∧ Zt mX11_findMove (zPV ψ) 0 0 218 [some (.ref l0), none, some (.int l2), some (.int l3), some (.int (l4 + 1)), none, none] [] (zsI h12 (zR h l0 30) (Int32.toNatClampNeg l3) l4))))))))) : Zt mX11_findMove (zPV ψ) 0 0 218 [some (.ref l0), none, some (.int l2), some (.int l3), some (.int l4), none, none] [] h := by
  refine z_iload (q := 220) dX11_findMove_218 rfl rfl ?_
  refine z_aload_n (q := 221) dX11_findMove_220 rfl rfl rfl ?_
  obtain ⟨g1, hF⟩ := hF
  refine z_getI (c := 11) (k := 28) (r := (RX11, TX11, 54)) (q := 224) dX11_findMove_221 rfl (by decide) fl_X11_264 rfl g1 rfl ?_
  refine z_icmp_ge (t := 278) (q := 227) dX11_findMove_224 (by decide) rfl (fun hc => ?_) (fun hc => ?_)
  · have hF := hF.1 hc
    refine z_iload_n (q := 279) dX11_findMove_278 rfl rfl rfl ?_
    refine z_aload_n (q := 280) dX11_findMove_279 rfl rfl rfl ?_
    obtain ⟨g2, hF⟩ := hF
    refine z_getR (c := 11) (k := 30) (r := (RX11, TX11, 54)) (q := 283) dX11_findMove_280 rfl (by decide) fl_X11_84 rfl g1 g2 rfl ?_
    refine z_iload_n (q := 284) dX11_findMove_283 rfl rfl rfl ?_
    obtain ⟨g3, hF⟩ := hF
    obtain ⟨g4, hF⟩ := hF
    refine y_iald (j := (Int32.toNatClampNeg l3)) (q := 285) dX11_findMove_284 (Or.inl g3) g4 rfl rfl ?_
    refine z_if_ge (t := 292) (q := 288) dX11_findMove_285 (by decide) rfl (fun hc => ?_) (fun hc => ?_)
    · have hF := hF.1 hc
      refine z_iconst (q := 293) (v := 1) dX11_findMove_292 (by decide) rfl ?_
      refine z_aload_n (q := 294) dX11_findMove_293 rfl rfl rfl ?_
      refine z_getR (c := 11) (k := 30) (r := (RX11, TX11, 54)) (q := 297) dX11_findMove_294 rfl (by decide) fl_X11_84 rfl g1 g2 rfl ?_
      refine z_iload_n (q := 298) dX11_findMove_297 rfl rfl rfl ?_
      refine y_iald (j := (Int32.toNatClampNeg l3)) (q := 299) dX11_findMove_298 (Or.inl g3) g4 rfl rfl ?_
      refine z_ishl (q := 300) dX11_findMove_299 rfl ?_
      refine z_ior (q := 301) dX11_findMove_300 rfl ?_
      refine z_nameI (fun v5 ev6 => ?_)
      have hF := hF v5 ev6
      refine z_istore_n (q := 302) (L' := [some (.ref l0), none, some (.int v5), some (.int l3), some (.int l4), none, none]) dX11_findMove_301 rfl (Nat.le_of_ble_eq_true rfl) rfl rfl rfl ?_
      refine z_iinc (q := 305) (v := (l3 + 1)) (L' := [some (.ref l0), none, some (.int v5), some (.int (l3 + 1)), some (.int l4), none, none]) dX11_findMove_302 rfl rfl (Nat.le_of_ble_eq_true rfl) rfl rfl rfl ?_
      refine z_goto (q := 199) dX11_findMove_305 (by decide) ?_
      refine Zt.drop (i := 4) (L' := [some (.ref l0), none, some (.int v5), some (.int (l3 + 1)), none, none, none]) rfl ?_
      exact hF
    · have hF := hF.2 hc
      refine z_iconst (q := 289) (v := 0) dX11_findMove_288 (by decide) rfl ?_
      refine z_goto (q := 300) dX11_findMove_289 (by decide) ?_
      refine z_ior (q := 301) dX11_findMove_300 rfl ?_
      refine z_istore_n (q := 302) (L' := [some (.ref l0), none, some (.int (l2 ||| 0)), some (.int l3), some (.int l4), none, none]) dX11_findMove_301 rfl (Nat.le_of_ble_eq_true rfl) rfl rfl rfl ?_
      refine z_iinc (q := 305) (v := (l3 + 1)) (L' := [some (.ref l0), none, some (.int (l2 ||| 0)), some (.int (l3 + 1)), some (.int l4), none, none]) dX11_findMove_302 rfl rfl (Nat.le_of_ble_eq_true rfl) rfl rfl rfl ?_
      refine z_goto (q := 199) dX11_findMove_305 (by decide) ?_
      refine Zt.drop (i := 4) (L' := [some (.ref l0), none, some (.int (l2 ||| 0)), some (.int (l3 + 1)), none, none, none]) rfl ?_
      exact hF
  · have hF := hF.2 hc
    refine z_aload_n (q := 228) dX11_findMove_227 rfl rfl rfl ?_
    obtain ⟨g7, hF⟩ := hF
    refine z_getR (c := 11) (k := 30) (r := (RX11, TX11, 54)) (q := 231) dX11_findMove_228 rfl (by decide) fl_X11_84 rfl g1 g7 rfl ?_
    refine z_iload_n (q := 232) dX11_findMove_231 rfl rfl rfl ?_
    obtain ⟨g8, hF⟩ := hF
    obtain ⟨g9, hF⟩ := hF
    refine y_iald (j := (Int32.toNatClampNeg l3)) (q := 233) dX11_findMove_232 (Or.inl g8) g9 rfl rfl ?_
    refine z_if_ge (t := 278) (q := 236) dX11_findMove_233 (by decide) rfl (fun hc => ?_) (fun hc => ?_)
    · have hF := hF.1 hc
      refine z_iload_n (q := 279) dX11_findMove_278 rfl rfl rfl ?_
      refine z_aload_n (q := 280) dX11_findMove_279 rfl rfl rfl ?_
      refine z_getR (c := 11) (k := 30) (r := (RX11, TX11, 54)) (q := 283) dX11_findMove_280 rfl (by decide) fl_X11_84 rfl g1 g7 rfl ?_
      refine z_iload_n (q := 284) dX11_findMove_283 rfl rfl rfl ?_
      refine y_iald (j := (Int32.toNatClampNeg l3)) (q := 285) dX11_findMove_284 (Or.inl g8) g9 rfl rfl ?_
      refine z_if_ge (t := 292) (q := 288) dX11_findMove_285 (by decide) rfl (fun hc => ?_) (fun hc => ?_)
      · have hF := hF.1 hc
        refine z_iconst (q := 293) (v := 1) dX11_findMove_292 (by decide) rfl ?_
        refine z_aload_n (q := 294) dX11_findMove_293 rfl rfl rfl ?_
        refine z_getR (c := 11) (k := 30) (r := (RX11, TX11, 54)) (q := 297) dX11_findMove_294 rfl (by decide) fl_X11_84 rfl g1 g7 rfl ?_
        refine z_iload_n (q := 298) dX11_findMove_297 rfl rfl rfl ?_
        refine y_iald (j := (Int32.toNatClampNeg l3)) (q := 299) dX11_findMove_298 (Or.inl g8) g9 rfl rfl ?_
        refine z_ishl (q := 300) dX11_findMove_299 rfl ?_
        refine z_ior (q := 301) dX11_findMove_300 rfl ?_
        refine z_nameI (fun v10 ev11 => ?_)
        have hF := hF v10 ev11
        refine z_istore_n (q := 302) (L' := [some (.ref l0), none, some (.int v10), some (.int l3), some (.int l4), none, none]) dX11_findMove_301 rfl (Nat.le_of_ble_eq_true rfl) rfl rfl rfl ?_
        refine z_iinc (q := 305) (v := (l3 + 1)) (L' := [some (.ref l0), none, some (.int v10), some (.int (l3 + 1)), some (.int l4), none, none]) dX11_findMove_302 rfl rfl (Nat.le_of_ble_eq_true rfl) rfl rfl rfl ?_
        refine z_goto (q := 199) dX11_findMove_305 (by decide) ?_
        refine Zt.drop (i := 4) (L' := [some (.ref l0), none, some (.int v10), some (.int (l3 + 1)), none, none, none]) rfl ?_
        exact hF
      · have hF := hF.2 hc
        refine z_iconst (q := 289) (v := 0) dX11_findMove_288 (by decide) rfl ?_
        refine z_goto (q := 300) dX11_findMove_289 (by decide) ?_
        refine z_ior (q := 301) dX11_findMove_300 rfl ?_
        refine z_istore_n (q := 302) (L' := [some (.ref l0), none, some (.int (l2 ||| 0)), some (.int l3), some (.int l4), none, none]) dX11_findMove_301 rfl (Nat.le_of_ble_eq_true rfl) rfl rfl rfl ?_
        refine z_iinc (q := 305) (v := (l3 + 1)) (L' := [some (.ref l0), none, some (.int (l2 ||| 0)), some (.int (l3 + 1)), some (.int l4), none, none]) dX11_findMove_302 rfl rfl (Nat.le_of_ble_eq_true rfl) rfl rfl rfl ?_
        refine z_goto (q := 199) dX11_findMove_305 (by decide) ?_
        refine Zt.drop (i := 4) (L' := [some (.ref l0), none, some (.int (l2 ||| 0)), some (.int (l3 + 1)), none, none, none]) rfl ?_
        exact hF
    · have hF := hF.2 hc
      refine z_aload_n (q := 237) dX11_findMove_236 rfl rfl rfl ?_
      refine z_getR (c := 11) (k := 30) (r := (RX11, TX11, 54)) (q := 240) dX11_findMove_237 rfl (by decide) fl_X11_84 rfl g1 g7 rfl ?_
      refine z_iload_n (q := 241) dX11_findMove_240 rfl rfl rfl ?_
      refine z_aload_n (q := 242) dX11_findMove_241 rfl rfl rfl ?_
      refine z_iload_n (q := 243) dX11_findMove_242 rfl rfl rfl ?_
      refine z_iload_n (q := 244) dX11_findMove_243 rfl rfl rfl ?_
      refine z_iload (q := 246) dX11_findMove_244 rfl rfl ?_
      refine z_callVI (rc := 0) (rs := 0) (b := l0) (av := [.int l3, .int l2, .int l4]) (ci := 11) (r := (RX11, TX11, 54)) (q := 249) hF dX11_findMove_246 ml_X11_274 ok_X11_byslot in_X11_byslot se_X11_byslot rfl rfl g1 rfl (Nat.le_of_ble_eq_true rfl) (by decide) (Nat.le_of_ble_eq_true rfl) rfl rfl rfl rfl (fun x13 h12 hF => ?_)
      refine z_aload_n (q := 250) dX11_findMove_249 rfl rfl rfl ?_
      obtain ⟨g14, hF⟩ := hF
      obtain ⟨g15, hF⟩ := hF
      refine z_getR (c := 11) (k := 29) (r := (RX11, TX11, 54)) (q := 253) dX11_findMove_250 rfl (by decide) fl_X11_81 rfl g14 g15 rfl ?_
      refine z_sipush (q := 256) (v := 4096) dX11_findMove_253 (by decide) rfl ?_
      refine z_iload_n (q := 257) dX11_findMove_256 rfl rfl rfl ?_
      refine z_imul (q := 258) dX11_findMove_257 rfl ?_
      refine z_iload_n (q := 259) dX11_findMove_258 rfl rfl rfl ?_
      refine z_iadd (q := 260) dX11_findMove_259 rfl ?_
      obtain ⟨g16, hF⟩ := hF
      obtain ⟨g17, hF⟩ := hF
      refine y_iald (j := (Int32.toNatClampNeg ((4096 * l3) + l2))) (q := 261) dX11_findMove_260 (Or.inl g16) g17 rfl rfl ?_
      refine z_icmp_ne (t := 269) (q := 264) dX11_findMove_261 (by decide) rfl (fun hc => ?_) (fun hc => ?_)
      · have hF := hF.1 hc
        refine z_bipush (q := 271) (v := (-6)) dX11_findMove_269 (by decide) rfl ?_
        obtain ⟨g18, hF⟩ := hF
        obtain ⟨g19, hF⟩ := hF
        refine y_iast (j := (Int32.toNatClampNeg l3)) (q := 272) dX11_findMove_271 g18 g19 rfl rfl ?_
        refine z_iinc (q := 275) (v := (l4 + 1)) (L' := [some (.ref l0), none, some (.int l2), some (.int l3), some (.int (l4 + 1)), none, none]) dX11_findMove_272 rfl rfl (Nat.le_of_ble_eq_true rfl) rfl rfl rfl ?_
        refine z_goto (q := 218) dX11_findMove_275 (by decide) ?_
        exact hF
      · have hF := hF.2 hc
        refine z_iload (q := 266) dX11_findMove_264 rfl rfl ?_
        refine z_goto (q := 271) dX11_findMove_266 (by decide) ?_
        obtain ⟨g20, hF⟩ := hF
        obtain ⟨g21, hF⟩ := hF
        refine y_iast (j := (Int32.toNatClampNeg l3)) (q := 272) dX11_findMove_271 g20 g21 rfl rfl ?_
        refine z_iinc (q := 275) (v := (l4 + 1)) (L' := [some (.ref l0), none, some (.int l2), some (.int l3), some (.int (l4 + 1)), none, none]) dX11_findMove_272 rfl rfl (Nat.le_of_ble_eq_true rfl) rfl rfl rfl ?_
        refine z_goto (q := 218) dX11_findMove_275 (by decide) ?_
        exact hF
set_option maxRecDepth 100000 in
set_option maxHeartbeats 4000000 in
theorem wX11_findMove_199 {ψ : ZH → Prop} {l0 : Nat} {l2 : Int32} {l3 : Int32} {h : ZH} (hF : (zK h l0 = 12) ∧ (((zI h l0 24) ≤ l3 → ψ h) ∧ (¬ (zI h l0 24) ≤ l3 → ((zR h l0 30) ≠ 0) ∧ (zK h (zR h l0 30) = 20) ∧ (vp_in l3 (zN h (zR h l0 30))) ∧ Zt mX11_findMove (zPV ψ) 0 0 218 [some (.ref l0), none, some (.int l2), some (.int l3), some (.int 0), none, none] [] (zsI h (zR h l0 30) (Int32.toNatClampNeg l3) (-6))))) : Zt mX11_findMove (zPV ψ) 0 0 199 [some (.ref l0), none, some (.int l2), some (.int l3), none, none, none] [] h := by
  refine z_iload_n (q := 200) dX11_findMove_199 rfl rfl rfl ?_
  refine z_aload_n (q := 201) dX11_findMove_200 rfl rfl rfl ?_
  obtain ⟨g22, hF⟩ := hF
  refine z_getI (c := 11) (k := 24) (r := (RX11, TX11, 54)) (q := 204) dX11_findMove_201 rfl (by decide) fl_X11_255 rfl g22 rfl ?_
  refine z_icmp_ge (t := 308) (q := 207) dX11_findMove_204 (by decide) rfl (fun hc => ?_) (fun hc => ?_)
  · have hF := hF.1 hc
    exact z_return dX11_findMove_308 rfl ⟨rfl, hF⟩
  · have hF := hF.2 hc
    refine z_aload_n (q := 208) dX11_findMove_207 rfl rfl rfl ?_
    obtain ⟨g23, hF⟩ := hF
    refine z_getR (c := 11) (k := 30) (r := (RX11, TX11, 54)) (q := 211) dX11_findMove_208 rfl (by decide) fl_X11_84 rfl g22 g23 rfl ?_
    refine z_iload_n (q := 212) dX11_findMove_211 rfl rfl rfl ?_
    refine z_bipush (q := 214) (v := (-6)) dX11_findMove_212 (by decide) rfl ?_
    obtain ⟨g24, hF⟩ := hF
    obtain ⟨g25, hF⟩ := hF
    refine y_iast (j := (Int32.toNatClampNeg l3)) (q := 215) dX11_findMove_214 g24 g25 rfl rfl ?_
    refine z_iconst (q := 216) (v := 0) dX11_findMove_215 (by decide) rfl ?_
    refine z_istore (q := 218) (L' := [some (.ref l0), none, some (.int l2), some (.int l3), some (.int 0), none, none]) dX11_findMove_216 (Nat.le_of_ble_eq_true rfl) rfl rfl rfl ?_
    exact hF
set_option maxRecDepth 100000 in
set_option maxHeartbeats 4000000 in
theorem wX11_findMove_128 {ψ : ZH → Prop} {l0 : Nat} {l2 : Int32} {l3 : Int32} {l4 : Int32} {l5 : Int32} {h : ZH} (hF : (zK h l0 = 12) ∧ (((zI h l0 28) ≤ l5 → ((zR h l0 29) ≠ 0) ∧ (zK h (zR h l0 29) = 20) ∧ (vp_in ((4096 * l2) + l3) (zN h (zR h l0 29))) ∧ Zt mX11_findMove (zPV ψ) 0 0 95 [some (.ref l0), none, some (.int l2), some (.int (l3 + 1)), none, none, none] [] (zsI h (zR h l0 29) (Int32.toNatClampNeg ((4096 * l2) + l3)) l4)) ∧ (¬ (zI h l0 28) ≤ l5 → ZcI mX11_byslot [.ref l0, .int l2, .int l3, .int l5] h (fun x31 h30 => ((l4 ≤ x31 → Zt mX11_findMove (zPV ψ) 0 0 128 [some (.ref l0), none, some (.int l2), some (.int l3), some (.int l4), some (.int (l5 + 1)), none] [] h30) ∧ (¬ l4 ≤ x31 → Zt mX11_findMove (zPV ψ) 0 0 128 [some (.ref l0), none, some (.int l2), some (.int l3), some (.int x31), some (.int (l5 + 1)), none] [] h30)))))) : Zt mX11_findMove (zPV ψ) 0 0 128 [some (.ref l0), none, some (.int l2), some (.int l3), some (.int l4), some (.int l5), none] [] h := by
  refine z_iload (q := 130) dX11_findMove_128 rfl rfl ?_
  refine z_aload_n (q := 131) dX11_findMove_130 rfl rfl rfl ?_
  obtain ⟨g26, hF⟩ := hF
  refine z_getI (c := 11) (k := 28) (r := (RX11, TX11, 54)) (q := 134) dX11_findMove_131 rfl (by decide) fl_X11_264 rfl g26 rfl ?_
  refine z_icmp_ge (t := 169) (q := 137) dX11_findMove_134 (by decide) rfl (fun hc => ?_) (fun hc => ?_)
  · have hF := hF.1 hc
    refine z_aload_n (q := 170) dX11_findMove_169 rfl rfl rfl ?_
    obtain ⟨g27, hF⟩ := hF
    refine z_getR (c := 11) (k := 29) (r := (RX11, TX11, 54)) (q := 173) dX11_findMove_170 rfl (by decide) fl_X11_81 rfl g26 g27 rfl ?_
    refine z_sipush (q := 176) (v := 4096) dX11_findMove_173 (by decide) rfl ?_
    refine z_iload_n (q := 177) dX11_findMove_176 rfl rfl rfl ?_
    refine z_imul (q := 178) dX11_findMove_177 rfl ?_
    refine z_iload_n (q := 179) dX11_findMove_178 rfl rfl rfl ?_
    refine z_iadd (q := 180) dX11_findMove_179 rfl ?_
    refine z_iload (q := 182) dX11_findMove_180 rfl rfl ?_
    obtain ⟨g28, hF⟩ := hF
    obtain ⟨g29, hF⟩ := hF
    refine y_iast (j := (Int32.toNatClampNeg ((4096 * l2) + l3))) (q := 183) dX11_findMove_182 g28 g29 rfl rfl ?_
    refine z_iinc (q := 186) (v := (l3 + 1)) (L' := [some (.ref l0), none, some (.int l2), some (.int (l3 + 1)), some (.int l4), some (.int l5), none]) dX11_findMove_183 rfl rfl (Nat.le_of_ble_eq_true rfl) rfl rfl rfl ?_
    refine z_goto (q := 95) dX11_findMove_186 (by decide) ?_
    refine Zt.drop (i := 4) (L' := [some (.ref l0), none, some (.int l2), some (.int (l3 + 1)), none, some (.int l5), none]) rfl ?_
    refine Zt.drop (i := 5) (L' := [some (.ref l0), none, some (.int l2), some (.int (l3 + 1)), none, none, none]) rfl ?_
    exact hF
  · have hF := hF.2 hc
    refine z_aload_n (q := 138) dX11_findMove_137 rfl rfl rfl ?_
    refine z_iload_n (q := 139) dX11_findMove_138 rfl rfl rfl ?_
    refine z_iload_n (q := 140) dX11_findMove_139 rfl rfl rfl ?_
    refine z_iload (q := 142) dX11_findMove_140 rfl rfl ?_
    refine z_callVI (rc := 0) (rs := 0) (b := l0) (av := [.int l2, .int l3, .int l5]) (ci := 11) (r := (RX11, TX11, 54)) (q := 145) hF dX11_findMove_142 ml_X11_274 ok_X11_byslot in_X11_byslot se_X11_byslot rfl rfl g26 rfl (Nat.le_of_ble_eq_true rfl) (by decide) (Nat.le_of_ble_eq_true rfl) rfl rfl rfl rfl (fun x31 h30 hF => ?_)
    refine z_istore (q := 147) (L' := [some (.ref l0), none, some (.int l2), some (.int l3), some (.int l4), some (.int l5), some (.int x31)]) dX11_findMove_145 (Nat.le_of_ble_eq_true rfl) rfl rfl rfl ?_
    refine z_iload (q := 149) dX11_findMove_147 rfl rfl ?_
    refine z_iload (q := 151) dX11_findMove_149 rfl rfl ?_
    refine z_icmp_ge (t := 159) (q := 154) dX11_findMove_151 (by decide) rfl (fun hc => ?_) (fun hc => ?_)
    · have hF := hF.1 hc
      refine z_iload (q := 161) dX11_findMove_159 rfl rfl ?_
      refine z_istore (q := 163) (L' := [some (.ref l0), none, some (.int l2), some (.int l3), some (.int l4), some (.int l5), some (.int x31)]) dX11_findMove_161 (Nat.le_of_ble_eq_true rfl) rfl rfl rfl ?_
      refine z_iinc (q := 166) (v := (l5 + 1)) (L' := [some (.ref l0), none, some (.int l2), some (.int l3), some (.int l4), some (.int (l5 + 1)), some (.int x31)]) dX11_findMove_163 rfl rfl (Nat.le_of_ble_eq_true rfl) rfl rfl rfl ?_
      refine z_goto (q := 128) dX11_findMove_166 (by decide) ?_
      refine Zt.drop (i := 6) (L' := [some (.ref l0), none, some (.int l2), some (.int l3), some (.int l4), some (.int (l5 + 1)), none]) rfl ?_
      exact hF
    · have hF := hF.2 hc
      refine z_iload (q := 156) dX11_findMove_154 rfl rfl ?_
      refine z_goto (q := 161) dX11_findMove_156 (by decide) ?_
      refine z_istore (q := 163) (L' := [some (.ref l0), none, some (.int l2), some (.int l3), some (.int x31), some (.int l5), some (.int x31)]) dX11_findMove_161 (Nat.le_of_ble_eq_true rfl) rfl rfl rfl ?_
      refine z_iinc (q := 166) (v := (l5 + 1)) (L' := [some (.ref l0), none, some (.int l2), some (.int l3), some (.int x31), some (.int (l5 + 1)), some (.int x31)]) dX11_findMove_163 rfl rfl (Nat.le_of_ble_eq_true rfl) rfl rfl rfl ?_
      refine z_goto (q := 128) dX11_findMove_166 (by decide) ?_
      refine Zt.drop (i := 6) (L' := [some (.ref l0), none, some (.int l2), some (.int l3), some (.int x31), some (.int (l5 + 1)), none]) rfl ?_
      exact hF
set_option maxRecDepth 100000 in
set_option maxHeartbeats 4000000 in
theorem wX11_findMove_95 {ψ : ZH → Prop} {l0 : Nat} {l2 : Int32} {l3 : Int32} {h : ZH} (hF : (zK h l0 = 12) ∧ ((((1 : Int32) <<< ((zI h l0 28) &&& 31)) ≤ l3 → Zt mX11_findMove (zPV ψ) 0 0 89 [some (.ref l0), none, some (.int (l2 + (-1))), none, none, none, none] [] h) ∧ (¬ ((1 : Int32) <<< ((zI h l0 28) &&& 31)) ≤ l3 → ((zR h l0 29) ≠ 0) ∧ (zK h (zR h l0 29) = 20) ∧ (vp_in ((4096 * (l2 + 1)) + l3) (zN h (zR h l0 29))) ∧ ∀ v36 : Int32, v36 = ((zI h (zR h l0 29) (Int32.toNatClampNeg ((4096 * (l2 + 1)) + l3))) + 10000000) → Zt mX11_findMove (zPV ψ) 0 0 128 [some (.ref l0), none, some (.int l2), some (.int l3), some (.int v36), some (.int 0), none] [] h))) : Zt mX11_findMove (zPV ψ) 0 0 95 [some (.ref l0), none, some (.int l2), some (.int l3), none, none, none] [] h := by
  refine z_iload_n (q := 96) dX11_findMove_95 rfl rfl rfl ?_
  refine z_iconst (q := 97) (v := 1) dX11_findMove_96 (by decide) rfl ?_
  refine z_aload_n (q := 98) dX11_findMove_97 rfl rfl rfl ?_
  obtain ⟨g32, hF⟩ := hF
  refine z_getI (c := 11) (k := 28) (r := (RX11, TX11, 54)) (q := 101) dX11_findMove_98 rfl (by decide) fl_X11_264 rfl g32 rfl ?_
  refine z_ishl (q := 102) dX11_findMove_101 rfl ?_
  refine z_icmp_ge (t := 189) (q := 105) dX11_findMove_102 (by decide) rfl (fun hc => ?_) (fun hc => ?_)
  · have hF := hF.1 hc
    refine z_iinc (q := 192) (v := (l2 + (-1))) (L' := [some (.ref l0), none, some (.int (l2 + (-1))), some (.int l3), none, none, none]) dX11_findMove_189 rfl rfl (Nat.le_of_ble_eq_true rfl) rfl rfl rfl ?_
    refine z_goto (q := 89) dX11_findMove_192 (by decide) ?_
    refine Zt.drop (i := 3) (L' := [some (.ref l0), none, some (.int (l2 + (-1))), none, none, none, none]) rfl ?_
    exact hF
  · have hF := hF.2 hc
    refine z_aload_n (q := 106) dX11_findMove_105 rfl rfl rfl ?_
    obtain ⟨g33, hF⟩ := hF
    refine z_getR (c := 11) (k := 29) (r := (RX11, TX11, 54)) (q := 109) dX11_findMove_106 rfl (by decide) fl_X11_81 rfl g32 g33 rfl ?_
    refine z_sipush (q := 112) (v := 4096) dX11_findMove_109 (by decide) rfl ?_
    refine z_iload_n (q := 113) dX11_findMove_112 rfl rfl rfl ?_
    refine z_iconst (q := 114) (v := 1) dX11_findMove_113 (by decide) rfl ?_
    refine z_iadd (q := 115) dX11_findMove_114 rfl ?_
    refine z_imul (q := 116) dX11_findMove_115 rfl ?_
    refine z_iload_n (q := 117) dX11_findMove_116 rfl rfl rfl ?_
    refine z_iadd (q := 118) dX11_findMove_117 rfl ?_
    obtain ⟨g34, hF⟩ := hF
    obtain ⟨g35, hF⟩ := hF
    refine y_iald (j := (Int32.toNatClampNeg ((4096 * (l2 + 1)) + l3))) (q := 119) dX11_findMove_118 (Or.inl g34) g35 rfl rfl ?_
    refine z_ldcw (q := 122) (v := 10000000) dX11_findMove_119 cw_X11_273 rfl ?_
    refine z_iadd (q := 123) dX11_findMove_122 rfl ?_
    refine z_nameI (fun v36 ev37 => ?_)
    have hF := hF v36 ev37
    refine z_istore (q := 125) (L' := [some (.ref l0), none, some (.int l2), some (.int l3), some (.int v36), none, none]) dX11_findMove_123 (Nat.le_of_ble_eq_true rfl) rfl rfl rfl ?_
    refine z_iconst (q := 126) (v := 0) dX11_findMove_125 (by decide) rfl ?_
    refine z_istore (q := 128) (L' := [some (.ref l0), none, some (.int l2), some (.int l3), some (.int v36), some (.int 0), none]) dX11_findMove_126 (Nat.le_of_ble_eq_true rfl) rfl rfl rfl ?_
    exact hF
set_option maxRecDepth 100000 in
set_option maxHeartbeats 4000000 in
theorem wX11_findMove_89 {ψ : ZH → Prop} {l0 : Nat} {l2 : Int32} {h : ZH} (hF : ((l2 < 0 → Zt mX11_findMove (zPV ψ) 0 0 199 [some (.ref l0), none, some (.int 0), some (.int 0), none, none, none] [] h) ∧ (¬ l2 < 0 → Zt mX11_findMove (zPV ψ) 0 0 95 [some (.ref l0), none, some (.int l2), some (.int 0), none, none, none] [] h))) : Zt mX11_findMove (zPV ψ) 0 0 89 [some (.ref l0), none, some (.int l2), none, none, none, none] [] h := by
  refine z_iload_n (q := 90) dX11_findMove_89 rfl rfl rfl ?_
  refine z_if_lt (t := 195) (q := 93) dX11_findMove_90 (by decide) rfl (fun hc => ?_) (fun hc => ?_)
  · have hF := hF.1 hc
    refine z_iconst (q := 196) (v := 0) dX11_findMove_195 (by decide) rfl ?_
    refine z_istore_n (q := 197) (L' := [some (.ref l0), none, some (.int 0), none, none, none, none]) dX11_findMove_196 rfl (Nat.le_of_ble_eq_true rfl) rfl rfl rfl ?_
    refine z_iconst (q := 198) (v := 0) dX11_findMove_197 (by decide) rfl ?_
    refine z_istore_n (q := 199) (L' := [some (.ref l0), none, some (.int 0), some (.int 0), none, none, none]) dX11_findMove_198 rfl (Nat.le_of_ble_eq_true rfl) rfl rfl rfl ?_
    exact hF
  · have hF := hF.2 hc
    refine z_iconst (q := 94) (v := 0) dX11_findMove_93 (by decide) rfl ?_
    refine z_istore_n (q := 95) (L' := [some (.ref l0), none, some (.int l2), some (.int 0), none, none, none]) dX11_findMove_94 rfl (Nat.le_of_ble_eq_true rfl) rfl rfl rfl ?_
    exact hF
set_option maxRecDepth 100000 in
set_option maxHeartbeats 4000000 in
theorem wX11_findMove_50 {ψ : ZH → Prop} {l0 : Nat} {l2 : Int32} {h : ZH} (hF : (zK h l0 = 12) ∧ ((((1 : Int32) <<< ((zI h l0 28) &&& 31)) ≤ l2 → Zt mX11_findMove (zPV ψ) 0 0 89 [some (.ref l0), none, some (.int ((zI h l0 24) - 1)), none, none, none, none] [] h) ∧ (¬ ((1 : Int32) <<< ((zI h l0 28) &&& 31)) ≤ l2 → ((zR h l0 29) ≠ 0) ∧ (zK h (zR h l0 29) = 20) ∧ (vp_in ((4096 * (zI h l0 24)) + l2) (zN h (zR h l0 29))) ∧ Zt mX11_findMove (zPV ψ) 0 0 50 [some (.ref l0), none, some (.int (l2 + 1)), none, none, none, none] [] (zsI h (zR h l0 29) (Int32.toNatClampNeg ((4096 * (zI h l0 24)) + l2)) 0)))) : Zt mX11_findMove (zPV ψ) 0 0 50 [some (.ref l0), none, some (.int l2), none, none, none, none] [] h := by
  refine z_iload_n (q := 51) dX11_findMove_50 rfl rfl rfl ?_
  refine z_iconst (q := 52) (v := 1) dX11_findMove_51 (by decide) rfl ?_
  refine z_aload_n (q := 53) dX11_findMove_52 rfl rfl rfl ?_
  obtain ⟨g38, hF⟩ := hF
  refine z_getI (c := 11) (k := 28) (r := (RX11, TX11, 54)) (q := 56) dX11_findMove_53 rfl (by decide) fl_X11_264 rfl g38 rfl ?_
  refine z_ishl (q := 57) dX11_findMove_56 rfl ?_
  refine z_icmp_ge (t := 82) (q := 60) dX11_findMove_57 (by decide) rfl (fun hc => ?_) (fun hc => ?_)
  · have hF := hF.1 hc
    refine z_aload_n (q := 83) dX11_findMove_82 rfl rfl rfl ?_
    refine z_getI (c := 11) (k := 24) (r := (RX11, TX11, 54)) (q := 86) dX11_findMove_83 rfl (by decide) fl_X11_255 rfl g38 rfl ?_
    refine z_iconst (q := 87) (v := 1) dX11_findMove_86 (by decide) rfl ?_
    refine z_isub (q := 88) dX11_findMove_87 rfl ?_
    refine z_istore_n (q := 89) (L' := [some (.ref l0), none, some (.int ((zI h l0 24) - 1)), none, none, none, none]) dX11_findMove_88 rfl (Nat.le_of_ble_eq_true rfl) rfl rfl rfl ?_
    exact hF
  · have hF := hF.2 hc
    refine z_aload_n (q := 61) dX11_findMove_60 rfl rfl rfl ?_
    obtain ⟨g39, hF⟩ := hF
    refine z_getR (c := 11) (k := 29) (r := (RX11, TX11, 54)) (q := 64) dX11_findMove_61 rfl (by decide) fl_X11_81 rfl g38 g39 rfl ?_
    refine z_sipush (q := 67) (v := 4096) dX11_findMove_64 (by decide) rfl ?_
    refine z_aload_n (q := 68) dX11_findMove_67 rfl rfl rfl ?_
    refine z_getI (c := 11) (k := 24) (r := (RX11, TX11, 54)) (q := 71) dX11_findMove_68 rfl (by decide) fl_X11_255 rfl g38 rfl ?_
    refine z_imul (q := 72) dX11_findMove_71 rfl ?_
    refine z_iload_n (q := 73) dX11_findMove_72 rfl rfl rfl ?_
    refine z_iadd (q := 74) dX11_findMove_73 rfl ?_
    refine z_iconst (q := 75) (v := 0) dX11_findMove_74 (by decide) rfl ?_
    obtain ⟨g40, hF⟩ := hF
    obtain ⟨g41, hF⟩ := hF
    refine y_iast (j := (Int32.toNatClampNeg ((4096 * (zI h l0 24)) + l2))) (q := 76) dX11_findMove_75 g40 g41 rfl rfl ?_
    refine z_iinc (q := 79) (v := (l2 + 1)) (L' := [some (.ref l0), none, some (.int (l2 + 1)), none, none, none, none]) dX11_findMove_76 rfl rfl (Nat.le_of_ble_eq_true rfl) rfl rfl rfl ?_
    refine z_goto (q := 50) dX11_findMove_79 (by decide) ?_
    exact hF
set_option maxRecDepth 100000 in
set_option maxHeartbeats 4000000 in
theorem wX11_findMove_17 {ψ : ZH → Prop} {l0 : Nat} {l2 : Int32} {h : ZH} (hF : (zK h l0 = 12) ∧ (((zI h l0 24) ≤ l2 → Zt mX11_findMove (zPV ψ) 0 0 50 [some (.ref l0), none, some (.int 0), none, none, none, none] [] h) ∧ (¬ (zI h l0 24) ≤ l2 → ((zR h l0 31) ≠ 0) ∧ ((zR h l0 23) ≠ 0) ∧ (zK h (zR h l0 23) = 20) ∧ (vp_in l2 (zN h (zR h l0 23))) ∧ ZcI mX11_isSo [.ref l0, .int 1, .int (zI h (zR h l0 23) (Int32.toNatClampNeg l2))] h (fun x48 h47 => (zK h47 (zR h l0 31) = 21) ∧ (vp_in l2 (zN h47 (zR h l0 31))) ∧ (x48 = 0 ∨ x48 = 1) ∧ Zt mX11_findMove (zPV ψ) 0 0 17 [some (.ref l0), none, some (.int (l2 + 1)), none, none, none, none] [] (zsI h47 (zR h l0 31) (Int32.toNatClampNeg l2) x48))))) : Zt mX11_findMove (zPV ψ) 0 0 17 [some (.ref l0), none, some (.int l2), none, none, none, none] [] h := by
  refine z_iload_n (q := 18) dX11_findMove_17 rfl rfl rfl ?_
  refine z_aload_n (q := 19) dX11_findMove_18 rfl rfl rfl ?_
  obtain ⟨g42, hF⟩ := hF
  refine z_getI (c := 11) (k := 24) (r := (RX11, TX11, 54)) (q := 22) dX11_findMove_19 rfl (by decide) fl_X11_255 rfl g42 rfl ?_
  refine z_icmp_ge (t := 48) (q := 25) dX11_findMove_22 (by decide) rfl (fun hc => ?_) (fun hc => ?_)
  · have hF := hF.1 hc
    refine z_iconst (q := 49) (v := 0) dX11_findMove_48 (by decide) rfl ?_
    refine z_istore_n (q := 50) (L' := [some (.ref l0), none, some (.int 0), none, none, none, none]) dX11_findMove_49 rfl (Nat.le_of_ble_eq_true rfl) rfl rfl rfl ?_
    exact hF
  · have hF := hF.2 hc
    refine z_aload_n (q := 26) dX11_findMove_25 rfl rfl rfl ?_
    obtain ⟨g43, hF⟩ := hF
    refine z_getR (c := 11) (k := 31) (r := (RX11, TX11, 54)) (q := 29) dX11_findMove_26 rfl (by decide) fl_X11_87 rfl g42 g43 rfl ?_
    refine z_iload_n (q := 30) dX11_findMove_29 rfl rfl rfl ?_
    refine z_aload_n (q := 31) dX11_findMove_30 rfl rfl rfl ?_
    refine z_iconst (q := 32) (v := 1) dX11_findMove_31 (by decide) rfl ?_
    refine z_aload_n (q := 33) dX11_findMove_32 rfl rfl rfl ?_
    obtain ⟨g44, hF⟩ := hF
    refine z_getR (c := 11) (k := 23) (r := (RX11, TX11, 54)) (q := 36) dX11_findMove_33 rfl (by decide) fl_X11_71 rfl g42 g44 rfl ?_
    refine z_iload_n (q := 37) dX11_findMove_36 rfl rfl rfl ?_
    obtain ⟨g45, hF⟩ := hF
    obtain ⟨g46, hF⟩ := hF
    refine y_iald (j := (Int32.toNatClampNeg l2)) (q := 38) dX11_findMove_37 (Or.inl g45) g46 rfl rfl ?_
    refine z_callVI (rc := 0) (rs := 0) (b := l0) (av := [.int 1, .int (zI h (zR h l0 23) (Int32.toNatClampNeg l2))]) (ci := 11) (r := (RX11, TX11, 54)) (q := 41) hF dX11_findMove_38 ml_X11_261 ok_X11_isSo in_X11_isSo se_X11_isSo rfl rfl g42 rfl (Nat.le_of_ble_eq_true rfl) (by decide) (Nat.le_of_ble_eq_true rfl) rfl rfl rfl rfl (fun x48 h47 hF => ?_)
    obtain ⟨g49, hF⟩ := hF
    obtain ⟨g50, hF⟩ := hF
    obtain ⟨g51, hF⟩ := hF
    refine y_bast (j := (Int32.toNatClampNeg l2)) (q := 42) dX11_findMove_41 g49 g50 g51 rfl rfl ?_
    refine z_iinc (q := 45) (v := (l2 + 1)) (L' := [some (.ref l0), none, some (.int (l2 + 1)), none, none, none, none]) dX11_findMove_42 rfl rfl (Nat.le_of_ble_eq_true rfl) rfl rfl rfl ?_
    refine z_goto (q := 17) dX11_findMove_45 (by decide) ?_
    exact hF
set_option maxRecDepth 100000 in
set_option maxHeartbeats 4000000 in
theorem wX11_findMove {ψ : ZH → Prop} {l0 : Nat} {l1 : Int32} {h : ZH} (hF : (zK h l0 = 12) ∧ ZcV mX11_findMovers [.ref l0, .int l1] h (fun h52 => (zK h52 l0 = 12) ∧ (((zI h52 l0 24) ≤ 9 → Zt mX11_findMove (zPV ψ) 0 0 17 [some (.ref l0), none, some (.int 0), none, none, none, none] [] h52) ∧ (¬ (zI h52 l0 24) ≤ 9 → ψ h52)))) : ZcV mX11_findMove [.ref l0, .int l1] h ψ := by
  refine Zc.intro (L := [some (.ref l0), some (.int l1), none, none, none, none, none]) (show plainName RX11 = true by decide) rfl (Nat.le_of_ble_eq_true rfl) ?_
  show Zt _ _ 0 0 _ _ _ _
  refine z_aload_n (q := 1) dX11_findMove_0 rfl rfl rfl ?_
  refine z_iload_n (q := 2) dX11_findMove_1 rfl rfl rfl ?_
  obtain ⟨g53, hF⟩ := hF
  refine z_callVV (rc := 0) (rs := 0) (b := l0) (av := [.int l1]) (ci := 11) (r := (RX11, TX11, 54)) (q := 5) hF dX11_findMove_2 ml_X11_269 ok_X11_findMovers in_X11_findMovers se_X11_findMovers rfl rfl g53 rfl (Nat.le_of_ble_eq_true rfl) (by decide) (Nat.le_of_ble_eq_true rfl) rfl rfl rfl rfl (fun h52 hF => ?_)
  refine z_aload_n (q := 6) dX11_findMove_5 rfl rfl rfl ?_
  obtain ⟨g54, hF⟩ := hF
  refine z_getI (c := 11) (k := 24) (r := (RX11, TX11, 54)) (q := 9) dX11_findMove_6 rfl (by decide) fl_X11_255 rfl g54 rfl ?_
  refine z_bipush (q := 11) (v := 9) dX11_findMove_9 (by decide) rfl ?_
  refine z_icmp_le (t := 15) (q := 14) dX11_findMove_11 (by decide) rfl (fun hc => ?_) (fun hc => ?_)
  · have hF := hF.1 hc
    refine z_iconst (q := 16) (v := 0) dX11_findMove_15 (by decide) rfl ?_
    refine z_istore_n (q := 17) (L' := [some (.ref l0), some (.int l1), some (.int 0), none, none, none, none]) dX11_findMove_16 rfl (Nat.le_of_ble_eq_true rfl) rfl rfl rfl ?_
    refine Zt.drop (i := 1) (L' := [some (.ref l0), none, some (.int 0), none, none, none, none]) rfl ?_
    exact hF
  · have hF := hF.2 hc
    exact z_return dX11_findMove_14 rfl ⟨rfl, hF⟩
set_option maxRecDepth 100000 in
set_option maxHeartbeats 4000000 in
theorem wX11_move_37 {ψ : Int32 → ZH → Prop} {l0 : Nat} {l1 : Int32} {l2 : Int32} {s0 : Int32} {h : ZH} (hF : (zK h l0 = 12) ∧ ZcI mX11_isPit [.ref l0, .int l1] h (fun x3 h1 => ((x3 = 0 → ψ (-1) h1) ∧ (¬ x3 = 0 → ((¬ s0 = 0 → (zK h1 l0 = 12) ∧ ((zR h1 l0 7) ≠ 0) ∧ (zK h1 (zR h1 l0 7) = 21) ∧ (vp_in l1 (zN h1 (zR h1 l0 7))) ∧ ((¬ (zI h1 (zR h1 l0 7) (Int32.toNatClampNeg l1)) = 0 → ZcV mX11_findMove [.ref l0, .int l1] h1 (fun h8 => (zK h8 l0 = 12) ∧ (((zI h8 l0 24) ≤ 9 → ((l2 = (-4) → ψ (zI h8 l0 25) h8) ∧ (l2 = (-3) → ((zR h8 l0 29) ≠ 0) ∧ (zK h8 (zR h8 l0 29) = 20) ∧ (0 < zN h8 (zR h8 l0 29)) ∧ ψ ((zI h8 (zR h8 l0 29) 0) - (zI h8 (zR h8 l0 29) 0) / 100000 * 100000) h8) ∧ (l2 = (-2) → ((zR h8 l0 29) ≠ 0) ∧ (zK h8 (zR h8 l0 29) = 20) ∧ (0 < zN h8 (zR h8 l0 29)) ∧ ψ (((zI h8 (zR h8 l0 29) 0) / 100000) - ((zI h8 (zR h8 l0 29) 0) / 100000) / 100 * 100) h8) ∧ (l2 = (-1) → ((zR h8 l0 29) ≠ 0) ∧ (zK h8 (zR h8 l0 29) = 20) ∧ (0 < zN h8 (zR h8 l0 29)) ∧ ψ ((zI h8 (zR h8 l0 29) 0) / 10000000) h8) ∧ (¬ l2 = (-4) → ¬ l2 = (-3) → ¬ l2 = (-2) → ¬ l2 = (-1) → ZcI mX11_newPit [.ref l0, .int l2] h8 (fun x24 h23 => ψ x24 h23)))) ∧ (¬ (zI h8 l0 24) ≤ 9 → ψ (-5) h8)))) ∧ ((zI h1 (zR h1 l0 7) (Int32.toNatClampNeg l1)) = 0 → ψ (-3) h1))) ∧ (s0 = 0 → ψ (-1) h1)))))) : Zt mX11_move (zPI ψ) 0 0 37 [some (.ref l0), some (.int l1), some (.int l2), none] [.int s0] h := by
  refine z_istore_n (q := 38) (L' := [some (.ref l0), some (.int l1), some (.int l2), some (.int s0)]) dX11_move_37 rfl (Nat.le_of_ble_eq_true rfl) rfl rfl rfl ?_
  refine z_aload_n (q := 39) dX11_move_38 rfl rfl rfl ?_
  refine z_iload_n (q := 40) dX11_move_39 rfl rfl rfl ?_
  obtain ⟨g2, hF⟩ := hF
  refine z_callVI (rc := 0) (rs := 0) (b := l0) (av := [.int l1]) (ci := 11) (r := (RX11, TX11, 54)) (q := 43) hF dX11_move_40 ml_X11_169 ok_X11_isPit in_X11_isPit se_X11_isPit rfl rfl g2 rfl (Nat.le_of_ble_eq_true rfl) (by decide) (Nat.le_of_ble_eq_true rfl) rfl rfl rfl rfl (fun x3 h1 hF => ?_)
  refine z_if_eq (t := 50) (q := 46) dX11_move_43 (by decide) rfl (fun hc => ?_) (fun hc => ?_)
  · have hF := hF.1 hc
    refine z_iconst (q := 51) (v := (-1)) dX11_move_50 (by decide) rfl ?_
    exact z_ireturn dX11_move_51 rfl ⟨_, rfl, hF⟩
  · have hF := hF.2 hc
    refine z_iload_n (q := 47) dX11_move_46 rfl rfl rfl ?_
    refine z_if_ne (t := 52) (q := 50) dX11_move_47 (by decide) rfl (fun hc => ?_) (fun hc => ?_)
    · have hF := hF.1 hc
      refine z_aload_n (q := 53) dX11_move_52 rfl rfl rfl ?_
      obtain ⟨g4, hF⟩ := hF
      obtain ⟨g5, hF⟩ := hF
      refine z_getR (c := 11) (k := 7) (r := (RX11, TX11, 54)) (q := 56) dX11_move_53 rfl (by decide) fl_X11_31 rfl g4 g5 rfl ?_
      refine z_iload_n (q := 57) dX11_move_56 rfl rfl rfl ?_
      obtain ⟨g6, hF⟩ := hF
      obtain ⟨g7, hF⟩ := hF
      refine y_bald (j := (Int32.toNatClampNeg l1)) (q := 58) dX11_move_57 g6 g7 rfl rfl ?_
      refine z_if_ne (t := 64) (q := 61) dX11_move_58 (by decide) rfl (fun hc => ?_) (fun hc => ?_)
      · have hF := hF.1 hc
        refine z_aload_n (q := 65) dX11_move_64 rfl rfl rfl ?_
        refine z_iload_n (q := 66) dX11_move_65 rfl rfl rfl ?_
        refine z_callVV (rc := 0) (rs := 0) (b := l0) (av := [.int l1]) (ci := 11) (r := (RX11, TX11, 54)) (q := 69) hF dX11_move_66 ml_X11_282 ok_X11_findMove in_X11_findMove se_X11_findMove rfl rfl g4 rfl (Nat.le_of_ble_eq_true rfl) (by decide) (Nat.le_of_ble_eq_true rfl) rfl rfl rfl rfl (fun h8 hF => ?_)
        refine z_aload_n (q := 70) dX11_move_69 rfl rfl rfl ?_
        obtain ⟨g9, hF⟩ := hF
        refine z_getI (c := 11) (k := 24) (r := (RX11, TX11, 54)) (q := 73) dX11_move_70 rfl (by decide) fl_X11_255 rfl g9 rfl ?_
        refine z_bipush (q := 75) (v := 9) dX11_move_73 (by decide) rfl ?_
        refine z_icmp_le (t := 81) (q := 78) dX11_move_75 (by decide) rfl (fun hc => ?_) (fun hc => ?_)
        · have hF := hF.1 hc
          refine z_iload_n (q := 82) dX11_move_81 rfl rfl rfl ?_
          by_cases e10 : l2 = (-4)
          · refine z_tableIn (q := 148) (off := 66) dX11_move_82 (by rw [e10]; decide) (by rw [e10]; decide) (by rw [e10]; decide) (by decide) ?_
            have hF := hF.1 e10
            refine z_aload_n (q := 149) dX11_move_148 rfl rfl rfl ?_
            refine z_getI (c := 11) (k := 25) (r := (RX11, TX11, 54)) (q := 152) dX11_move_149 rfl (by decide) fl_X11_258 rfl g9 rfl ?_
            exact z_ireturn dX11_move_152 rfl ⟨_, rfl, hF⟩
          by_cases e11 : l2 = (-3)
          · refine z_tableIn (q := 137) (off := 55) dX11_move_82 (by rw [e11]; decide) (by rw [e11]; decide) (by rw [e11]; decide) (by decide) ?_
            have hF := hF.2.1 e11
            refine z_aload_n (q := 138) dX11_move_137 rfl rfl rfl ?_
            obtain ⟨g14, hF⟩ := hF
            refine z_getR (c := 11) (k := 29) (r := (RX11, TX11, 54)) (q := 141) dX11_move_138 rfl (by decide) fl_X11_81 rfl g9 g14 rfl ?_
            refine z_iconst (q := 142) (v := 0) dX11_move_141 (by decide) rfl ?_
            obtain ⟨g15, hF⟩ := hF
            obtain ⟨g16, hF⟩ := hF
            refine y_iald (j := 0) (q := 143) dX11_move_142 (Or.inl g15) (zvin (by decide) (by decide) g16) (by decide) rfl ?_
            refine z_ldcw (q := 146) (v := 100000) dX11_move_143 cw_X11_268 rfl ?_
            refine z_irem (q := 147) dX11_move_146 (by decide) rfl ?_
            exact z_ireturn dX11_move_147 rfl ⟨_, rfl, hF⟩
          by_cases e12 : l2 = (-2)
          · refine z_tableIn (q := 123) (off := 41) dX11_move_82 (by rw [e12]; decide) (by rw [e12]; decide) (by rw [e12]; decide) (by decide) ?_
            have hF := hF.2.2.1 e12
            refine z_aload_n (q := 124) dX11_move_123 rfl rfl rfl ?_
            obtain ⟨g17, hF⟩ := hF
            refine z_getR (c := 11) (k := 29) (r := (RX11, TX11, 54)) (q := 127) dX11_move_124 rfl (by decide) fl_X11_81 rfl g9 g17 rfl ?_
            refine z_iconst (q := 128) (v := 0) dX11_move_127 (by decide) rfl ?_
            obtain ⟨g18, hF⟩ := hF
            obtain ⟨g19, hF⟩ := hF
            refine y_iald (j := 0) (q := 129) dX11_move_128 (Or.inl g18) (zvin (by decide) (by decide) g19) (by decide) rfl ?_
            refine z_ldcw (q := 132) (v := 100000) dX11_move_129 cw_X11_268 rfl ?_
            refine z_idiv (q := 133) dX11_move_132 (by decide) rfl ?_
            refine z_bipush (q := 135) (v := 100) dX11_move_133 (by decide) rfl ?_
            refine z_irem (q := 136) dX11_move_135 (by decide) rfl ?_
            exact z_ireturn dX11_move_136 rfl ⟨_, rfl, hF⟩
          by_cases e13 : l2 = (-1)
          · refine z_tableIn (q := 112) (off := 30) dX11_move_82 (by rw [e13]; decide) (by rw [e13]; decide) (by rw [e13]; decide) (by decide) ?_
            have hF := hF.2.2.2.1 e13
            refine z_aload_n (q := 113) dX11_move_112 rfl rfl rfl ?_
            obtain ⟨g20, hF⟩ := hF
            refine z_getR (c := 11) (k := 29) (r := (RX11, TX11, 54)) (q := 116) dX11_move_113 rfl (by decide) fl_X11_81 rfl g9 g20 rfl ?_
            refine z_iconst (q := 117) (v := 0) dX11_move_116 (by decide) rfl ?_
            obtain ⟨g21, hF⟩ := hF
            obtain ⟨g22, hF⟩ := hF
            refine y_iald (j := 0) (q := 118) dX11_move_117 (Or.inl g21) (zvin (by decide) (by decide) g22) (by decide) rfl ?_
            refine z_ldcw (q := 121) (v := 10000000) dX11_move_118 cw_X11_273 rfl ?_
            refine z_idiv (q := 122) dX11_move_121 (by decide) rfl ?_
            exact z_ireturn dX11_move_122 rfl ⟨_, rfl, hF⟩
          refine z_tableOut (q := 153) dX11_move_82 (by
            have k0 := zsw_ne (k := (-4)) e10 (by decide)
            have k1 := zsw_ne (k := (-3)) e11 (by decide)
            have k2 := zsw_ne (k := (-2)) e12 (by decide)
            have k3 := zsw_ne (k := (-1)) e13 (by decide)
            omega) (by decide) ?_
          have hF := hF.2.2.2.2 e10 e11 e12 e13
          refine z_aload_n (q := 154) dX11_move_153 rfl rfl rfl ?_
          refine z_iload_n (q := 155) dX11_move_154 rfl rfl rfl ?_
          refine z_callVI (rc := 0) (rs := 0) (b := l0) (av := [.int l2]) (ci := 11) (r := (RX11, TX11, 54)) (q := 158) hF dX11_move_155 ml_X11_285 ok_X11_newPit in_X11_newPit se_X11_newPit rfl rfl g9 rfl (Nat.le_of_ble_eq_true rfl) (by decide) (Nat.le_of_ble_eq_true rfl) rfl rfl rfl rfl (fun x24 h23 hF => ?_)
          exact z_ireturn dX11_move_158 rfl ⟨_, rfl, hF⟩
        · have hF := hF.2 hc
          refine z_bipush (q := 80) (v := (-5)) dX11_move_78 (by decide) rfl ?_
          exact z_ireturn dX11_move_80 rfl ⟨_, rfl, hF⟩
      · have hF := hF.2 hc
        refine z_bipush (q := 63) (v := (-3)) dX11_move_61 (by decide) rfl ?_
        exact z_ireturn dX11_move_63 rfl ⟨_, rfl, hF⟩
    · have hF := hF.2 hc
      refine z_iconst (q := 51) (v := (-1)) dX11_move_50 (by decide) rfl ?_
      exact z_ireturn dX11_move_51 rfl ⟨_, rfl, hF⟩
set_option maxRecDepth 100000 in
set_option maxHeartbeats 4000000 in
theorem wX11_move {ψ : Int32 → ZH → Prop} {l0 : Nat} {l1 : Int32} {l2 : Int32} {h : ZH} (hF : ZcI mX11_in [.long (Int32.toInt64 l2), .long (-4), .long (-1)] h (fun x26 h25 => ((¬ x26 = 0 → Zt mX11_move (zPI ψ) 0 0 37 [some (.ref l0), some (.int l1), some (.int l2), none] [.int 1] h25) ∧ (x26 = 0 → (zK h25 l0 = 12) ∧ ZcI mX11_isMan [.ref l0, .int l2] h25 (fun x29 h27 => ((x29 = 0 → Zt mX11_move (zPI ψ) 0 0 37 [some (.ref l0), some (.int l1), some (.int l2), none] [.int 0] h27) ∧ (¬ x29 = 0 → (zK h27 l0 = 12) ∧ ((zR h27 l0 14) ≠ 0) ∧ (zK h27 (zR h27 l0 14) = 20) ∧ (vp_in l2 (zN h27 (zR h27 l0 14))) ∧ ((¬ (zI h27 (zR h27 l0 14) (Int32.toNatClampNeg l2)) = l1 → Zt mX11_move (zPI ψ) 0 0 37 [some (.ref l0), some (.int l1), some (.int l2), none] [.int 0] h27) ∧ ((zI h27 (zR h27 l0 14) (Int32.toNatClampNeg l2)) = l1 → Zt mX11_move (zPI ψ) 0 0 37 [some (.ref l0), some (.int l1), some (.int l2), none] [.int 1] h27))))))))) : ZcI mX11_move [.ref l0, .int l1, .int l2] h ψ := by
  refine Zc.intro (L := [some (.ref l0), some (.int l1), some (.int l2), none]) (show plainName RX11 = true by decide) rfl (Nat.le_of_ble_eq_true rfl) ?_
  show Zt _ _ 0 0 _ _ _ _
  refine z_iload_n (q := 1) dX11_move_0 rfl rfl rfl ?_
  refine z_i2l (q := 2) dX11_move_1 rfl ?_
  refine z_ldc2 (q := 5) (v := (-4)) dX11_move_2 cw_X11_278 rfl ?_
  refine z_ldc2 (q := 8) (v := (-1)) dX11_move_5 cw_X11_280 rfl ?_
  refine z_callSI (rc := 0) (rs := 0) (av := [.long (Int32.toInt64 l2), .long (-4), .long (-1)]) (q := 11) hF dX11_move_8 ml_X11_140 ok_X11_in st_X11_in rfl (Nat.le_of_ble_eq_true rfl) (by decide) (Nat.le_of_ble_eq_true rfl) rfl rfl rfl rfl (fun x26 h25 hF => ?_)
  refine z_if_ne (t := 32) (q := 14) dX11_move_11 (by decide) rfl (fun hc => ?_) (fun hc => ?_)
  · have hF := hF.1 hc
    refine z_iconst (q := 33) (v := 1) dX11_move_32 (by decide) rfl ?_
    refine z_goto (q := 37) dX11_move_33 (by decide) ?_
    exact hF
  · have hF := hF.2 hc
    refine z_aload_n (q := 15) dX11_move_14 rfl rfl rfl ?_
    refine z_iload_n (q := 16) dX11_move_15 rfl rfl rfl ?_
    obtain ⟨g28, hF⟩ := hF
    refine z_callVI (rc := 0) (rs := 0) (b := l0) (av := [.int l2]) (ci := 11) (r := (RX11, TX11, 54)) (q := 19) hF dX11_move_16 ml_X11_187 ok_X11_isMan in_X11_isMan se_X11_isMan rfl rfl g28 rfl (Nat.le_of_ble_eq_true rfl) (by decide) (Nat.le_of_ble_eq_true rfl) rfl rfl rfl rfl (fun x29 h27 hF => ?_)
    refine z_if_eq (t := 36) (q := 22) dX11_move_19 (by decide) rfl (fun hc => ?_) (fun hc => ?_)
    · have hF := hF.1 hc
      refine z_iconst (q := 37) (v := 0) dX11_move_36 (by decide) rfl ?_
      exact hF
    · have hF := hF.2 hc
      refine z_aload_n (q := 23) dX11_move_22 rfl rfl rfl ?_
      obtain ⟨g30, hF⟩ := hF
      obtain ⟨g31, hF⟩ := hF
      refine z_getR (c := 11) (k := 14) (r := (RX11, TX11, 54)) (q := 26) dX11_move_23 rfl (by decide) fl_X11_50 rfl g30 g31 rfl ?_
      refine z_iload_n (q := 27) dX11_move_26 rfl rfl rfl ?_
      obtain ⟨g32, hF⟩ := hF
      obtain ⟨g33, hF⟩ := hF
      refine y_iald (j := (Int32.toNatClampNeg l2)) (q := 28) dX11_move_27 (Or.inl g32) g33 rfl rfl ?_
      refine z_iload_n (q := 29) dX11_move_28 rfl rfl rfl ?_
      refine z_icmp_ne (t := 36) (q := 32) dX11_move_29 (by decide) rfl (fun hc => ?_) (fun hc => ?_)
      · have hF := hF.1 hc
        refine z_iconst (q := 37) (v := 0) dX11_move_36 (by decide) rfl ?_
        exact hF
      · have hF := hF.2 hc
        refine z_iconst (q := 33) (v := 1) dX11_move_32 (by decide) rfl ?_
        refine z_goto (q := 37) dX11_move_33 (by decide) ?_
        exact hF
set_option maxRecDepth 100000 in
set_option maxHeartbeats 4000000 in
theorem wX11_newPit_2 {ψ : Int32 → ZH → Prop} {l0 : Nat} {l1 : Int32} {l2 : Int32} {h : ZH} (hF : (zK h l0 = 12) ∧ (((zI h l0 24) ≤ l2 → ψ (-6) h) ∧ (¬ (zI h l0 24) ≤ l2 → ((zR h l0 23) ≠ 0) ∧ (zK h (zR h l0 23) = 20) ∧ (vp_in l2 (zN h (zR h l0 23))) ∧ ((¬ (zI h (zR h l0 23) (Int32.toNatClampNeg l2)) = l1 → Zt mX11_newPit (zPI ψ) 0 0 2 [some (.ref l0), some (.int l1), some (.int (l2 + 1))] [] h) ∧ ((zI h (zR h l0 23) (Int32.toNatClampNeg l2)) = l1 → ((zR h l0 30) ≠ 0) ∧ (zK h (zR h l0 30) = 20) ∧ (vp_in l2 (zN h (zR h l0 30))) ∧ ((0 ≤ (zI h (zR h l0 30) (Int32.toNatClampNeg l2)) → ((zR h l0 26) ≠ 0) ∧ (zK h (zR h l0 26) = 20) ∧ (vp_in (zI h (zR h l0 30) (Int32.toNatClampNeg l2)) (zN h (zR h l0 26))) ∧ ψ (zI h (zR h l0 26) (Int32.toNatClampNeg (zI h (zR h l0 30) (Int32.toNatClampNeg l2)))) h) ∧ (¬ 0 ≤ (zI h (zR h l0 30) (Int32.toNatClampNeg l2)) → ψ (-6) h))))))) : Zt mX11_newPit (zPI ψ) 0 0 2 [some (.ref l0), some (.int l1), some (.int l2)] [] h := by
  refine z_iload_n (q := 3) dX11_newPit_2 rfl rfl rfl ?_
  refine z_aload_n (q := 4) dX11_newPit_3 rfl rfl rfl ?_
  obtain ⟨g1, hF⟩ := hF
  refine z_getI (c := 11) (k := 24) (r := (RX11, TX11, 54)) (q := 7) dX11_newPit_4 rfl (by decide) fl_X11_255 rfl g1 rfl ?_
  refine z_icmp_ge (t := 52) (q := 10) dX11_newPit_7 (by decide) rfl (fun hc => ?_) (fun hc => ?_)
  · have hF := hF.1 hc
    refine z_bipush (q := 54) (v := (-6)) dX11_newPit_52 (by decide) rfl ?_
    exact z_ireturn dX11_newPit_54 rfl ⟨_, rfl, hF⟩
  · have hF := hF.2 hc
    refine z_aload_n (q := 11) dX11_newPit_10 rfl rfl rfl ?_
    obtain ⟨g2, hF⟩ := hF
    refine z_getR (c := 11) (k := 23) (r := (RX11, TX11, 54)) (q := 14) dX11_newPit_11 rfl (by decide) fl_X11_71 rfl g1 g2 rfl ?_
    refine z_iload_n (q := 15) dX11_newPit_14 rfl rfl rfl ?_
    obtain ⟨g3, hF⟩ := hF
    obtain ⟨g4, hF⟩ := hF
    refine y_iald (j := (Int32.toNatClampNeg l2)) (q := 16) dX11_newPit_15 (Or.inl g3) g4 rfl rfl ?_
    refine z_iload_n (q := 17) dX11_newPit_16 rfl rfl rfl ?_
    refine z_icmp_ne (t := 46) (q := 20) dX11_newPit_17 (by decide) rfl (fun hc => ?_) (fun hc => ?_)
    · have hF := hF.1 hc
      refine z_iinc (q := 49) (v := (l2 + 1)) (L' := [some (.ref l0), some (.int l1), some (.int (l2 + 1))]) dX11_newPit_46 rfl rfl (Nat.le_of_ble_eq_true rfl) rfl rfl rfl ?_
      refine z_goto (q := 2) dX11_newPit_49 (by decide) ?_
      exact hF
    · have hF := hF.2 hc
      refine z_aload_n (q := 21) dX11_newPit_20 rfl rfl rfl ?_
      obtain ⟨g5, hF⟩ := hF
      refine z_getR (c := 11) (k := 30) (r := (RX11, TX11, 54)) (q := 24) dX11_newPit_21 rfl (by decide) fl_X11_84 rfl g1 g5 rfl ?_
      refine z_iload_n (q := 25) dX11_newPit_24 rfl rfl rfl ?_
      obtain ⟨g6, hF⟩ := hF
      obtain ⟨g7, hF⟩ := hF
      refine y_iald (j := (Int32.toNatClampNeg l2)) (q := 26) dX11_newPit_25 (Or.inl g6) g7 rfl rfl ?_
      refine z_if_ge (t := 34) (q := 29) dX11_newPit_26 (by decide) rfl (fun hc => ?_) (fun hc => ?_)
      · have hF := hF.1 hc
        refine z_aload_n (q := 35) dX11_newPit_34 rfl rfl rfl ?_
        obtain ⟨g8, hF⟩ := hF
        refine z_getR (c := 11) (k := 26) (r := (RX11, TX11, 54)) (q := 38) dX11_newPit_35 rfl (by decide) fl_X11_74 rfl g1 g8 rfl ?_
        refine z_aload_n (q := 39) dX11_newPit_38 rfl rfl rfl ?_
        refine z_getR (c := 11) (k := 30) (r := (RX11, TX11, 54)) (q := 42) dX11_newPit_39 rfl (by decide) fl_X11_84 rfl g1 g5 rfl ?_
        refine z_iload_n (q := 43) dX11_newPit_42 rfl rfl rfl ?_
        refine y_iald (j := (Int32.toNatClampNeg l2)) (q := 44) dX11_newPit_43 (Or.inl g6) g7 rfl rfl ?_
        obtain ⟨g9, hF⟩ := hF
        obtain ⟨g10, hF⟩ := hF
        refine y_iald (j := (Int32.toNatClampNeg (zI h (zR h l0 30) (Int32.toNatClampNeg l2)))) (q := 45) dX11_newPit_44 (Or.inl g9) g10 rfl rfl ?_
        exact z_ireturn dX11_newPit_45 rfl ⟨_, rfl, hF⟩
      · have hF := hF.2 hc
        refine z_bipush (q := 31) (v := (-6)) dX11_newPit_29 (by decide) rfl ?_
        refine z_goto (q := 45) dX11_newPit_31 (by decide) ?_
        exact z_ireturn dX11_newPit_45 rfl ⟨_, rfl, hF⟩
set_option maxRecDepth 100000 in
set_option maxHeartbeats 4000000 in
theorem wX11_newPit {ψ : Int32 → ZH → Prop} {l0 : Nat} {l1 : Int32} {h : ZH} (hF : Zt mX11_newPit (zPI ψ) 0 0 2 [some (.ref l0), some (.int l1), some (.int 0)] [] h) : ZcI mX11_newPit [.ref l0, .int l1] h ψ := by
  refine Zc.intro (L := [some (.ref l0), some (.int l1), none]) (show plainName RX11 = true by decide) rfl (Nat.le_of_ble_eq_true rfl) ?_
  show Zt _ _ 0 0 _ _ _ _
  refine z_iconst (q := 1) (v := 0) dX11_newPit_0 (by decide) rfl ?_
  refine z_istore_n (q := 2) (L' := [some (.ref l0), some (.int l1), some (.int 0)]) dX11_newPit_1 rfl (Nat.le_of_ble_eq_true rfl) rfl rfl rfl ?_
  exact hF
set_option maxRecDepth 100000 in
set_option maxHeartbeats 4000000 in
theorem wX11_close_194 {ψ : Int32 → ZH → Prop} {l0 : Nat} {l1 : Int32} {l2 : Int32} {l3 : Int32} {h : ZH} (hF : ((3 ≤ l3 → ψ l2 h) ∧ (¬ 3 ≤ l3 → (zK h l0 = 12) ∧ ((zR h l0 8) ≠ 0) ∧ (zK h (zR h l0 8) = 20) ∧ (vp_in ((3 * l1) + l3) (zN h (zR h l0 8))) ∧ Zt mX11_close (zPI ψ) 0 0 194 [some (.ref l0), some (.int l1), some (.int l2), some (.int (l3 + 1))] [] (zsI h (zR h l0 8) (Int32.toNatClampNeg ((3 * l1) + l3)) 0)))) : Zt mX11_close (zPI ψ) 0 0 194 [some (.ref l0), some (.int l1), some (.int l2), some (.int l3)] [] h := by
  refine z_iload_n (q := 195) dX11_close_194 rfl rfl rfl ?_
  refine z_iconst (q := 196) (v := 3) dX11_close_195 (by decide) rfl ?_
  refine z_icmp_ge (t := 216) (q := 199) dX11_close_196 (by decide) rfl (fun hc => ?_) (fun hc => ?_)
  · have hF := hF.1 hc
    refine z_iload_n (q := 217) dX11_close_216 rfl rfl rfl ?_
    exact z_ireturn dX11_close_217 rfl ⟨_, rfl, hF⟩
  · have hF := hF.2 hc
    refine z_aload_n (q := 200) dX11_close_199 rfl rfl rfl ?_
    obtain ⟨g1, hF⟩ := hF
    obtain ⟨g2, hF⟩ := hF
    refine z_getR (c := 11) (k := 8) (r := (RX11, TX11, 54)) (q := 203) dX11_close_200 rfl (by decide) fl_X11_35 rfl g1 g2 rfl ?_
    refine z_iconst (q := 204) (v := 3) dX11_close_203 (by decide) rfl ?_
    refine z_iload_n (q := 205) dX11_close_204 rfl rfl rfl ?_
    refine z_imul (q := 206) dX11_close_205 rfl ?_
    refine z_iload_n (q := 207) dX11_close_206 rfl rfl rfl ?_
    refine z_iadd (q := 208) dX11_close_207 rfl ?_
    refine z_iconst (q := 209) (v := 0) dX11_close_208 (by decide) rfl ?_
    obtain ⟨g3, hF⟩ := hF
    obtain ⟨g4, hF⟩ := hF
    refine y_iast (j := (Int32.toNatClampNeg ((3 * l1) + l3))) (q := 210) dX11_close_209 g3 g4 rfl rfl ?_
    refine z_iinc (q := 213) (v := (l3 + 1)) (L' := [some (.ref l0), some (.int l1), some (.int l2), some (.int (l3 + 1))]) dX11_close_210 rfl rfl (Nat.le_of_ble_eq_true rfl) rfl rfl rfl ?_
    refine z_goto (q := 194) dX11_close_213 (by decide) ?_
    exact hF
set_option maxRecDepth 100000 in
set_option maxHeartbeats 4000000 in
theorem wX11_close_92 {ψ : Int32 → ZH → Prop} {l0 : Nat} {l1 : Int32} {l2 : Int32} {l3 : Int32} {h : ZH} (hF : (zK h l0 = 12) ∧ (((zI h l0 24) ≤ l3 → ((zR h l0 7) ≠ 0) ∧ (zK h (zR h l0 7) = 21) ∧ (vp_in l1 (zN h (zR h l0 7))) ∧ Zt mX11_close (zPI ψ) 0 0 194 [some (.ref l0), some (.int l1), some (.int l2), some (.int 0)] [] (zsI h (zR h l0 7) (Int32.toNatClampNeg l1) 0)) ∧ (¬ (zI h l0 24) ≤ l3 → ((zR h l0 30) ≠ 0) ∧ (zK h (zR h l0 30) = 20) ∧ (vp_in l3 (zN h (zR h l0 30))) ∧ ((0 ≤ (zI h (zR h l0 30) (Int32.toNatClampNeg l3)) → ((zR h l0 14) ≠ 0) ∧ ((zR h l0 23) ≠ 0) ∧ (zK h (zR h l0 23) = 20) ∧ (vp_in l3 (zN h (zR h l0 23))) ∧ ((zR h l0 26) ≠ 0) ∧ (zK h (zR h l0 26) = 20) ∧ (vp_in (zI h (zR h l0 30) (Int32.toNatClampNeg l3)) (zN h (zR h l0 26))) ∧ (zK h (zR h l0 14) = 20) ∧ (vp_in (zI h (zR h l0 23) (Int32.toNatClampNeg l3)) (zN h (zR h l0 14))) ∧ ((zR h l0 8) ≠ 0) ∧ ∀ h22 : ZH, h22 = (zsI h (zR h l0 14) (Int32.toNatClampNeg (zI h (zR h l0 23) (Int32.toNatClampNeg l3))) (zI h (zR h l0 26) (Int32.toNatClampNeg (zI h (zR h l0 30) (Int32.toNatClampNeg l3))))) → (zK h22 (zR h l0 30) = 20) ∧ (vp_in l3 (zN h22 (zR h l0 30))) ∧ (zK h22 (zR h l0 26) = 20) ∧ (vp_in (zI h22 (zR h l0 30) (Int32.toNatClampNeg l3)) (zN h22 (zR h l0 26))) ∧ (zK h22 l0 = 12) ∧ ((zR h22 l0 27) ≠ 0) ∧ ((zR h22 l0 30) ≠ 0) ∧ (zK h22 (zR h22 l0 30) = 20) ∧ (vp_in l3 (zN h22 (zR h22 l0 30))) ∧ (zK h22 (zR h22 l0 27) = 20) ∧ (vp_in (zI h22 (zR h22 l0 30) (Int32.toNatClampNeg l3)) (zN h22 (zR h22 l0 27))) ∧ (zK h22 (zR h l0 8) = 20) ∧ (vp_in ((3 * (zI h22 (zR h l0 26) (Int32.toNatClampNeg (zI h22 (zR h l0 30) (Int32.toNatClampNeg l3))))) + (zI h22 (zR h22 l0 27) (Int32.toNatClampNeg (zI h22 (zR h22 l0 30) (Int32.toNatClampNeg l3))))) (zN h22 (zR h l0 8))) ∧ Zt mX11_close (zPI ψ) 0 0 92 [some (.ref l0), some (.int l1), some (.int l2), some (.int (l3 + 1))] [] (zsI h22 (zR h l0 8) (Int32.toNatClampNeg ((3 * (zI h22 (zR h l0 26) (Int32.toNatClampNeg (zI h22 (zR h l0 30) (Int32.toNatClampNeg l3))))) + (zI h22 (zR h22 l0 27) (Int32.toNatClampNeg (zI h22 (zR h22 l0 30) (Int32.toNatClampNeg l3)))))) ((zI h22 (zR h l0 8) (Int32.toNatClampNeg ((3 * (zI h22 (zR h l0 26) (Int32.toNatClampNeg (zI h22 (zR h l0 30) (Int32.toNatClampNeg l3))))) + (zI h22 (zR h22 l0 27) (Int32.toNatClampNeg (zI h22 (zR h22 l0 30) (Int32.toNatClampNeg l3))))))) - 1))) ∧ (¬ 0 ≤ (zI h (zR h l0 30) (Int32.toNatClampNeg l3)) → ((zR h l0 23) ≠ 0) ∧ (zK h (zR h l0 23) = 20) ∧ (vp_in l3 (zN h (zR h l0 23))) ∧ ZcV mX11_become [.ref l0, .int (zI h (zR h l0 23) (Int32.toNatClampNeg l3)), .int 3] h (fun h40 => Zt mX11_close (zPI ψ) 0 0 92 [some (.ref l0), some (.int l1), some (.int l2), some (.int (l3 + 1))] [] h40)))))) : Zt mX11_close (zPI ψ) 0 0 92 [some (.ref l0), some (.int l1), some (.int l2), some (.int l3)] [] h := by
  refine z_iload_n (q := 93) dX11_close_92 rfl rfl rfl ?_
  refine z_aload_n (q := 94) dX11_close_93 rfl rfl rfl ?_
  obtain ⟨g5, hF⟩ := hF
  refine z_getI (c := 11) (k := 24) (r := (RX11, TX11, 54)) (q := 97) dX11_close_94 rfl (by decide) fl_X11_255 rfl g5 rfl ?_
  refine z_icmp_ge (t := 185) (q := 100) dX11_close_97 (by decide) rfl (fun hc => ?_) (fun hc => ?_)
  · have hF := hF.1 hc
    refine z_aload_n (q := 186) dX11_close_185 rfl rfl rfl ?_
    obtain ⟨g6, hF⟩ := hF
    refine z_getR (c := 11) (k := 7) (r := (RX11, TX11, 54)) (q := 189) dX11_close_186 rfl (by decide) fl_X11_31 rfl g5 g6 rfl ?_
    refine z_iload_n (q := 190) dX11_close_189 rfl rfl rfl ?_
    refine z_iconst (q := 191) (v := 0) dX11_close_190 (by decide) rfl ?_
    obtain ⟨g7, hF⟩ := hF
    obtain ⟨g8, hF⟩ := hF
    refine y_bast (j := (Int32.toNatClampNeg l1)) (q := 192) dX11_close_191 g7 g8 (by decide) rfl rfl ?_
    refine z_iconst (q := 193) (v := 0) dX11_close_192 (by decide) rfl ?_
    refine z_istore_n (q := 194) (L' := [some (.ref l0), some (.int l1), some (.int l2), some (.int 0)]) dX11_close_193 rfl (Nat.le_of_ble_eq_true rfl) rfl rfl rfl ?_
    exact hF
  · have hF := hF.2 hc
    refine z_aload_n (q := 101) dX11_close_100 rfl rfl rfl ?_
    obtain ⟨g9, hF⟩ := hF
    refine z_getR (c := 11) (k := 30) (r := (RX11, TX11, 54)) (q := 104) dX11_close_101 rfl (by decide) fl_X11_84 rfl g5 g9 rfl ?_
    refine z_iload_n (q := 105) dX11_close_104 rfl rfl rfl ?_
    obtain ⟨g10, hF⟩ := hF
    obtain ⟨g11, hF⟩ := hF
    refine y_iald (j := (Int32.toNatClampNeg l3)) (q := 106) dX11_close_105 (Or.inl g10) g11 rfl rfl ?_
    refine z_if_ge (t := 123) (q := 109) dX11_close_106 (by decide) rfl (fun hc => ?_) (fun hc => ?_)
    · have hF := hF.1 hc
      refine z_aload_n (q := 124) dX11_close_123 rfl rfl rfl ?_
      obtain ⟨g12, hF⟩ := hF
      refine z_getR (c := 11) (k := 14) (r := (RX11, TX11, 54)) (q := 127) dX11_close_124 rfl (by decide) fl_X11_50 rfl g5 g12 rfl ?_
      refine z_aload_n (q := 128) dX11_close_127 rfl rfl rfl ?_
      obtain ⟨g13, hF⟩ := hF
      refine z_getR (c := 11) (k := 23) (r := (RX11, TX11, 54)) (q := 131) dX11_close_128 rfl (by decide) fl_X11_71 rfl g5 g13 rfl ?_
      refine z_iload_n (q := 132) dX11_close_131 rfl rfl rfl ?_
      obtain ⟨g14, hF⟩ := hF
      obtain ⟨g15, hF⟩ := hF
      refine y_iald (j := (Int32.toNatClampNeg l3)) (q := 133) dX11_close_132 (Or.inl g14) g15 rfl rfl ?_
      refine z_aload_n (q := 134) dX11_close_133 rfl rfl rfl ?_
      obtain ⟨g16, hF⟩ := hF
      refine z_getR (c := 11) (k := 26) (r := (RX11, TX11, 54)) (q := 137) dX11_close_134 rfl (by decide) fl_X11_74 rfl g5 g16 rfl ?_
      refine z_aload_n (q := 138) dX11_close_137 rfl rfl rfl ?_
      refine z_getR (c := 11) (k := 30) (r := (RX11, TX11, 54)) (q := 141) dX11_close_138 rfl (by decide) fl_X11_84 rfl g5 g9 rfl ?_
      refine z_iload_n (q := 142) dX11_close_141 rfl rfl rfl ?_
      refine y_iald (j := (Int32.toNatClampNeg l3)) (q := 143) dX11_close_142 (Or.inl g10) g11 rfl rfl ?_
      obtain ⟨g17, hF⟩ := hF
      obtain ⟨g18, hF⟩ := hF
      refine y_iald (j := (Int32.toNatClampNeg (zI h (zR h l0 30) (Int32.toNatClampNeg l3)))) (q := 144) dX11_close_143 (Or.inl g17) g18 rfl rfl ?_
      obtain ⟨g19, hF⟩ := hF
      obtain ⟨g20, hF⟩ := hF
      refine y_iast (j := (Int32.toNatClampNeg (zI h (zR h l0 23) (Int32.toNatClampNeg l3)))) (q := 145) dX11_close_144 g19 g20 rfl rfl ?_
      refine z_aload_n (q := 146) dX11_close_145 rfl rfl rfl ?_
      obtain ⟨g21, hF⟩ := hF
      refine z_getR (c := 11) (k := 8) (r := (RX11, TX11, 54)) (q := 149) dX11_close_146 rfl (by decide) fl_X11_35 rfl g5 g21 rfl ?_
      refine z_iconst (q := 150) (v := 3) dX11_close_149 (by decide) rfl ?_
      refine z_aload_n (q := 151) dX11_close_150 rfl rfl rfl ?_
      refine z_getR (c := 11) (k := 26) (r := (RX11, TX11, 54)) (q := 154) dX11_close_151 rfl (by decide) fl_X11_74 rfl g5 g16 rfl ?_
      refine z_aload_n (q := 155) dX11_close_154 rfl rfl rfl ?_
      refine z_getR (c := 11) (k := 30) (r := (RX11, TX11, 54)) (q := 158) dX11_close_155 rfl (by decide) fl_X11_84 rfl g5 g9 rfl ?_
      refine z_iload_n (q := 159) dX11_close_158 rfl rfl rfl ?_
      refine z_nameH (fun h22 eh23 => ?_)
      have hF := hF h22 eh23
      obtain ⟨g24, hF⟩ := hF
      obtain ⟨g25, hF⟩ := hF
      refine y_iald (j := (Int32.toNatClampNeg l3)) (q := 160) dX11_close_159 (Or.inl g24) g25 rfl rfl ?_
      obtain ⟨g26, hF⟩ := hF
      obtain ⟨g27, hF⟩ := hF
      refine y_iald (j := (Int32.toNatClampNeg (zI h22 (zR h l0 30) (Int32.toNatClampNeg l3)))) (q := 161) dX11_close_160 (Or.inl g26) g27 rfl rfl ?_
      refine z_imul (q := 162) dX11_close_161 rfl ?_
      refine z_aload_n (q := 163) dX11_close_162 rfl rfl rfl ?_
      obtain ⟨g28, hF⟩ := hF
      obtain ⟨g29, hF⟩ := hF
      refine z_getR (c := 11) (k := 27) (r := (RX11, TX11, 54)) (q := 166) dX11_close_163 rfl (by decide) fl_X11_77 rfl g28 g29 rfl ?_
      refine z_aload_n (q := 167) dX11_close_166 rfl rfl rfl ?_
      obtain ⟨g30, hF⟩ := hF
      refine z_getR (c := 11) (k := 30) (r := (RX11, TX11, 54)) (q := 170) dX11_close_167 rfl (by decide) fl_X11_84 rfl g28 g30 rfl ?_
      refine z_iload_n (q := 171) dX11_close_170 rfl rfl rfl ?_
      obtain ⟨g31, hF⟩ := hF
      obtain ⟨g32, hF⟩ := hF
      refine y_iald (j := (Int32.toNatClampNeg l3)) (q := 172) dX11_close_171 (Or.inl g31) g32 rfl rfl ?_
      obtain ⟨g33, hF⟩ := hF
      obtain ⟨g34, hF⟩ := hF
      refine y_iald (j := (Int32.toNatClampNeg (zI h22 (zR h22 l0 30) (Int32.toNatClampNeg l3)))) (q := 173) dX11_close_172 (Or.inl g33) g34 rfl rfl ?_
      refine z_iadd (q := 174) dX11_close_173 rfl ?_
      refine z_dup2 (q := 175) dX11_close_174 rfl rfl rfl ?_
      obtain ⟨g35, hF⟩ := hF
      obtain ⟨g36, hF⟩ := hF
      refine y_iald (j := (Int32.toNatClampNeg ((3 * (zI h22 (zR h l0 26) (Int32.toNatClampNeg (zI h22 (zR h l0 30) (Int32.toNatClampNeg l3))))) + (zI h22 (zR h22 l0 27) (Int32.toNatClampNeg (zI h22 (zR h22 l0 30) (Int32.toNatClampNeg l3))))))) (q := 176) dX11_close_175 (Or.inl g35) g36 rfl rfl ?_
      refine z_iconst (q := 177) (v := 1) dX11_close_176 (by decide) rfl ?_
      refine z_isub (q := 178) dX11_close_177 rfl ?_
      refine y_iast (j := (Int32.toNatClampNeg ((3 * (zI h22 (zR h l0 26) (Int32.toNatClampNeg (zI h22 (zR h l0 30) (Int32.toNatClampNeg l3))))) + (zI h22 (zR h22 l0 27) (Int32.toNatClampNeg (zI h22 (zR h22 l0 30) (Int32.toNatClampNeg l3))))))) (q := 179) dX11_close_178 g35 g36 rfl rfl ?_
      refine z_iinc (q := 182) (v := (l3 + 1)) (L' := [some (.ref l0), some (.int l1), some (.int l2), some (.int (l3 + 1))]) dX11_close_179 rfl rfl (Nat.le_of_ble_eq_true rfl) rfl rfl rfl ?_
      refine z_goto (q := 92) dX11_close_182 (by decide) ?_
      exact hF
    · have hF := hF.2 hc
      refine z_aload_n (q := 110) dX11_close_109 rfl rfl rfl ?_
      refine z_aload_n (q := 111) dX11_close_110 rfl rfl rfl ?_
      obtain ⟨g37, hF⟩ := hF
      refine z_getR (c := 11) (k := 23) (r := (RX11, TX11, 54)) (q := 114) dX11_close_111 rfl (by decide) fl_X11_71 rfl g5 g37 rfl ?_
      refine z_iload_n (q := 115) dX11_close_114 rfl rfl rfl ?_
      obtain ⟨g38, hF⟩ := hF
      obtain ⟨g39, hF⟩ := hF
      refine y_iald (j := (Int32.toNatClampNeg l3)) (q := 116) dX11_close_115 (Or.inl g38) g39 rfl rfl ?_
      refine z_iconst (q := 117) (v := 3) dX11_close_116 (by decide) rfl ?_
      refine z_callVV (rc := 0) (rs := 0) (b := l0) (av := [.int (zI h (zR h l0 23) (Int32.toNatClampNeg l3)), .int 3]) (ci := 11) (r := (RX11, TX11, 54)) (q := 120) hF dX11_close_117 ml_X11_190 ok_X11_become in_X11_become se_X11_become rfl rfl g5 rfl (Nat.le_of_ble_eq_true rfl) (by decide) (Nat.le_of_ble_eq_true rfl) rfl rfl rfl rfl (fun h40 hF => ?_)
      refine z_goto (q := 179) dX11_close_120 (by decide) ?_
      refine z_iinc (q := 182) (v := (l3 + 1)) (L' := [some (.ref l0), some (.int l1), some (.int l2), some (.int (l3 + 1))]) dX11_close_179 rfl rfl (Nat.le_of_ble_eq_true rfl) rfl rfl rfl ?_
      refine z_goto (q := 92) dX11_close_182 (by decide) ?_
      exact hF
set_option maxRecDepth 100000 in
set_option maxHeartbeats 4000000 in
theorem wX11_close_52 {ψ : Int32 → ZH → Prop} {l0 : Nat} {l1 : Int32} {l2 : Int32} {l3 : Int32} {h : ZH} (hF : (zK h l0 = 12) ∧ (((zI h l0 17) ≤ l3 → Zt mX11_close (zPI ψ) 0 0 92 [some (.ref l0), some (.int l1), some (.int l2), some (.int 0)] [] h) ∧ (¬ (zI h l0 17) ≤ l3 → ((zR h l0 14) ≠ 0) ∧ (zK h (zR h l0 14) = 20) ∧ (vp_in l3 (zN h (zR h l0 14))) ∧ ((¬ (zI h (zR h l0 14) (Int32.toNatClampNeg l3)) = l1 → Zt mX11_close (zPI ψ) 0 0 52 [some (.ref l0), some (.int l1), some (.int l2), some (.int (l3 + 1))] [] h) ∧ ((zI h (zR h l0 14) (Int32.toNatClampNeg l3)) = l1 → ZcI mX11_isMover [.ref l0, .int l3] h (fun x46 h45 => ((¬ x46 = 0 → Zt mX11_close (zPI ψ) 0 0 52 [some (.ref l0), some (.int l1), some (.int l2), some (.int (l3 + 1))] [] h45) ∧ (x46 = 0 → (zK h45 l0 = 12) ∧ ZcV mX11_become [.ref l0, .int l3, .int 1] h45 (fun h47 => Zt mX11_close (zPI ψ) 0 0 52 [some (.ref l0), some (.int l1), some (.int l2), some (.int (l3 + 1))] [] h47))))))))) : Zt mX11_close (zPI ψ) 0 0 52 [some (.ref l0), some (.int l1), some (.int l2), some (.int l3)] [] h := by
  refine z_iload_n (q := 53) dX11_close_52 rfl rfl rfl ?_
  refine z_aload_n (q := 54) dX11_close_53 rfl rfl rfl ?_
  obtain ⟨g41, hF⟩ := hF
  refine z_getI (c := 11) (k := 17) (r := (RX11, TX11, 54)) (q := 57) dX11_close_54 rfl (by decide) fl_X11_166 rfl g41 rfl ?_
  refine z_icmp_ge (t := 90) (q := 60) dX11_close_57 (by decide) rfl (fun hc => ?_) (fun hc => ?_)
  · have hF := hF.1 hc
    refine z_iconst (q := 91) (v := 0) dX11_close_90 (by decide) rfl ?_
    refine z_istore_n (q := 92) (L' := [some (.ref l0), some (.int l1), some (.int l2), some (.int 0)]) dX11_close_91 rfl (Nat.le_of_ble_eq_true rfl) rfl rfl rfl ?_
    exact hF
  · have hF := hF.2 hc
    refine z_aload_n (q := 61) dX11_close_60 rfl rfl rfl ?_
    obtain ⟨g42, hF⟩ := hF
    refine z_getR (c := 11) (k := 14) (r := (RX11, TX11, 54)) (q := 64) dX11_close_61 rfl (by decide) fl_X11_50 rfl g41 g42 rfl ?_
    refine z_iload_n (q := 65) dX11_close_64 rfl rfl rfl ?_
    obtain ⟨g43, hF⟩ := hF
    obtain ⟨g44, hF⟩ := hF
    refine y_iald (j := (Int32.toNatClampNeg l3)) (q := 66) dX11_close_65 (Or.inl g43) g44 rfl rfl ?_
    refine z_iload_n (q := 67) dX11_close_66 rfl rfl rfl ?_
    refine z_icmp_ne (t := 84) (q := 70) dX11_close_67 (by decide) rfl (fun hc => ?_) (fun hc => ?_)
    · have hF := hF.1 hc
      refine z_iinc (q := 87) (v := (l3 + 1)) (L' := [some (.ref l0), some (.int l1), some (.int l2), some (.int (l3 + 1))]) dX11_close_84 rfl rfl (Nat.le_of_ble_eq_true rfl) rfl rfl rfl ?_
      refine z_goto (q := 52) dX11_close_87 (by decide) ?_
      exact hF
    · have hF := hF.2 hc
      refine z_aload_n (q := 71) dX11_close_70 rfl rfl rfl ?_
      refine z_iload_n (q := 72) dX11_close_71 rfl rfl rfl ?_
      refine z_callVI (rc := 0) (rs := 0) (b := l0) (av := [.int l3]) (ci := 11) (r := (RX11, TX11, 54)) (q := 75) hF dX11_close_72 ml_X11_288 ok_X11_isMover in_X11_isMover se_X11_isMover rfl rfl g41 rfl (Nat.le_of_ble_eq_true rfl) (by decide) (Nat.le_of_ble_eq_true rfl) rfl rfl rfl rfl (fun x46 h45 hF => ?_)
      refine z_if_ne (t := 84) (q := 78) dX11_close_75 (by decide) rfl (fun hc => ?_) (fun hc => ?_)
      · have hF := hF.1 hc
        refine z_iinc (q := 87) (v := (l3 + 1)) (L' := [some (.ref l0), some (.int l1), some (.int l2), some (.int (l3 + 1))]) dX11_close_84 rfl rfl (Nat.le_of_ble_eq_true rfl) rfl rfl rfl ?_
        refine z_goto (q := 52) dX11_close_87 (by decide) ?_
        exact hF
      · have hF := hF.2 hc
        refine z_aload_n (q := 79) dX11_close_78 rfl rfl rfl ?_
        refine z_iload_n (q := 80) dX11_close_79 rfl rfl rfl ?_
        refine z_iconst (q := 81) (v := 1) dX11_close_80 (by decide) rfl ?_
        obtain ⟨g48, hF⟩ := hF
        refine z_callVV (rc := 0) (rs := 0) (b := l0) (av := [.int l3, .int 1]) (ci := 11) (r := (RX11, TX11, 54)) (q := 84) hF dX11_close_81 ml_X11_190 ok_X11_become in_X11_become se_X11_become rfl rfl g48 rfl (Nat.le_of_ble_eq_true rfl) (by decide) (Nat.le_of_ble_eq_true rfl) rfl rfl rfl rfl (fun h47 hF => ?_)
        refine z_iinc (q := 87) (v := (l3 + 1)) (L' := [some (.ref l0), some (.int l1), some (.int l2), some (.int (l3 + 1))]) dX11_close_84 rfl rfl (Nat.le_of_ble_eq_true rfl) rfl rfl rfl ?_
        refine z_goto (q := 52) dX11_close_87 (by decide) ?_
        exact hF
set_option maxRecDepth 100000 in
set_option maxHeartbeats 4000000 in
theorem wX11_close {ψ : Int32 → ZH → Prop} {l0 : Nat} {l1 : Int32} {h : ZH} (hF : (zK h l0 = 12) ∧ ZcI mX11_isPit [.ref l0, .int l1] h (fun x51 h49 => ((¬ x51 = 0 → (zK h49 l0 = 12) ∧ ((zR h49 l0 7) ≠ 0) ∧ (zK h49 (zR h49 l0 7) = 21) ∧ (vp_in l1 (zN h49 (zR h49 l0 7))) ∧ ((¬ (zI h49 (zR h49 l0 7) (Int32.toNatClampNeg l1)) = 0 → ZcV mX11_findMove [.ref l0, .int l1] h49 (fun h56 => (zK h56 l0 = 12) ∧ (((zI h56 l0 24) ≤ 9 → ((zR h56 l0 29) ≠ 0) ∧ (zK h56 (zR h56 l0 29) = 20) ∧ (0 < zN h56 (zR h56 l0 29)) ∧ Zt mX11_close (zPI ψ) 0 0 52 [some (.ref l0), some (.int l1), some (.int ((zI h56 (zR h56 l0 29) 0) / 10000000)), some (.int 0)] [] h56) ∧ (¬ (zI h56 l0 24) ≤ 9 → ψ (-5) h56)))) ∧ ((zI h49 (zR h49 l0 7) (Int32.toNatClampNeg l1)) = 0 → ψ (-3) h49))) ∧ (x51 = 0 → ψ (-1) h49)))) : ZcI mX11_close [.ref l0, .int l1] h ψ := by
  refine Zc.intro (L := [some (.ref l0), some (.int l1), none, none]) (show plainName RX11 = true by decide) rfl (Nat.le_of_ble_eq_true rfl) ?_
  show Zt _ _ 0 0 _ _ _ _
  refine z_aload_n (q := 1) dX11_close_0 rfl rfl rfl ?_
  refine z_iload_n (q := 2) dX11_close_1 rfl rfl rfl ?_
  obtain ⟨g50, hF⟩ := hF
  refine z_callVI (rc := 0) (rs := 0) (b := l0) (av := [.int l1]) (ci := 11) (r := (RX11, TX11, 54)) (q := 5) hF dX11_close_2 ml_X11_169 ok_X11_isPit in_X11_isPit se_X11_isPit rfl rfl g50 rfl (Nat.le_of_ble_eq_true rfl) (by decide) (Nat.le_of_ble_eq_true rfl) rfl rfl rfl rfl (fun x51 h49 hF => ?_)
  refine z_if_ne (t := 10) (q := 8) dX11_close_5 (by decide) rfl (fun hc => ?_) (fun hc => ?_)
  · have hF := hF.1 hc
    refine z_aload_n (q := 11) dX11_close_10 rfl rfl rfl ?_
    obtain ⟨g52, hF⟩ := hF
    obtain ⟨g53, hF⟩ := hF
    refine z_getR (c := 11) (k := 7) (r := (RX11, TX11, 54)) (q := 14) dX11_close_11 rfl (by decide) fl_X11_31 rfl g52 g53 rfl ?_
    refine z_iload_n (q := 15) dX11_close_14 rfl rfl rfl ?_
    obtain ⟨g54, hF⟩ := hF
    obtain ⟨g55, hF⟩ := hF
    refine y_bald (j := (Int32.toNatClampNeg l1)) (q := 16) dX11_close_15 g54 g55 rfl rfl ?_
    refine z_if_ne (t := 22) (q := 19) dX11_close_16 (by decide) rfl (fun hc => ?_) (fun hc => ?_)
    · have hF := hF.1 hc
      refine z_aload_n (q := 23) dX11_close_22 rfl rfl rfl ?_
      refine z_iload_n (q := 24) dX11_close_23 rfl rfl rfl ?_
      refine z_callVV (rc := 0) (rs := 0) (b := l0) (av := [.int l1]) (ci := 11) (r := (RX11, TX11, 54)) (q := 27) hF dX11_close_24 ml_X11_282 ok_X11_findMove in_X11_findMove se_X11_findMove rfl rfl g52 rfl (Nat.le_of_ble_eq_true rfl) (by decide) (Nat.le_of_ble_eq_true rfl) rfl rfl rfl rfl (fun h56 hF => ?_)
      refine z_aload_n (q := 28) dX11_close_27 rfl rfl rfl ?_
      obtain ⟨g57, hF⟩ := hF
      refine z_getI (c := 11) (k := 24) (r := (RX11, TX11, 54)) (q := 31) dX11_close_28 rfl (by decide) fl_X11_255 rfl g57 rfl ?_
      refine z_bipush (q := 33) (v := 9) dX11_close_31 (by decide) rfl ?_
      refine z_icmp_le (t := 39) (q := 36) dX11_close_33 (by decide) rfl (fun hc => ?_) (fun hc => ?_)
      · have hF := hF.1 hc
        refine z_aload_n (q := 40) dX11_close_39 rfl rfl rfl ?_
        obtain ⟨g58, hF⟩ := hF
        refine z_getR (c := 11) (k := 29) (r := (RX11, TX11, 54)) (q := 43) dX11_close_40 rfl (by decide) fl_X11_81 rfl g57 g58 rfl ?_
        refine z_iconst (q := 44) (v := 0) dX11_close_43 (by decide) rfl ?_
        obtain ⟨g59, hF⟩ := hF
        obtain ⟨g60, hF⟩ := hF
        refine y_iald (j := 0) (q := 45) dX11_close_44 (Or.inl g59) (zvin (by decide) (by decide) g60) (by decide) rfl ?_
        refine z_ldcw (q := 48) (v := 10000000) dX11_close_45 cw_X11_273 rfl ?_
        refine z_idiv (q := 49) dX11_close_48 (by decide) rfl ?_
        refine z_istore_n (q := 50) (L' := [some (.ref l0), some (.int l1), some (.int ((zI h56 (zR h56 l0 29) 0) / 10000000)), none]) dX11_close_49 rfl (Nat.le_of_ble_eq_true rfl) rfl rfl rfl ?_
        refine z_iconst (q := 51) (v := 0) dX11_close_50 (by decide) rfl ?_
        refine z_istore_n (q := 52) (L' := [some (.ref l0), some (.int l1), some (.int ((zI h56 (zR h56 l0 29) 0) / 10000000)), some (.int 0)]) dX11_close_51 rfl (Nat.le_of_ble_eq_true rfl) rfl rfl rfl ?_
        exact hF
      · have hF := hF.2 hc
        refine z_bipush (q := 38) (v := (-5)) dX11_close_36 (by decide) rfl ?_
        exact z_ireturn dX11_close_38 rfl ⟨_, rfl, hF⟩
    · have hF := hF.2 hc
      refine z_bipush (q := 21) (v := (-3)) dX11_close_19 (by decide) rfl ?_
      exact z_ireturn dX11_close_21 rfl ⟨_, rfl, hF⟩
  · have hF := hF.2 hc
    refine z_iconst (q := 9) (v := (-1)) dX11_close_8 (by decide) rfl ?_
    exact z_ireturn dX11_close_9 rfl ⟨_, rfl, hF⟩
set_option maxRecDepth 100000 in
set_option maxHeartbeats 4000000 in
theorem wX11_isMover_4 {ψ : Int32 → ZH → Prop} {l0 : Nat} {l1 : Int32} {l2 : Int32} {l3 : Int32} {h : ZH} (hF : (zK h l0 = 12) ∧ (((zI h l0 24) ≤ l3 → (l2 = 0 ∨ l2 = 1) ∧ ψ l2 h) ∧ (¬ (zI h l0 24) ≤ l3 → ((¬ l2 = 0 → Zt mX11_isMover (zPI ψ) 0 0 4 [some (.ref l0), some (.int l1), some (.int 1), some (.int (l3 + 1))] [] h) ∧ (l2 = 0 → ((zR h l0 23) ≠ 0) ∧ (zK h (zR h l0 23) = 20) ∧ (vp_in l3 (zN h (zR h l0 23))) ∧ ((¬ (zI h (zR h l0 23) (Int32.toNatClampNeg l3)) = l1 → Zt mX11_isMover (zPI ψ) 0 0 4 [some (.ref l0), some (.int l1), some (.int 0), some (.int (l3 + 1))] [] h) ∧ ((zI h (zR h l0 23) (Int32.toNatClampNeg l3)) = l1 → Zt mX11_isMover (zPI ψ) 0 0 4 [some (.ref l0), some (.int l1), some (.int 1), some (.int (l3 + 1))] [] h))))))) : Zt mX11_isMover (zPI ψ) 0 0 4 [some (.ref l0), some (.int l1), some (.int l2), some (.int l3)] [] h := by
  refine z_iload_n (q := 5) dX11_isMover_4 rfl rfl rfl ?_
  refine z_aload_n (q := 6) dX11_isMover_5 rfl rfl rfl ?_
  obtain ⟨g1, hF⟩ := hF
  refine z_getI (c := 11) (k := 24) (r := (RX11, TX11, 54)) (q := 9) dX11_isMover_6 rfl (by decide) fl_X11_255 rfl g1 rfl ?_
  refine z_icmp_ge (t := 38) (q := 12) dX11_isMover_9 (by decide) rfl (fun hc => ?_) (fun hc => ?_)
  · have hF := hF.1 hc
    refine z_iload_n (q := 39) dX11_isMover_38 rfl rfl rfl ?_
    obtain ⟨g2, hF⟩ := hF
    exact z_zreturn dX11_isMover_39 rfl g2 ⟨_, rfl, hF⟩
  · have hF := hF.2 hc
    refine z_iload_n (q := 13) dX11_isMover_12 rfl rfl rfl ?_
    refine z_if_ne (t := 26) (q := 16) dX11_isMover_13 (by decide) rfl (fun hc => ?_) (fun hc => ?_)
    · have hF := hF.1 hc
      refine z_iconst (q := 27) (v := 1) dX11_isMover_26 (by decide) rfl ?_
      refine z_goto (q := 31) dX11_isMover_27 (by decide) ?_
      refine z_istore_n (q := 32) (L' := [some (.ref l0), some (.int l1), some (.int 1), some (.int l3)]) dX11_isMover_31 rfl (Nat.le_of_ble_eq_true rfl) rfl rfl rfl ?_
      refine z_iinc (q := 35) (v := (l3 + 1)) (L' := [some (.ref l0), some (.int l1), some (.int 1), some (.int (l3 + 1))]) dX11_isMover_32 rfl rfl (Nat.le_of_ble_eq_true rfl) rfl rfl rfl ?_
      refine z_goto (q := 4) dX11_isMover_35 (by decide) ?_
      exact hF
    · have hF := hF.2 hc
      refine z_aload_n (q := 17) dX11_isMover_16 rfl rfl rfl ?_
      obtain ⟨g3, hF⟩ := hF
      refine z_getR (c := 11) (k := 23) (r := (RX11, TX11, 54)) (q := 20) dX11_isMover_17 rfl (by decide) fl_X11_71 rfl g1 g3 rfl ?_
      refine z_iload_n (q := 21) dX11_isMover_20 rfl rfl rfl ?_
      obtain ⟨g4, hF⟩ := hF
      obtain ⟨g5, hF⟩ := hF
      refine y_iald (j := (Int32.toNatClampNeg l3)) (q := 22) dX11_isMover_21 (Or.inl g4) g5 rfl rfl ?_
      refine z_iload_n (q := 23) dX11_isMover_22 rfl rfl rfl ?_
      refine z_icmp_ne (t := 30) (q := 26) dX11_isMover_23 (by decide) rfl (fun hc => ?_) (fun hc => ?_)
      · have hF := hF.1 hc
        refine z_iconst (q := 31) (v := 0) dX11_isMover_30 (by decide) rfl ?_
        refine z_istore_n (q := 32) (L' := [some (.ref l0), some (.int l1), some (.int 0), some (.int l3)]) dX11_isMover_31 rfl (Nat.le_of_ble_eq_true rfl) rfl rfl rfl ?_
        refine z_iinc (q := 35) (v := (l3 + 1)) (L' := [some (.ref l0), some (.int l1), some (.int 0), some (.int (l3 + 1))]) dX11_isMover_32 rfl rfl (Nat.le_of_ble_eq_true rfl) rfl rfl rfl ?_
        refine z_goto (q := 4) dX11_isMover_35 (by decide) ?_
        exact hF
      · have hF := hF.2 hc
        refine z_iconst (q := 27) (v := 1) dX11_isMover_26 (by decide) rfl ?_
        refine z_goto (q := 31) dX11_isMover_27 (by decide) ?_
        refine z_istore_n (q := 32) (L' := [some (.ref l0), some (.int l1), some (.int 1), some (.int l3)]) dX11_isMover_31 rfl (Nat.le_of_ble_eq_true rfl) rfl rfl rfl ?_
        refine z_iinc (q := 35) (v := (l3 + 1)) (L' := [some (.ref l0), some (.int l1), some (.int 1), some (.int (l3 + 1))]) dX11_isMover_32 rfl rfl (Nat.le_of_ble_eq_true rfl) rfl rfl rfl ?_
        refine z_goto (q := 4) dX11_isMover_35 (by decide) ?_
        exact hF
set_option maxRecDepth 100000 in
set_option maxHeartbeats 4000000 in
theorem wX11_isMover {ψ : Int32 → ZH → Prop} {l0 : Nat} {l1 : Int32} {h : ZH} (hF : Zt mX11_isMover (zPI ψ) 0 0 4 [some (.ref l0), some (.int l1), some (.int 0), some (.int 0)] [] h) : ZcI mX11_isMover [.ref l0, .int l1] h ψ := by
  refine Zc.intro (L := [some (.ref l0), some (.int l1), none, none]) (show plainName RX11 = true by decide) rfl (Nat.le_of_ble_eq_true rfl) ?_
  show Zt _ _ 0 0 _ _ _ _
  refine z_iconst (q := 1) (v := 0) dX11_isMover_0 (by decide) rfl ?_
  refine z_istore_n (q := 2) (L' := [some (.ref l0), some (.int l1), some (.int 0), none]) dX11_isMover_1 rfl (Nat.le_of_ble_eq_true rfl) rfl rfl rfl ?_
  refine z_iconst (q := 3) (v := 0) dX11_isMover_2 (by decide) rfl ?_
  refine z_istore_n (q := 4) (L' := [some (.ref l0), some (.int l1), some (.int 0), some (.int 0)]) dX11_isMover_3 rfl (Nat.le_of_ble_eq_true rfl) rfl rfl rfl ?_
  exact hF
set_option maxRecDepth 100000 in
set_option maxHeartbeats 4000000 in
theorem wX11_inflow {ψ : Int32 → ZH → Prop} {l0 : Nat} {l1 : Int32} {l2 : Int32} {h : ZH} (hF : (zK h l0 = 12) ∧ ZcI mX11_isPit [.ref l0, .int l1] h (fun x3 h1 => ((¬ x3 = 0 → ZcI mX11_in [.long (Int32.toInt64 l2), .long 0, .long 100] h1 (fun x5 h4 => ((¬ x5 = 0 → (zK h4 l0 = 12) ∧ ((zR h4 l0 32) ≠ 0) ∧ (zK h4 (zR h4 l0 32) = 20) ∧ (vp_in l1 (zN h4 (zR h4 l0 32))) ∧ ∀ v10 : Int32, v10 = (zI h4 (zR h4 l0 32) (Int32.toNatClampNeg l1)) → ψ v10 (zsI h4 (zR h4 l0 32) (Int32.toNatClampNeg l1) l2)) ∧ (x5 = 0 → ψ (-2) h4)))) ∧ (x3 = 0 → ψ (-1) h1)))) : ZcI mX11_inflow [.ref l0, .int l1, .int l2] h ψ := by
  refine Zc.intro (L := [some (.ref l0), some (.int l1), some (.int l2), none]) (show plainName RX11 = true by decide) rfl (Nat.le_of_ble_eq_true rfl) ?_
  show Zt _ _ 0 0 _ _ _ _
  refine z_aload_n (q := 1) dX11_inflow_0 rfl rfl rfl ?_
  refine z_iload_n (q := 2) dX11_inflow_1 rfl rfl rfl ?_
  obtain ⟨g2, hF⟩ := hF
  refine z_callVI (rc := 0) (rs := 0) (b := l0) (av := [.int l1]) (ci := 11) (r := (RX11, TX11, 54)) (q := 5) hF dX11_inflow_2 ml_X11_169 ok_X11_isPit in_X11_isPit se_X11_isPit rfl rfl g2 rfl (Nat.le_of_ble_eq_true rfl) (by decide) (Nat.le_of_ble_eq_true rfl) rfl rfl rfl rfl (fun x3 h1 hF => ?_)
  refine z_if_ne (t := 10) (q := 8) dX11_inflow_5 (by decide) rfl (fun hc => ?_) (fun hc => ?_)
  · have hF := hF.1 hc
    refine z_iload_n (q := 11) dX11_inflow_10 rfl rfl rfl ?_
    refine z_i2l (q := 12) dX11_inflow_11 rfl ?_
    refine z_lconst (q := 13) (v := 0) dX11_inflow_12 (by decide) rfl ?_
    refine z_ldc2 (q := 16) (v := 100) dX11_inflow_13 cw_X11_291 rfl ?_
    refine z_callSI (rc := 0) (rs := 0) (av := [.long (Int32.toInt64 l2), .long 0, .long 100]) (q := 19) hF dX11_inflow_16 ml_X11_140 ok_X11_in st_X11_in rfl (Nat.le_of_ble_eq_true rfl) (by decide) (Nat.le_of_ble_eq_true rfl) rfl rfl rfl rfl (fun x5 h4 hF => ?_)
    refine z_if_ne (t := 25) (q := 22) dX11_inflow_19 (by decide) rfl (fun hc => ?_) (fun hc => ?_)
    · have hF := hF.1 hc
      refine z_aload_n (q := 26) dX11_inflow_25 rfl rfl rfl ?_
      obtain ⟨g6, hF⟩ := hF
      obtain ⟨g7, hF⟩ := hF
      refine z_getR (c := 11) (k := 32) (r := (RX11, TX11, 54)) (q := 29) dX11_inflow_26 rfl (by decide) fl_X11_90 rfl g6 g7 rfl ?_
      refine z_iload_n (q := 30) dX11_inflow_29 rfl rfl rfl ?_
      obtain ⟨g8, hF⟩ := hF
      obtain ⟨g9, hF⟩ := hF
      refine y_iald (j := (Int32.toNatClampNeg l1)) (q := 31) dX11_inflow_30 (Or.inl g8) g9 rfl rfl ?_
      refine z_nameI (fun v10 ev11 => ?_)
      have hF := hF v10 ev11
      refine z_istore_n (q := 32) (L' := [some (.ref l0), some (.int l1), some (.int l2), some (.int v10)]) dX11_inflow_31 rfl (Nat.le_of_ble_eq_true rfl) rfl rfl rfl ?_
      refine z_aload_n (q := 33) dX11_inflow_32 rfl rfl rfl ?_
      refine z_getR (c := 11) (k := 32) (r := (RX11, TX11, 54)) (q := 36) dX11_inflow_33 rfl (by decide) fl_X11_90 rfl g6 g7 rfl ?_
      refine z_iload_n (q := 37) dX11_inflow_36 rfl rfl rfl ?_
      refine z_iload_n (q := 38) dX11_inflow_37 rfl rfl rfl ?_
      refine y_iast (j := (Int32.toNatClampNeg l1)) (q := 39) dX11_inflow_38 g8 g9 rfl rfl ?_
      refine z_iload_n (q := 40) dX11_inflow_39 rfl rfl rfl ?_
      exact z_ireturn dX11_inflow_40 rfl ⟨_, rfl, hF⟩
    · have hF := hF.2 hc
      refine z_bipush (q := 24) (v := (-2)) dX11_inflow_22 (by decide) rfl ?_
      exact z_ireturn dX11_inflow_24 rfl ⟨_, rfl, hF⟩
  · have hF := hF.2 hc
    refine z_iconst (q := 9) (v := (-1)) dX11_inflow_8 (by decide) rfl ?_
    exact z_ireturn dX11_inflow_9 rfl ⟨_, rfl, hF⟩
set_option maxRecDepth 100000 in
set_option maxHeartbeats 4000000 in
theorem wX11_pump {ψ : Int32 → ZH → Prop} {l0 : Nat} {l1 : Int32} {l2 : Int32} {h : ZH} (hF : (zK h l0 = 12) ∧ ZcI mX11_isPit [.ref l0, .int l1] h (fun x3 h1 => ((¬ x3 = 0 → (zK h1 l0 = 12) ∧ ((zR h1 l0 34) ≠ 0) ∧ (zK h1 (zR h1 l0 34) = 21) ∧ (vp_in l1 (zN h1 (zR h1 l0 34))) ∧ (((zI h1 (zR h1 l0 34) (Int32.toNatClampNeg l1)) = 0 → (l2 = 0 ∨ l2 = 1) ∧ ψ 0 (zsI h1 (zR h1 l0 34) (Int32.toNatClampNeg l1) l2)) ∧ (¬ (zI h1 (zR h1 l0 34) (Int32.toNatClampNeg l1)) = 0 → (l2 = 0 ∨ l2 = 1) ∧ ψ 1 (zsI h1 (zR h1 l0 34) (Int32.toNatClampNeg l1) l2)))) ∧ (x3 = 0 → ψ (-1) h1)))) : ZcI mX11_pump [.ref l0, .int l1, .int l2] h ψ := by
  refine Zc.intro (L := [some (.ref l0), some (.int l1), some (.int l2), none]) (show plainName RX11 = true by decide) rfl (Nat.le_of_ble_eq_true rfl) ?_
  show Zt _ _ 0 0 _ _ _ _
  refine z_aload_n (q := 1) dX11_pump_0 rfl rfl rfl ?_
  refine z_iload_n (q := 2) dX11_pump_1 rfl rfl rfl ?_
  obtain ⟨g2, hF⟩ := hF
  refine z_callVI (rc := 0) (rs := 0) (b := l0) (av := [.int l1]) (ci := 11) (r := (RX11, TX11, 54)) (q := 5) hF dX11_pump_2 ml_X11_169 ok_X11_isPit in_X11_isPit se_X11_isPit rfl rfl g2 rfl (Nat.le_of_ble_eq_true rfl) (by decide) (Nat.le_of_ble_eq_true rfl) rfl rfl rfl rfl (fun x3 h1 hF => ?_)
  refine z_if_ne (t := 10) (q := 8) dX11_pump_5 (by decide) rfl (fun hc => ?_) (fun hc => ?_)
  · have hF := hF.1 hc
    refine z_aload_n (q := 11) dX11_pump_10 rfl rfl rfl ?_
    obtain ⟨g4, hF⟩ := hF
    obtain ⟨g5, hF⟩ := hF
    refine z_getR (c := 11) (k := 34) (r := (RX11, TX11, 54)) (q := 14) dX11_pump_11 rfl (by decide) fl_X11_96 rfl g4 g5 rfl ?_
    refine z_iload_n (q := 15) dX11_pump_14 rfl rfl rfl ?_
    obtain ⟨g6, hF⟩ := hF
    obtain ⟨g7, hF⟩ := hF
    refine y_bald (j := (Int32.toNatClampNeg l1)) (q := 16) dX11_pump_15 g6 g7 rfl rfl ?_
    refine z_if_eq (t := 23) (q := 19) dX11_pump_16 (by decide) rfl (fun hc => ?_) (fun hc => ?_)
    · have hF := hF.1 hc
      refine z_iconst (q := 24) (v := 0) dX11_pump_23 (by decide) rfl ?_
      refine z_istore_n (q := 25) (L' := [some (.ref l0), some (.int l1), some (.int l2), some (.int 0)]) dX11_pump_24 rfl (Nat.le_of_ble_eq_true rfl) rfl rfl rfl ?_
      refine z_aload_n (q := 26) dX11_pump_25 rfl rfl rfl ?_
      refine z_getR (c := 11) (k := 34) (r := (RX11, TX11, 54)) (q := 29) dX11_pump_26 rfl (by decide) fl_X11_96 rfl g4 g5 rfl ?_
      refine z_iload_n (q := 30) dX11_pump_29 rfl rfl rfl ?_
      refine z_iload_n (q := 31) dX11_pump_30 rfl rfl rfl ?_
      obtain ⟨g8, hF⟩ := hF
      refine y_bast (j := (Int32.toNatClampNeg l1)) (q := 32) dX11_pump_31 g6 g7 g8 rfl rfl ?_
      refine z_iload_n (q := 33) dX11_pump_32 rfl rfl rfl ?_
      exact z_ireturn dX11_pump_33 rfl ⟨_, rfl, hF⟩
    · have hF := hF.2 hc
      refine z_iconst (q := 20) (v := 1) dX11_pump_19 (by decide) rfl ?_
      refine z_goto (q := 24) dX11_pump_20 (by decide) ?_
      refine z_istore_n (q := 25) (L' := [some (.ref l0), some (.int l1), some (.int l2), some (.int 1)]) dX11_pump_24 rfl (Nat.le_of_ble_eq_true rfl) rfl rfl rfl ?_
      refine z_aload_n (q := 26) dX11_pump_25 rfl rfl rfl ?_
      refine z_getR (c := 11) (k := 34) (r := (RX11, TX11, 54)) (q := 29) dX11_pump_26 rfl (by decide) fl_X11_96 rfl g4 g5 rfl ?_
      refine z_iload_n (q := 30) dX11_pump_29 rfl rfl rfl ?_
      refine z_iload_n (q := 31) dX11_pump_30 rfl rfl rfl ?_
      obtain ⟨g9, hF⟩ := hF
      refine y_bast (j := (Int32.toNatClampNeg l1)) (q := 32) dX11_pump_31 g6 g7 g9 rfl rfl ?_
      refine z_iload_n (q := 33) dX11_pump_32 rfl rfl rfl ?_
      exact z_ireturn dX11_pump_33 rfl ⟨_, rfl, hF⟩
  · have hF := hF.2 hc
    refine z_iconst (q := 9) (v := (-1)) dX11_pump_8 (by decide) rfl ?_
    exact z_ireturn dX11_pump_9 rfl ⟨_, rfl, hF⟩
set_option maxRecDepth 100000 in
set_option maxHeartbeats 4000000 in
theorem wX11_way {ψ : Int32 → ZH → Prop} {l0 : Nat} {l1 : Int32} {l2 : Int32} {l3 : Int32} {h : ZH} (hF : (zK h l0 = 12) ∧ ZcI mX11_isPit [.ref l0, .int l1] h (fun x3 h1 => ((x3 = 0 → ψ (-1) h1) ∧ (¬ x3 = 0 → (zK h1 l0 = 12) ∧ ZcI mX11_isPit [.ref l0, .int l2] h1 (fun x6 h4 => ((x6 = 0 → ψ (-1) h4) ∧ (¬ x6 = 0 → ((¬ l1 = l2 → ZcI mX11_in [.long (Int32.toInt64 l3), .long 0, .long 1000] h4 (fun x8 h7 => ((¬ x8 = 0 → (zK h7 l0 = 12) ∧ ((¬ (zI h7 l0 39) = 12 → ((zR h7 l0 36) ≠ 0) ∧ (zK h7 (zR h7 l0 36) = 20) ∧ (vp_in (zI h7 l0 39) (zN h7 (zR h7 l0 36))) ∧ ((zR h7 l0 37) ≠ 0) ∧ ∀ h14 : ZH, h14 = (zsI h7 (zR h7 l0 36) (Int32.toNatClampNeg (zI h7 l0 39)) l1) → (zK h14 l0 = 12) ∧ (zK h14 (zR h7 l0 37) = 20) ∧ (vp_in (zI h14 l0 39) (zN h14 (zR h7 l0 37))) ∧ ((zR h14 l0 38) ≠ 0) ∧ ∀ h20 : ZH, h20 = (zsI h14 (zR h7 l0 37) (Int32.toNatClampNeg (zI h14 l0 39)) l2) → (zK h20 l0 = 12) ∧ (zK h20 (zR h14 l0 38) = 20) ∧ (vp_in (zI h20 l0 39) (zN h20 (zR h14 l0 38))) ∧ ∀ h25 : ZH, h25 = (zsI h20 (zR h14 l0 38) (Int32.toNatClampNeg (zI h20 l0 39)) l3) → (zK h25 l0 = 12) ∧ ∀ h28 : ZH, h28 = (zsI h25 l0 39 ((zI h25 l0 39) + 1)) → (zK h28 l0 = 12) ∧ ψ ((zI h28 l0 39) - 1) h28) ∧ ((zI h7 l0 39) = 12 → ψ (-4) h7))) ∧ (x8 = 0 → ψ (-2) h7)))) ∧ (l1 = l2 → ψ (-1) h4))))))))) : ZcI mX11_way [.ref l0, .int l1, .int l2, .int l3] h ψ := by
  refine Zc.intro (L := [some (.ref l0), some (.int l1), some (.int l2), some (.int l3)]) (show plainName RX11 = true by decide) rfl (Nat.le_of_ble_eq_true rfl) ?_
  show Zt _ _ 0 0 _ _ _ _
  refine z_aload_n (q := 1) dX11_way_0 rfl rfl rfl ?_
  refine z_iload_n (q := 2) dX11_way_1 rfl rfl rfl ?_
  obtain ⟨g2, hF⟩ := hF
  refine z_callVI (rc := 0) (rs := 0) (b := l0) (av := [.int l1]) (ci := 11) (r := (RX11, TX11, 54)) (q := 5) hF dX11_way_2 ml_X11_169 ok_X11_isPit in_X11_isPit se_X11_isPit rfl rfl g2 rfl (Nat.le_of_ble_eq_true rfl) (by decide) (Nat.le_of_ble_eq_true rfl) rfl rfl rfl rfl (fun x3 h1 hF => ?_)
  refine z_if_eq (t := 21) (q := 8) dX11_way_5 (by decide) rfl (fun hc => ?_) (fun hc => ?_)
  · have hF := hF.1 hc
    refine z_iconst (q := 22) (v := (-1)) dX11_way_21 (by decide) rfl ?_
    exact z_ireturn dX11_way_22 rfl ⟨_, rfl, hF⟩
  · have hF := hF.2 hc
    refine z_aload_n (q := 9) dX11_way_8 rfl rfl rfl ?_
    refine z_iload_n (q := 10) dX11_way_9 rfl rfl rfl ?_
    obtain ⟨g5, hF⟩ := hF
    refine z_callVI (rc := 0) (rs := 0) (b := l0) (av := [.int l2]) (ci := 11) (r := (RX11, TX11, 54)) (q := 13) hF dX11_way_10 ml_X11_169 ok_X11_isPit in_X11_isPit se_X11_isPit rfl rfl g5 rfl (Nat.le_of_ble_eq_true rfl) (by decide) (Nat.le_of_ble_eq_true rfl) rfl rfl rfl rfl (fun x6 h4 hF => ?_)
    refine z_if_eq (t := 21) (q := 16) dX11_way_13 (by decide) rfl (fun hc => ?_) (fun hc => ?_)
    · have hF := hF.1 hc
      refine z_iconst (q := 22) (v := (-1)) dX11_way_21 (by decide) rfl ?_
      exact z_ireturn dX11_way_22 rfl ⟨_, rfl, hF⟩
    · have hF := hF.2 hc
      refine z_iload_n (q := 17) dX11_way_16 rfl rfl rfl ?_
      refine z_iload_n (q := 18) dX11_way_17 rfl rfl rfl ?_
      refine z_icmp_ne (t := 23) (q := 21) dX11_way_18 (by decide) rfl (fun hc => ?_) (fun hc => ?_)
      · have hF := hF.1 hc
        refine z_iload_n (q := 24) dX11_way_23 rfl rfl rfl ?_
        refine z_i2l (q := 25) dX11_way_24 rfl ?_
        refine z_lconst (q := 26) (v := 0) dX11_way_25 (by decide) rfl ?_
        refine z_ldc2 (q := 29) (v := 1000) dX11_way_26 cw_X11_158 rfl ?_
        refine z_callSI (rc := 0) (rs := 0) (av := [.long (Int32.toInt64 l3), .long 0, .long 1000]) (q := 32) hF dX11_way_29 ml_X11_140 ok_X11_in st_X11_in rfl (Nat.le_of_ble_eq_true rfl) (by decide) (Nat.le_of_ble_eq_true rfl) rfl rfl rfl rfl (fun x8 h7 hF => ?_)
        refine z_if_ne (t := 38) (q := 35) dX11_way_32 (by decide) rfl (fun hc => ?_) (fun hc => ?_)
        · have hF := hF.1 hc
          refine z_aload_n (q := 39) dX11_way_38 rfl rfl rfl ?_
          obtain ⟨g9, hF⟩ := hF
          refine z_getI (c := 11) (k := 39) (r := (RX11, TX11, 54)) (q := 42) dX11_way_39 rfl (by decide) fl_X11_293 rfl g9 rfl ?_
          refine z_bipush (q := 44) (v := 12) dX11_way_42 (by decide) rfl ?_
          refine z_icmp_ne (t := 50) (q := 47) dX11_way_44 (by decide) rfl (fun hc => ?_) (fun hc => ?_)
          · have hF := hF.1 hc
            refine z_aload_n (q := 51) dX11_way_50 rfl rfl rfl ?_
            obtain ⟨g10, hF⟩ := hF
            refine z_getR (c := 11) (k := 36) (r := (RX11, TX11, 54)) (q := 54) dX11_way_51 rfl (by decide) fl_X11_102 rfl g9 g10 rfl ?_
            refine z_aload_n (q := 55) dX11_way_54 rfl rfl rfl ?_
            refine z_getI (c := 11) (k := 39) (r := (RX11, TX11, 54)) (q := 58) dX11_way_55 rfl (by decide) fl_X11_293 rfl g9 rfl ?_
            refine z_iload_n (q := 59) dX11_way_58 rfl rfl rfl ?_
            obtain ⟨g11, hF⟩ := hF
            obtain ⟨g12, hF⟩ := hF
            refine y_iast (j := (Int32.toNatClampNeg (zI h7 l0 39))) (q := 60) dX11_way_59 g11 g12 rfl rfl ?_
            refine z_aload_n (q := 61) dX11_way_60 rfl rfl rfl ?_
            obtain ⟨g13, hF⟩ := hF
            refine z_getR (c := 11) (k := 37) (r := (RX11, TX11, 54)) (q := 64) dX11_way_61 rfl (by decide) fl_X11_105 rfl g9 g13 rfl ?_
            refine z_aload_n (q := 65) dX11_way_64 rfl rfl rfl ?_
            refine z_nameH (fun h14 eh15 => ?_)
            have hF := hF h14 eh15
            obtain ⟨g16, hF⟩ := hF
            refine z_getI (c := 11) (k := 39) (r := (RX11, TX11, 54)) (q := 68) dX11_way_65 rfl (by decide) fl_X11_293 rfl g16 rfl ?_
            refine z_iload_n (q := 69) dX11_way_68 rfl rfl rfl ?_
            obtain ⟨g17, hF⟩ := hF
            obtain ⟨g18, hF⟩ := hF
            refine y_iast (j := (Int32.toNatClampNeg (zI h14 l0 39))) (q := 70) dX11_way_69 g17 g18 rfl rfl ?_
            refine z_aload_n (q := 71) dX11_way_70 rfl rfl rfl ?_
            obtain ⟨g19, hF⟩ := hF
            refine z_getR (c := 11) (k := 38) (r := (RX11, TX11, 54)) (q := 74) dX11_way_71 rfl (by decide) fl_X11_108 rfl g16 g19 rfl ?_
            refine z_aload_n (q := 75) dX11_way_74 rfl rfl rfl ?_
            refine z_nameH (fun h20 eh21 => ?_)
            have hF := hF h20 eh21
            obtain ⟨g22, hF⟩ := hF
            refine z_getI (c := 11) (k := 39) (r := (RX11, TX11, 54)) (q := 78) dX11_way_75 rfl (by decide) fl_X11_293 rfl g22 rfl ?_
            refine z_iload_n (q := 79) dX11_way_78 rfl rfl rfl ?_
            obtain ⟨g23, hF⟩ := hF
            obtain ⟨g24, hF⟩ := hF
            refine y_iast (j := (Int32.toNatClampNeg (zI h20 l0 39))) (q := 80) dX11_way_79 g23 g24 rfl rfl ?_
            refine z_aload_n (q := 81) dX11_way_80 rfl rfl rfl ?_
            refine z_dup (q := 82) dX11_way_81 rfl rfl ?_
            refine z_nameH (fun h25 eh26 => ?_)
            have hF := hF h25 eh26
            obtain ⟨g27, hF⟩ := hF
            refine z_getI (c := 11) (k := 39) (r := (RX11, TX11, 54)) (q := 85) dX11_way_82 rfl (by decide) fl_X11_293 rfl g27 rfl ?_
            refine z_iconst (q := 86) (v := 1) dX11_way_85 (by decide) rfl ?_
            refine z_iadd (q := 87) dX11_way_86 rfl ?_
            refine z_putI (c := 11) (k := 39) (r := (RX11, TX11, 54)) (q := 90) dX11_way_87 rfl (by decide) fl_X11_293 rfl rfl g27 rfl ?_
            refine z_aload_n (q := 91) dX11_way_90 rfl rfl rfl ?_
            refine z_nameH (fun h28 eh29 => ?_)
            have hF := hF h28 eh29
            obtain ⟨g30, hF⟩ := hF
            refine z_getI (c := 11) (k := 39) (r := (RX11, TX11, 54)) (q := 94) dX11_way_91 rfl (by decide) fl_X11_293 rfl g30 rfl ?_
            refine z_iconst (q := 95) (v := 1) dX11_way_94 (by decide) rfl ?_
            refine z_isub (q := 96) dX11_way_95 rfl ?_
            exact z_ireturn dX11_way_96 rfl ⟨_, rfl, hF⟩
          · have hF := hF.2 hc
            refine z_bipush (q := 49) (v := (-4)) dX11_way_47 (by decide) rfl ?_
            exact z_ireturn dX11_way_49 rfl ⟨_, rfl, hF⟩
        · have hF := hF.2 hc
          refine z_bipush (q := 37) (v := (-2)) dX11_way_35 (by decide) rfl ?_
          exact z_ireturn dX11_way_37 rfl ⟨_, rfl, hF⟩
      · have hF := hF.2 hc
        refine z_iconst (q := 22) (v := (-1)) dX11_way_21 (by decide) rfl ?_
        exact z_ireturn dX11_way_22 rfl ⟨_, rfl, hF⟩
set_option maxRecDepth 100000 in
set_option maxHeartbeats 4000000 in
theorem wX11_run_20 {ψ : ZH → Prop} {l0 : Nat} {l1 : Int32} {l2 : Int32} {s0 : Int32} {h : ZH} (hF : (zK h l0 = 12) ∧ ((zR h l0 33) ≠ 0) ∧ (zK h (zR h l0 33) = 20) ∧ (vp_in l1 (zN h (zR h l0 33))) ∧ (((zI h (zR h l0 33) (Int32.toNatClampNeg l1)) ≤ s0 → ψ h) ∧ (¬ (zI h (zR h l0 33) (Int32.toNatClampNeg l1)) ≤ s0 → ∀ v5 : Int32, v5 = (((zI h (zR h l0 33) (Int32.toNatClampNeg l1)) - s0) / 2) → ∀ h7 : ZH, h7 = (zsI h (zR h l0 33) (Int32.toNatClampNeg l1) ((zI h (zR h l0 33) (Int32.toNatClampNeg l1)) - v5)) → (zK h7 (zR h l0 33) = 20) ∧ (vp_in l2 (zN h7 (zR h l0 33))) ∧ ψ (zsI h7 (zR h l0 33) (Int32.toNatClampNeg l2) ((zI h7 (zR h l0 33) (Int32.toNatClampNeg l2)) + v5))))) : Zt mX11_run (zPV ψ) 0 0 20 [some (.ref l0), some (.int l1), some (.int l2), none, none, none] [.int s0] h := by
  refine z_istore (q := 22) (L' := [some (.ref l0), some (.int l1), some (.int l2), none, some (.int s0), none]) dX11_run_20 (Nat.le_of_ble_eq_true rfl) rfl rfl rfl ?_
  refine z_aload_n (q := 23) dX11_run_22 rfl rfl rfl ?_
  obtain ⟨g1, hF⟩ := hF
  obtain ⟨g2, hF⟩ := hF
  refine z_getR (c := 11) (k := 33) (r := (RX11, TX11, 54)) (q := 26) dX11_run_23 rfl (by decide) fl_X11_93 rfl g1 g2 rfl ?_
  refine z_iload_n (q := 27) dX11_run_26 rfl rfl rfl ?_
  obtain ⟨g3, hF⟩ := hF
  obtain ⟨g4, hF⟩ := hF
  refine y_iald (j := (Int32.toNatClampNeg l1)) (q := 28) dX11_run_27 (Or.inl g3) g4 rfl rfl ?_
  refine z_iload (q := 30) dX11_run_28 rfl rfl ?_
  refine z_icmp_le (t := 68) (q := 33) dX11_run_30 (by decide) rfl (fun hc => ?_) (fun hc => ?_)
  · have hF := hF.1 hc
    exact z_return dX11_run_68 rfl ⟨rfl, hF⟩
  · have hF := hF.2 hc
    refine z_aload_n (q := 34) dX11_run_33 rfl rfl rfl ?_
    refine z_getR (c := 11) (k := 33) (r := (RX11, TX11, 54)) (q := 37) dX11_run_34 rfl (by decide) fl_X11_93 rfl g1 g2 rfl ?_
    refine z_iload_n (q := 38) dX11_run_37 rfl rfl rfl ?_
    refine y_iald (j := (Int32.toNatClampNeg l1)) (q := 39) dX11_run_38 (Or.inl g3) g4 rfl rfl ?_
    refine z_iload (q := 41) dX11_run_39 rfl rfl ?_
    refine z_isub (q := 42) dX11_run_41 rfl ?_
    refine z_iconst (q := 43) (v := 2) dX11_run_42 (by decide) rfl ?_
    refine z_idiv (q := 44) dX11_run_43 (by decide) rfl ?_
    refine z_nameI (fun v5 ev6 => ?_)
    have hF := hF v5 ev6
    refine z_istore (q := 46) (L' := [some (.ref l0), some (.int l1), some (.int l2), none, some (.int s0), some (.int v5)]) dX11_run_44 (Nat.le_of_ble_eq_true rfl) rfl rfl rfl ?_
    refine z_aload_n (q := 47) dX11_run_46 rfl rfl rfl ?_
    refine z_getR (c := 11) (k := 33) (r := (RX11, TX11, 54)) (q := 50) dX11_run_47 rfl (by decide) fl_X11_93 rfl g1 g2 rfl ?_
    refine z_iload_n (q := 51) dX11_run_50 rfl rfl rfl ?_
    refine z_dup2 (q := 52) dX11_run_51 rfl rfl rfl ?_
    refine y_iald (j := (Int32.toNatClampNeg l1)) (q := 53) dX11_run_52 (Or.inl g3) g4 rfl rfl ?_
    refine z_iload (q := 55) dX11_run_53 rfl rfl ?_
    refine z_isub (q := 56) dX11_run_55 rfl ?_
    refine y_iast (j := (Int32.toNatClampNeg l1)) (q := 57) dX11_run_56 g3 g4 rfl rfl ?_
    refine z_aload_n (q := 58) dX11_run_57 rfl rfl rfl ?_
    refine z_getR (c := 11) (k := 33) (r := (RX11, TX11, 54)) (q := 61) dX11_run_58 rfl (by decide) fl_X11_93 rfl g1 g2 rfl ?_
    refine z_iload_n (q := 62) dX11_run_61 rfl rfl rfl ?_
    refine z_dup2 (q := 63) dX11_run_62 rfl rfl rfl ?_
    refine z_nameH (fun h7 eh8 => ?_)
    have hF := hF h7 eh8
    obtain ⟨g9, hF⟩ := hF
    obtain ⟨g10, hF⟩ := hF
    refine y_iald (j := (Int32.toNatClampNeg l2)) (q := 64) dX11_run_63 (Or.inl g9) g10 rfl rfl ?_
    refine z_iload (q := 66) dX11_run_64 rfl rfl ?_
    refine z_iadd (q := 67) dX11_run_66 rfl ?_
    refine y_iast (j := (Int32.toNatClampNeg l2)) (q := 68) dX11_run_67 g9 g10 rfl rfl ?_
    exact z_return dX11_run_68 rfl ⟨rfl, hF⟩
set_option maxRecDepth 100000 in
set_option maxHeartbeats 4000000 in
theorem wX11_run {ψ : ZH → Prop} {l0 : Nat} {l1 : Int32} {l2 : Int32} {l3 : Int32} {h : ZH} (hF : (zK h l0 = 12) ∧ ((zR h l0 33) ≠ 0) ∧ (zK h (zR h l0 33) = 20) ∧ (vp_in l2 (zN h (zR h l0 33))) ∧ ((l3 ≤ (zI h (zR h l0 33) (Int32.toNatClampNeg l2)) → Zt mX11_run (zPV ψ) 0 0 20 [some (.ref l0), some (.int l1), some (.int l2), none, none, none] [.int (zI h (zR h l0 33) (Int32.toNatClampNeg l2))] h) ∧ (¬ l3 ≤ (zI h (zR h l0 33) (Int32.toNatClampNeg l2)) → Zt mX11_run (zPV ψ) 0 0 20 [some (.ref l0), some (.int l1), some (.int l2), none, none, none] [.int l3] h))) : ZcV mX11_run [.ref l0, .int l1, .int l2, .int l3] h ψ := by
  refine Zc.intro (L := [some (.ref l0), some (.int l1), some (.int l2), some (.int l3), none, none]) (show plainName RX11 = true by decide) rfl (Nat.le_of_ble_eq_true rfl) ?_
  show Zt _ _ 0 0 _ _ _ _
  refine z_iload_n (q := 1) dX11_run_0 rfl rfl rfl ?_
  refine z_aload_n (q := 2) dX11_run_1 rfl rfl rfl ?_
  obtain ⟨g11, hF⟩ := hF
  obtain ⟨g12, hF⟩ := hF
  refine z_getR (c := 11) (k := 33) (r := (RX11, TX11, 54)) (q := 5) dX11_run_2 rfl (by decide) fl_X11_93 rfl g11 g12 rfl ?_
  refine z_iload_n (q := 6) dX11_run_5 rfl rfl rfl ?_
  obtain ⟨g13, hF⟩ := hF
  obtain ⟨g14, hF⟩ := hF
  refine y_iald (j := (Int32.toNatClampNeg l2)) (q := 7) dX11_run_6 (Or.inl g13) g14 rfl rfl ?_
  refine z_icmp_le (t := 14) (q := 10) dX11_run_7 (by decide) rfl (fun hc => ?_) (fun hc => ?_)
  · have hF := hF.1 hc
    refine z_aload_n (q := 15) dX11_run_14 rfl rfl rfl ?_
    refine z_getR (c := 11) (k := 33) (r := (RX11, TX11, 54)) (q := 18) dX11_run_15 rfl (by decide) fl_X11_93 rfl g11 g12 rfl ?_
    refine z_iload_n (q := 19) dX11_run_18 rfl rfl rfl ?_
    refine y_iald (j := (Int32.toNatClampNeg l2)) (q := 20) dX11_run_19 (Or.inl g13) g14 rfl rfl ?_
    refine Zt.drop (i := 3) (L' := [some (.ref l0), some (.int l1), some (.int l2), none, none, none]) rfl ?_
    exact hF
  · have hF := hF.2 hc
    refine z_iload_n (q := 11) dX11_run_10 rfl rfl rfl ?_
    refine z_goto (q := 20) dX11_run_11 (by decide) ?_
    refine Zt.drop (i := 3) (L' := [some (.ref l0), some (.int l1), some (.int l2), none, none, none]) rfl ?_
    exact hF
set_option maxRecDepth 100000 in
set_option maxHeartbeats 4000000 in
theorem wX11_isDrowned {ψ : Int32 → ZH → Prop} {l0 : Nat} {l1 : Int32} {h : ZH} (hF : (zK h l0 = 12) ∧ ((zR h l0 33) ≠ 0) ∧ (zK h (zR h l0 33) = 20) ∧ (vp_in l1 (zN h (zR h l0 33))) ∧ ((zR h l0 6) ≠ 0) ∧ (zK h (zR h l0 6) = 20) ∧ (vp_in l1 (zN h (zR h l0 6))) ∧ (((3 * (zI h (zR h l0 33) (Int32.toNatClampNeg l1))) ≤ (zI h (zR h l0 6) (Int32.toNatClampNeg l1)) → ψ 0 h) ∧ (¬ (3 * (zI h (zR h l0 33) (Int32.toNatClampNeg l1))) ≤ (zI h (zR h l0 6) (Int32.toNatClampNeg l1)) → ψ 1 h))) : ZcI mX11_isDrowned [.ref l0, .int l1] h ψ := by
  refine Zc.intro (L := [some (.ref l0), some (.int l1)]) (show plainName RX11 = true by decide) rfl (Nat.le_of_ble_eq_true rfl) ?_
  show Zt _ _ 0 0 _ _ _ _
  refine z_iconst (q := 1) (v := 3) dX11_isDrowned_0 (by decide) rfl ?_
  refine z_aload_n (q := 2) dX11_isDrowned_1 rfl rfl rfl ?_
  obtain ⟨g1, hF⟩ := hF
  obtain ⟨g2, hF⟩ := hF
  refine z_getR (c := 11) (k := 33) (r := (RX11, TX11, 54)) (q := 5) dX11_isDrowned_2 rfl (by decide) fl_X11_93 rfl g1 g2 rfl ?_
  refine z_iload_n (q := 6) dX11_isDrowned_5 rfl rfl rfl ?_
  obtain ⟨g3, hF⟩ := hF
  obtain ⟨g4, hF⟩ := hF
  refine y_iald (j := (Int32.toNatClampNeg l1)) (q := 7) dX11_isDrowned_6 (Or.inl g3) g4 rfl rfl ?_
  refine z_imul (q := 8) dX11_isDrowned_7 rfl ?_
  refine z_aload_n (q := 9) dX11_isDrowned_8 rfl rfl rfl ?_
  obtain ⟨g5, hF⟩ := hF
  refine z_getR (c := 11) (k := 6) (r := (RX11, TX11, 54)) (q := 12) dX11_isDrowned_9 rfl (by decide) fl_X11_28 rfl g1 g5 rfl ?_
  refine z_iload_n (q := 13) dX11_isDrowned_12 rfl rfl rfl ?_
  obtain ⟨g6, hF⟩ := hF
  obtain ⟨g7, hF⟩ := hF
  refine y_iald (j := (Int32.toNatClampNeg l1)) (q := 14) dX11_isDrowned_13 (Or.inl g6) g7 rfl rfl ?_
  refine z_icmp_le (t := 21) (q := 17) dX11_isDrowned_14 (by decide) rfl (fun hc => ?_) (fun hc => ?_)
  · have hF := hF.1 hc
    refine z_iconst (q := 22) (v := 0) dX11_isDrowned_21 (by decide) rfl ?_
    exact z_zreturn dX11_isDrowned_22 rfl (by decide) ⟨_, rfl, hF⟩
  · have hF := hF.2 hc
    refine z_iconst (q := 18) (v := 1) dX11_isDrowned_17 (by decide) rfl ?_
    refine z_goto (q := 22) dX11_isDrowned_18 (by decide) ?_
    exact z_zreturn dX11_isDrowned_22 rfl (by decide) ⟨_, rfl, hF⟩
set_option maxRecDepth 100000 in
set_option maxHeartbeats 4000000 in
theorem wX11_monthOn_175 {ψ : ZH → Prop} {l0 : Nat} {l1 : Int32} {l2 : Int32} {h : ZH} (hF : (zK h l0 = 12) ∧ ((zR h l0 33) ≠ 0) ∧ (zK h (zR h l0 33) = 20) ∧ (vp_in l2 (zN h (zR h l0 33))) ∧ ((zR h l0 6) ≠ 0) ∧ (zK h (zR h l0 6) = 20) ∧ (vp_in l2 (zN h (zR h l0 6))) ∧ (((zI h (zR h l0 33) (Int32.toNatClampNeg l2)) ≤ (zI h (zR h l0 6) (Int32.toNatClampNeg l2)) → Zt mX11_monthOn (zPV ψ) 0 0 128 [some (.ref l0), some (.int l1), some (.int (l2 + 1)), none] [] h) ∧ (¬ (zI h (zR h l0 33) (Int32.toNatClampNeg l2)) ≤ (zI h (zR h l0 6) (Int32.toNatClampNeg l2)) → ∀ h8 : ZH, h8 = (zsI h l0 42 ((zI h l0 42) + ((zI h (zR h l0 33) (Int32.toNatClampNeg l2)) - (zI h (zR h l0 6) (Int32.toNatClampNeg l2))))) → (zK h8 (zR h l0 6) = 20) ∧ (vp_in l2 (zN h8 (zR h l0 6))) ∧ (zK h8 (zR h l0 33) = 20) ∧ (vp_in l2 (zN h8 (zR h l0 33))) ∧ Zt mX11_monthOn (zPV ψ) 0 0 128 [some (.ref l0), some (.int l1), some (.int (l2 + 1)), none] [] (zsI h8 (zR h l0 33) (Int32.toNatClampNeg l2) (zI h8 (zR h l0 6) (Int32.toNatClampNeg l2)))))) : Zt mX11_monthOn (zPV ψ) 0 0 175 [some (.ref l0), some (.int l1), some (.int l2), none] [] h := by
  refine z_aload_n (q := 176) dX11_monthOn_175 rfl rfl rfl ?_
  obtain ⟨g1, hF⟩ := hF
  obtain ⟨g2, hF⟩ := hF
  refine z_getR (c := 11) (k := 33) (r := (RX11, TX11, 54)) (q := 179) dX11_monthOn_176 rfl (by decide) fl_X11_93 rfl g1 g2 rfl ?_
  refine z_iload_n (q := 180) dX11_monthOn_179 rfl rfl rfl ?_
  obtain ⟨g3, hF⟩ := hF
  obtain ⟨g4, hF⟩ := hF
  refine y_iald (j := (Int32.toNatClampNeg l2)) (q := 181) dX11_monthOn_180 (Or.inl g3) g4 rfl rfl ?_
  refine z_aload_n (q := 182) dX11_monthOn_181 rfl rfl rfl ?_
  obtain ⟨g5, hF⟩ := hF
  refine z_getR (c := 11) (k := 6) (r := (RX11, TX11, 54)) (q := 185) dX11_monthOn_182 rfl (by decide) fl_X11_28 rfl g1 g5 rfl ?_
  refine z_iload_n (q := 186) dX11_monthOn_185 rfl rfl rfl ?_
  obtain ⟨g6, hF⟩ := hF
  obtain ⟨g7, hF⟩ := hF
  refine y_iald (j := (Int32.toNatClampNeg l2)) (q := 187) dX11_monthOn_186 (Or.inl g6) g7 rfl rfl ?_
  refine z_icmp_le (t := 224) (q := 190) dX11_monthOn_187 (by decide) rfl (fun hc => ?_) (fun hc => ?_)
  · have hF := hF.1 hc
    refine z_iinc (q := 227) (v := (l2 + 1)) (L' := [some (.ref l0), some (.int l1), some (.int (l2 + 1)), none]) dX11_monthOn_224 rfl rfl (Nat.le_of_ble_eq_true rfl) rfl rfl rfl ?_
    refine z_goto (q := 128) dX11_monthOn_227 (by decide) ?_
    exact hF
  · have hF := hF.2 hc
    refine z_aload_n (q := 191) dX11_monthOn_190 rfl rfl rfl ?_
    refine z_dup (q := 192) dX11_monthOn_191 rfl rfl ?_
    refine z_getI (c := 11) (k := 42) (r := (RX11, TX11, 54)) (q := 195) dX11_monthOn_192 rfl (by decide) fl_X11_303 rfl g1 rfl ?_
    refine z_aload_n (q := 196) dX11_monthOn_195 rfl rfl rfl ?_
    refine z_getR (c := 11) (k := 33) (r := (RX11, TX11, 54)) (q := 199) dX11_monthOn_196 rfl (by decide) fl_X11_93 rfl g1 g2 rfl ?_
    refine z_iload_n (q := 200) dX11_monthOn_199 rfl rfl rfl ?_
    refine y_iald (j := (Int32.toNatClampNeg l2)) (q := 201) dX11_monthOn_200 (Or.inl g3) g4 rfl rfl ?_
    refine z_aload_n (q := 202) dX11_monthOn_201 rfl rfl rfl ?_
    refine z_getR (c := 11) (k := 6) (r := (RX11, TX11, 54)) (q := 205) dX11_monthOn_202 rfl (by decide) fl_X11_28 rfl g1 g5 rfl ?_
    refine z_iload_n (q := 206) dX11_monthOn_205 rfl rfl rfl ?_
    refine y_iald (j := (Int32.toNatClampNeg l2)) (q := 207) dX11_monthOn_206 (Or.inl g6) g7 rfl rfl ?_
    refine z_isub (q := 208) dX11_monthOn_207 rfl ?_
    refine z_iadd (q := 209) dX11_monthOn_208 rfl ?_
    refine z_putI (c := 11) (k := 42) (r := (RX11, TX11, 54)) (q := 212) dX11_monthOn_209 rfl (by decide) fl_X11_303 rfl rfl g1 rfl ?_
    refine z_aload_n (q := 213) dX11_monthOn_212 rfl rfl rfl ?_
    refine z_getR (c := 11) (k := 33) (r := (RX11, TX11, 54)) (q := 216) dX11_monthOn_213 rfl (by decide) fl_X11_93 rfl g1 g2 rfl ?_
    refine z_iload_n (q := 217) dX11_monthOn_216 rfl rfl rfl ?_
    refine z_aload_n (q := 218) dX11_monthOn_217 rfl rfl rfl ?_
    refine z_getR (c := 11) (k := 6) (r := (RX11, TX11, 54)) (q := 221) dX11_monthOn_218 rfl (by decide) fl_X11_28 rfl g1 g5 rfl ?_
    refine z_iload_n (q := 222) dX11_monthOn_221 rfl rfl rfl ?_
    refine z_nameH (fun h8 eh9 => ?_)
    have hF := hF h8 eh9
    obtain ⟨g10, hF⟩ := hF
    obtain ⟨g11, hF⟩ := hF
    refine y_iald (j := (Int32.toNatClampNeg l2)) (q := 223) dX11_monthOn_222 (Or.inl g10) g11 rfl rfl ?_
    obtain ⟨g12, hF⟩ := hF
    obtain ⟨g13, hF⟩ := hF
    refine y_iast (j := (Int32.toNatClampNeg l2)) (q := 224) dX11_monthOn_223 g12 g13 rfl rfl ?_
    refine z_iinc (q := 227) (v := (l2 + 1)) (L' := [some (.ref l0), some (.int l1), some (.int (l2 + 1)), none]) dX11_monthOn_224 rfl rfl (Nat.le_of_ble_eq_true rfl) rfl rfl rfl ?_
    refine z_goto (q := 128) dX11_monthOn_227 (by decide) ?_
    exact hF
set_option maxRecDepth 100000 in
set_option maxHeartbeats 4000000 in
theorem wX11_monthOn_128 {ψ : ZH → Prop} {l0 : Nat} {l1 : Int32} {l2 : Int32} {h : ZH} (hF : (zK h l0 = 12) ∧ (((zI h l0 9) ≤ l2 → ψ h) ∧ (¬ (zI h l0 9) ≤ l2 → ((zR h l0 34) ≠ 0) ∧ (zK h (zR h l0 34) = 21) ∧ (vp_in l2 (zN h (zR h l0 34))) ∧ (((zI h (zR h l0 34) (Int32.toNatClampNeg l2)) = 0 → Zt mX11_monthOn (zPV ψ) 0 0 175 [some (.ref l0), some (.int l1), some (.int l2), none] [] h) ∧ (¬ (zI h (zR h l0 34) (Int32.toNatClampNeg l2)) = 0 → ((l2 = l1 → Zt mX11_monthOn (zPV ψ) 0 0 175 [some (.ref l0), some (.int l1), some (.int l2), none] [] h) ∧ (¬ l2 = l1 → ((zR h l0 33) ≠ 0) ∧ (zK h (zR h l0 33) = 20) ∧ (vp_in l2 (zN h (zR h l0 33))) ∧ Zt mX11_monthOn (zPV ψ) 0 0 128 [some (.ref l0), some (.int l1), some (.int (l2 + 1)), none] [] (zsI (zsI h l0 41 ((zI h l0 41) + (zI h (zR h l0 33) (Int32.toNatClampNeg l2)))) (zR h l0 33) (Int32.toNatClampNeg l2) 0)))))))) : Zt mX11_monthOn (zPV ψ) 0 0 128 [some (.ref l0), some (.int l1), some (.int l2), none] [] h := by
  refine z_iload_n (q := 129) dX11_monthOn_128 rfl rfl rfl ?_
  refine z_aload_n (q := 130) dX11_monthOn_129 rfl rfl rfl ?_
  obtain ⟨g14, hF⟩ := hF
  refine z_getI (c := 11) (k := 9) (r := (RX11, TX11, 54)) (q := 133) dX11_monthOn_130 rfl (by decide) fl_X11_144 rfl g14 rfl ?_
  refine z_icmp_ge (t := 230) (q := 136) dX11_monthOn_133 (by decide) rfl (fun hc => ?_) (fun hc => ?_)
  · have hF := hF.1 hc
    exact z_return dX11_monthOn_230 rfl ⟨rfl, hF⟩
  · have hF := hF.2 hc
    refine z_aload_n (q := 137) dX11_monthOn_136 rfl rfl rfl ?_
    obtain ⟨g15, hF⟩ := hF
    refine z_getR (c := 11) (k := 34) (r := (RX11, TX11, 54)) (q := 140) dX11_monthOn_137 rfl (by decide) fl_X11_96 rfl g14 g15 rfl ?_
    refine z_iload_n (q := 141) dX11_monthOn_140 rfl rfl rfl ?_
    obtain ⟨g16, hF⟩ := hF
    obtain ⟨g17, hF⟩ := hF
    refine y_bald (j := (Int32.toNatClampNeg l2)) (q := 142) dX11_monthOn_141 g16 g17 rfl rfl ?_
    refine z_if_eq (t := 175) (q := 145) dX11_monthOn_142 (by decide) rfl (fun hc => ?_) (fun hc => ?_)
    · have hF := hF.1 hc
      exact hF
    · have hF := hF.2 hc
      refine z_iload_n (q := 146) dX11_monthOn_145 rfl rfl rfl ?_
      refine z_iload_n (q := 147) dX11_monthOn_146 rfl rfl rfl ?_
      refine z_icmp_eq (t := 175) (q := 150) dX11_monthOn_147 (by decide) rfl (fun hc => ?_) (fun hc => ?_)
      · have hF := hF.1 hc
        exact hF
      · have hF := hF.2 hc
        refine z_aload_n (q := 151) dX11_monthOn_150 rfl rfl rfl ?_
        refine z_dup (q := 152) dX11_monthOn_151 rfl rfl ?_
        refine z_getI (c := 11) (k := 41) (r := (RX11, TX11, 54)) (q := 155) dX11_monthOn_152 rfl (by decide) fl_X11_300 rfl g14 rfl ?_
        refine z_aload_n (q := 156) dX11_monthOn_155 rfl rfl rfl ?_
        obtain ⟨g18, hF⟩ := hF
        refine z_getR (c := 11) (k := 33) (r := (RX11, TX11, 54)) (q := 159) dX11_monthOn_156 rfl (by decide) fl_X11_93 rfl g14 g18 rfl ?_
        refine z_iload_n (q := 160) dX11_monthOn_159 rfl rfl rfl ?_
        obtain ⟨g19, hF⟩ := hF
        obtain ⟨g20, hF⟩ := hF
        refine y_iald (j := (Int32.toNatClampNeg l2)) (q := 161) dX11_monthOn_160 (Or.inl g19) g20 rfl rfl ?_
        refine z_iadd (q := 162) dX11_monthOn_161 rfl ?_
        refine z_putI (c := 11) (k := 41) (r := (RX11, TX11, 54)) (q := 165) dX11_monthOn_162 rfl (by decide) fl_X11_300 rfl rfl g14 rfl ?_
        refine z_aload_n (q := 166) dX11_monthOn_165 rfl rfl rfl ?_
        refine z_getR (c := 11) (k := 33) (r := (RX11, TX11, 54)) (q := 169) dX11_monthOn_166 rfl (by decide) fl_X11_93 rfl g14 g18 rfl ?_
        refine z_iload_n (q := 170) dX11_monthOn_169 rfl rfl rfl ?_
        refine z_iconst (q := 171) (v := 0) dX11_monthOn_170 (by decide) rfl ?_
        refine y_iast (j := (Int32.toNatClampNeg l2)) (q := 172) dX11_monthOn_171 g19 g20 rfl rfl ?_
        refine z_goto (q := 224) dX11_monthOn_172 (by decide) ?_
        refine z_iinc (q := 227) (v := (l2 + 1)) (L' := [some (.ref l0), some (.int l1), some (.int (l2 + 1)), none]) dX11_monthOn_224 rfl rfl (Nat.le_of_ble_eq_true rfl) rfl rfl rfl ?_
        refine z_goto (q := 128) dX11_monthOn_227 (by decide) ?_
        exact hF
set_option maxRecDepth 100000 in
set_option maxHeartbeats 4000000 in
theorem wX11_monthOn_71 {ψ : ZH → Prop} {l0 : Nat} {l1 : Int32} {l2 : Int32} {s0 : Int32} {h : ZH} (hF : ((s0 = 0 → (zK h l0 = 12) ∧ ((zR h l0 37) ≠ 0) ∧ (zK h (zR h l0 37) = 20) ∧ (vp_in l2 (zN h (zR h l0 37))) ∧ ((s0 = 0 → ((zR h l0 36) ≠ 0) ∧ (zK h (zR h l0 36) = 20) ∧ (vp_in l2 (zN h (zR h l0 36))) ∧ ((zR h l0 38) ≠ 0) ∧ (zK h (zR h l0 38) = 20) ∧ (vp_in l2 (zN h (zR h l0 38))) ∧ ZcV mX11_run [.ref l0, .int (zI h (zR h l0 37) (Int32.toNatClampNeg l2)), .int (zI h (zR h l0 36) (Int32.toNatClampNeg l2)), .int (zI h (zR h l0 38) (Int32.toNatClampNeg l2))] h (fun h31 => Zt mX11_monthOn (zPV ψ) 0 0 33 [some (.ref l0), some (.int l1), some (.int (l2 + 1)), none] [] h31)) ∧ (¬ s0 = 0 → ((zR h l0 38) ≠ 0) ∧ (zK h (zR h l0 38) = 20) ∧ (vp_in l2 (zN h (zR h l0 38))) ∧ ZcV mX11_run [.ref l0, .int (zI h (zR h l0 37) (Int32.toNatClampNeg l2)), .int (zI h (zR h l0 37) (Int32.toNatClampNeg l2)), .int (zI h (zR h l0 38) (Int32.toNatClampNeg l2))] h (fun h35 => Zt mX11_monthOn (zPV ψ) 0 0 33 [some (.ref l0), some (.int l1), some (.int (l2 + 1)), none] [] h35)))) ∧ (¬ s0 = 0 → (zK h l0 = 12) ∧ ((zR h l0 36) ≠ 0) ∧ (zK h (zR h l0 36) = 20) ∧ (vp_in l2 (zN h (zR h l0 36))) ∧ ((s0 = 0 → ((zR h l0 38) ≠ 0) ∧ (zK h (zR h l0 38) = 20) ∧ (vp_in l2 (zN h (zR h l0 38))) ∧ ZcV mX11_run [.ref l0, .int (zI h (zR h l0 36) (Int32.toNatClampNeg l2)), .int (zI h (zR h l0 36) (Int32.toNatClampNeg l2)), .int (zI h (zR h l0 38) (Int32.toNatClampNeg l2))] h (fun h43 => Zt mX11_monthOn (zPV ψ) 0 0 33 [some (.ref l0), some (.int l1), some (.int (l2 + 1)), none] [] h43)) ∧ (¬ s0 = 0 → ((zR h l0 37) ≠ 0) ∧ (zK h (zR h l0 37) = 20) ∧ (vp_in l2 (zN h (zR h l0 37))) ∧ ((zR h l0 38) ≠ 0) ∧ (zK h (zR h l0 38) = 20) ∧ (vp_in l2 (zN h (zR h l0 38))) ∧ ZcV mX11_run [.ref l0, .int (zI h (zR h l0 36) (Int32.toNatClampNeg l2)), .int (zI h (zR h l0 37) (Int32.toNatClampNeg l2)), .int (zI h (zR h l0 38) (Int32.toNatClampNeg l2))] h (fun h50 => Zt mX11_monthOn (zPV ψ) 0 0 33 [some (.ref l0), some (.int l1), some (.int (l2 + 1)), none] [] h50)))))) : Zt mX11_monthOn (zPV ψ) 0 0 71 [some (.ref l0), some (.int l1), some (.int l2), none] [.int s0] h := by
  refine z_istore_n (q := 72) (L' := [some (.ref l0), some (.int l1), some (.int l2), some (.int s0)]) dX11_monthOn_71 rfl (Nat.le_of_ble_eq_true rfl) rfl rfl rfl ?_
  refine z_aload_n (q := 73) dX11_monthOn_72 rfl rfl rfl ?_
  refine z_iload_n (q := 74) dX11_monthOn_73 rfl rfl rfl ?_
  refine z_if_eq (t := 86) (q := 77) dX11_monthOn_74 (by decide) rfl (fun hc => ?_) (fun hc => ?_)
  · have hF := hF.1 hc
    refine z_aload_n (q := 87) dX11_monthOn_86 rfl rfl rfl ?_
    obtain ⟨g21, hF⟩ := hF
    obtain ⟨g22, hF⟩ := hF
    refine z_getR (c := 11) (k := 37) (r := (RX11, TX11, 54)) (q := 90) dX11_monthOn_87 rfl (by decide) fl_X11_105 rfl g21 g22 rfl ?_
    refine z_iload_n (q := 91) dX11_monthOn_90 rfl rfl rfl ?_
    obtain ⟨g23, hF⟩ := hF
    obtain ⟨g24, hF⟩ := hF
    refine y_iald (j := (Int32.toNatClampNeg l2)) (q := 92) dX11_monthOn_91 (Or.inl g23) g24 rfl rfl ?_
    refine z_iload_n (q := 93) dX11_monthOn_92 rfl rfl rfl ?_
    refine z_if_eq (t := 105) (q := 96) dX11_monthOn_93 (by decide) rfl (fun hc => ?_) (fun hc => ?_)
    · have hF := hF.1 hc
      refine z_aload_n (q := 106) dX11_monthOn_105 rfl rfl rfl ?_
      obtain ⟨g25, hF⟩ := hF
      refine z_getR (c := 11) (k := 36) (r := (RX11, TX11, 54)) (q := 109) dX11_monthOn_106 rfl (by decide) fl_X11_102 rfl g21 g25 rfl ?_
      refine z_iload_n (q := 110) dX11_monthOn_109 rfl rfl rfl ?_
      obtain ⟨g26, hF⟩ := hF
      obtain ⟨g27, hF⟩ := hF
      refine y_iald (j := (Int32.toNatClampNeg l2)) (q := 111) dX11_monthOn_110 (Or.inl g26) g27 rfl rfl ?_
      refine z_aload_n (q := 112) dX11_monthOn_111 rfl rfl rfl ?_
      obtain ⟨g28, hF⟩ := hF
      refine z_getR (c := 11) (k := 38) (r := (RX11, TX11, 54)) (q := 115) dX11_monthOn_112 rfl (by decide) fl_X11_108 rfl g21 g28 rfl ?_
      refine z_iload_n (q := 116) dX11_monthOn_115 rfl rfl rfl ?_
      obtain ⟨g29, hF⟩ := hF
      obtain ⟨g30, hF⟩ := hF
      refine y_iald (j := (Int32.toNatClampNeg l2)) (q := 117) dX11_monthOn_116 (Or.inl g29) g30 rfl rfl ?_
      refine z_callVV (rc := 0) (rs := 0) (b := l0) (av := [.int (zI h (zR h l0 37) (Int32.toNatClampNeg l2)), .int (zI h (zR h l0 36) (Int32.toNatClampNeg l2)), .int (zI h (zR h l0 38) (Int32.toNatClampNeg l2))]) (ci := 11) (r := (RX11, TX11, 54)) (q := 120) hF dX11_monthOn_117 ml_X11_296 ok_X11_run in_X11_run se_X11_run rfl rfl g21 rfl (Nat.le_of_ble_eq_true rfl) (by decide) (Nat.le_of_ble_eq_true rfl) rfl rfl rfl rfl (fun h31 hF => ?_)
      refine z_iinc (q := 123) (v := (l2 + 1)) (L' := [some (.ref l0), some (.int l1), some (.int (l2 + 1)), some (.int s0)]) dX11_monthOn_120 rfl rfl (Nat.le_of_ble_eq_true rfl) rfl rfl rfl ?_
      refine z_goto (q := 33) dX11_monthOn_123 (by decide) ?_
      refine Zt.drop (i := 3) (L' := [some (.ref l0), some (.int l1), some (.int (l2 + 1)), none]) rfl ?_
      exact hF
    · have hF := hF.2 hc
      refine z_aload_n (q := 97) dX11_monthOn_96 rfl rfl rfl ?_
      refine z_getR (c := 11) (k := 37) (r := (RX11, TX11, 54)) (q := 100) dX11_monthOn_97 rfl (by decide) fl_X11_105 rfl g21 g22 rfl ?_
      refine z_iload_n (q := 101) dX11_monthOn_100 rfl rfl rfl ?_
      refine y_iald (j := (Int32.toNatClampNeg l2)) (q := 102) dX11_monthOn_101 (Or.inl g23) g24 rfl rfl ?_
      refine z_goto (q := 111) dX11_monthOn_102 (by decide) ?_
      refine z_aload_n (q := 112) dX11_monthOn_111 rfl rfl rfl ?_
      obtain ⟨g32, hF⟩ := hF
      refine z_getR (c := 11) (k := 38) (r := (RX11, TX11, 54)) (q := 115) dX11_monthOn_112 rfl (by decide) fl_X11_108 rfl g21 g32 rfl ?_
      refine z_iload_n (q := 116) dX11_monthOn_115 rfl rfl rfl ?_
      obtain ⟨g33, hF⟩ := hF
      obtain ⟨g34, hF⟩ := hF
      refine y_iald (j := (Int32.toNatClampNeg l2)) (q := 117) dX11_monthOn_116 (Or.inl g33) g34 rfl rfl ?_
      refine z_callVV (rc := 0) (rs := 0) (b := l0) (av := [.int (zI h (zR h l0 37) (Int32.toNatClampNeg l2)), .int (zI h (zR h l0 37) (Int32.toNatClampNeg l2)), .int (zI h (zR h l0 38) (Int32.toNatClampNeg l2))]) (ci := 11) (r := (RX11, TX11, 54)) (q := 120) hF dX11_monthOn_117 ml_X11_296 ok_X11_run in_X11_run se_X11_run rfl rfl g21 rfl (Nat.le_of_ble_eq_true rfl) (by decide) (Nat.le_of_ble_eq_true rfl) rfl rfl rfl rfl (fun h35 hF => ?_)
      refine z_iinc (q := 123) (v := (l2 + 1)) (L' := [some (.ref l0), some (.int l1), some (.int (l2 + 1)), some (.int s0)]) dX11_monthOn_120 rfl rfl (Nat.le_of_ble_eq_true rfl) rfl rfl rfl ?_
      refine z_goto (q := 33) dX11_monthOn_123 (by decide) ?_
      refine Zt.drop (i := 3) (L' := [some (.ref l0), some (.int l1), some (.int (l2 + 1)), none]) rfl ?_
      exact hF
  · have hF := hF.2 hc
    refine z_aload_n (q := 78) dX11_monthOn_77 rfl rfl rfl ?_
    obtain ⟨g36, hF⟩ := hF
    obtain ⟨g37, hF⟩ := hF
    refine z_getR (c := 11) (k := 36) (r := (RX11, TX11, 54)) (q := 81) dX11_monthOn_78 rfl (by decide) fl_X11_102 rfl g36 g37 rfl ?_
    refine z_iload_n (q := 82) dX11_monthOn_81 rfl rfl rfl ?_
    obtain ⟨g38, hF⟩ := hF
    obtain ⟨g39, hF⟩ := hF
    refine y_iald (j := (Int32.toNatClampNeg l2)) (q := 83) dX11_monthOn_82 (Or.inl g38) g39 rfl rfl ?_
    refine z_goto (q := 92) dX11_monthOn_83 (by decide) ?_
    refine z_iload_n (q := 93) dX11_monthOn_92 rfl rfl rfl ?_
    refine z_if_eq (t := 105) (q := 96) dX11_monthOn_93 (by decide) rfl (fun hc => ?_) (fun hc => ?_)
    · have hF := hF.1 hc
      refine z_aload_n (q := 106) dX11_monthOn_105 rfl rfl rfl ?_
      refine z_getR (c := 11) (k := 36) (r := (RX11, TX11, 54)) (q := 109) dX11_monthOn_106 rfl (by decide) fl_X11_102 rfl g36 g37 rfl ?_
      refine z_iload_n (q := 110) dX11_monthOn_109 rfl rfl rfl ?_
      refine y_iald (j := (Int32.toNatClampNeg l2)) (q := 111) dX11_monthOn_110 (Or.inl g38) g39 rfl rfl ?_
      refine z_aload_n (q := 112) dX11_monthOn_111 rfl rfl rfl ?_
      obtain ⟨g40, hF⟩ := hF
      refine z_getR (c := 11) (k := 38) (r := (RX11, TX11, 54)) (q := 115) dX11_monthOn_112 rfl (by decide) fl_X11_108 rfl g36 g40 rfl ?_
      refine z_iload_n (q := 116) dX11_monthOn_115 rfl rfl rfl ?_
      obtain ⟨g41, hF⟩ := hF
      obtain ⟨g42, hF⟩ := hF
      refine y_iald (j := (Int32.toNatClampNeg l2)) (q := 117) dX11_monthOn_116 (Or.inl g41) g42 rfl rfl ?_
      refine z_callVV (rc := 0) (rs := 0) (b := l0) (av := [.int (zI h (zR h l0 36) (Int32.toNatClampNeg l2)), .int (zI h (zR h l0 36) (Int32.toNatClampNeg l2)), .int (zI h (zR h l0 38) (Int32.toNatClampNeg l2))]) (ci := 11) (r := (RX11, TX11, 54)) (q := 120) hF dX11_monthOn_117 ml_X11_296 ok_X11_run in_X11_run se_X11_run rfl rfl g36 rfl (Nat.le_of_ble_eq_true rfl) (by decide) (Nat.le_of_ble_eq_true rfl) rfl rfl rfl rfl (fun h43 hF => ?_)
      refine z_iinc (q := 123) (v := (l2 + 1)) (L' := [some (.ref l0), some (.int l1), some (.int (l2 + 1)), some (.int s0)]) dX11_monthOn_120 rfl rfl (Nat.le_of_ble_eq_true rfl) rfl rfl rfl ?_
      refine z_goto (q := 33) dX11_monthOn_123 (by decide) ?_
      refine Zt.drop (i := 3) (L' := [some (.ref l0), some (.int l1), some (.int (l2 + 1)), none]) rfl ?_
      exact hF
    · have hF := hF.2 hc
      refine z_aload_n (q := 97) dX11_monthOn_96 rfl rfl rfl ?_
      obtain ⟨g44, hF⟩ := hF
      refine z_getR (c := 11) (k := 37) (r := (RX11, TX11, 54)) (q := 100) dX11_monthOn_97 rfl (by decide) fl_X11_105 rfl g36 g44 rfl ?_
      refine z_iload_n (q := 101) dX11_monthOn_100 rfl rfl rfl ?_
      obtain ⟨g45, hF⟩ := hF
      obtain ⟨g46, hF⟩ := hF
      refine y_iald (j := (Int32.toNatClampNeg l2)) (q := 102) dX11_monthOn_101 (Or.inl g45) g46 rfl rfl ?_
      refine z_goto (q := 111) dX11_monthOn_102 (by decide) ?_
      refine z_aload_n (q := 112) dX11_monthOn_111 rfl rfl rfl ?_
      obtain ⟨g47, hF⟩ := hF
      refine z_getR (c := 11) (k := 38) (r := (RX11, TX11, 54)) (q := 115) dX11_monthOn_112 rfl (by decide) fl_X11_108 rfl g36 g47 rfl ?_
      refine z_iload_n (q := 116) dX11_monthOn_115 rfl rfl rfl ?_
      obtain ⟨g48, hF⟩ := hF
      obtain ⟨g49, hF⟩ := hF
      refine y_iald (j := (Int32.toNatClampNeg l2)) (q := 117) dX11_monthOn_116 (Or.inl g48) g49 rfl rfl ?_
      refine z_callVV (rc := 0) (rs := 0) (b := l0) (av := [.int (zI h (zR h l0 36) (Int32.toNatClampNeg l2)), .int (zI h (zR h l0 37) (Int32.toNatClampNeg l2)), .int (zI h (zR h l0 38) (Int32.toNatClampNeg l2))]) (ci := 11) (r := (RX11, TX11, 54)) (q := 120) hF dX11_monthOn_117 ml_X11_296 ok_X11_run in_X11_run se_X11_run rfl rfl g36 rfl (Nat.le_of_ble_eq_true rfl) (by decide) (Nat.le_of_ble_eq_true rfl) rfl rfl rfl rfl (fun h50 hF => ?_)
      refine z_iinc (q := 123) (v := (l2 + 1)) (L' := [some (.ref l0), some (.int l1), some (.int (l2 + 1)), some (.int s0)]) dX11_monthOn_120 rfl rfl (Nat.le_of_ble_eq_true rfl) rfl rfl rfl ?_
      refine z_goto (q := 33) dX11_monthOn_123 (by decide) ?_
      refine Zt.drop (i := 3) (L' := [some (.ref l0), some (.int l1), some (.int (l2 + 1)), none]) rfl ?_
      exact hF
set_option maxRecDepth 100000 in
set_option maxHeartbeats 4000000 in
theorem wX11_monthOn_33 {ψ : ZH → Prop} {l0 : Nat} {l1 : Int32} {l2 : Int32} {h : ZH} (hF : (zK h l0 = 12) ∧ (((zI h l0 39) ≤ l2 → Zt mX11_monthOn (zPV ψ) 0 0 128 [some (.ref l0), some (.int l1), some (.int 0), none] [] h) ∧ (¬ (zI h l0 39) ≤ l2 → ((zR h l0 33) ≠ 0) ∧ ((zR h l0 36) ≠ 0) ∧ (zK h (zR h l0 36) = 20) ∧ (vp_in l2 (zN h (zR h l0 36))) ∧ (zK h (zR h l0 33) = 20) ∧ (vp_in (zI h (zR h l0 36) (Int32.toNatClampNeg l2)) (zN h (zR h l0 33))) ∧ ((zR h l0 37) ≠ 0) ∧ (zK h (zR h l0 37) = 20) ∧ (vp_in l2 (zN h (zR h l0 37))) ∧ (vp_in (zI h (zR h l0 37) (Int32.toNatClampNeg l2)) (zN h (zR h l0 33))) ∧ (((zI h (zR h l0 33) (Int32.toNatClampNeg (zI h (zR h l0 36) (Int32.toNatClampNeg l2)))) ≤ (zI h (zR h l0 33) (Int32.toNatClampNeg (zI h (zR h l0 37) (Int32.toNatClampNeg l2)))) → Zt mX11_monthOn (zPV ψ) 0 0 71 [some (.ref l0), some (.int l1), some (.int l2), none] [.int 0] h) ∧ (¬ (zI h (zR h l0 33) (Int32.toNatClampNeg (zI h (zR h l0 36) (Int32.toNatClampNeg l2)))) ≤ (zI h (zR h l0 33) (Int32.toNatClampNeg (zI h (zR h l0 37) (Int32.toNatClampNeg l2)))) → Zt mX11_monthOn (zPV ψ) 0 0 71 [some (.ref l0), some (.int l1), some (.int l2), none] [.int 1] h))))) : Zt mX11_monthOn (zPV ψ) 0 0 33 [some (.ref l0), some (.int l1), some (.int l2), none] [] h := by
  refine z_iload_n (q := 34) dX11_monthOn_33 rfl rfl rfl ?_
  refine z_aload_n (q := 35) dX11_monthOn_34 rfl rfl rfl ?_
  obtain ⟨g51, hF⟩ := hF
  refine z_getI (c := 11) (k := 39) (r := (RX11, TX11, 54)) (q := 38) dX11_monthOn_35 rfl (by decide) fl_X11_293 rfl g51 rfl ?_
  refine z_icmp_ge (t := 126) (q := 41) dX11_monthOn_38 (by decide) rfl (fun hc => ?_) (fun hc => ?_)
  · have hF := hF.1 hc
    refine z_iconst (q := 127) (v := 0) dX11_monthOn_126 (by decide) rfl ?_
    refine z_istore_n (q := 128) (L' := [some (.ref l0), some (.int l1), some (.int 0), none]) dX11_monthOn_127 rfl (Nat.le_of_ble_eq_true rfl) rfl rfl rfl ?_
    exact hF
  · have hF := hF.2 hc
    refine z_aload_n (q := 42) dX11_monthOn_41 rfl rfl rfl ?_
    obtain ⟨g52, hF⟩ := hF
    refine z_getR (c := 11) (k := 33) (r := (RX11, TX11, 54)) (q := 45) dX11_monthOn_42 rfl (by decide) fl_X11_93 rfl g51 g52 rfl ?_
    refine z_aload_n (q := 46) dX11_monthOn_45 rfl rfl rfl ?_
    obtain ⟨g53, hF⟩ := hF
    refine z_getR (c := 11) (k := 36) (r := (RX11, TX11, 54)) (q := 49) dX11_monthOn_46 rfl (by decide) fl_X11_102 rfl g51 g53 rfl ?_
    refine z_iload_n (q := 50) dX11_monthOn_49 rfl rfl rfl ?_
    obtain ⟨g54, hF⟩ := hF
    obtain ⟨g55, hF⟩ := hF
    refine y_iald (j := (Int32.toNatClampNeg l2)) (q := 51) dX11_monthOn_50 (Or.inl g54) g55 rfl rfl ?_
    obtain ⟨g56, hF⟩ := hF
    obtain ⟨g57, hF⟩ := hF
    refine y_iald (j := (Int32.toNatClampNeg (zI h (zR h l0 36) (Int32.toNatClampNeg l2)))) (q := 52) dX11_monthOn_51 (Or.inl g56) g57 rfl rfl ?_
    refine z_aload_n (q := 53) dX11_monthOn_52 rfl rfl rfl ?_
    refine z_getR (c := 11) (k := 33) (r := (RX11, TX11, 54)) (q := 56) dX11_monthOn_53 rfl (by decide) fl_X11_93 rfl g51 g52 rfl ?_
    refine z_aload_n (q := 57) dX11_monthOn_56 rfl rfl rfl ?_
    obtain ⟨g58, hF⟩ := hF
    refine z_getR (c := 11) (k := 37) (r := (RX11, TX11, 54)) (q := 60) dX11_monthOn_57 rfl (by decide) fl_X11_105 rfl g51 g58 rfl ?_
    refine z_iload_n (q := 61) dX11_monthOn_60 rfl rfl rfl ?_
    obtain ⟨g59, hF⟩ := hF
    obtain ⟨g60, hF⟩ := hF
    refine y_iald (j := (Int32.toNatClampNeg l2)) (q := 62) dX11_monthOn_61 (Or.inl g59) g60 rfl rfl ?_
    obtain ⟨g61, hF⟩ := hF
    refine y_iald (j := (Int32.toNatClampNeg (zI h (zR h l0 37) (Int32.toNatClampNeg l2)))) (q := 63) dX11_monthOn_62 (Or.inl g56) g61 rfl rfl ?_
    refine z_icmp_le (t := 70) (q := 66) dX11_monthOn_63 (by decide) rfl (fun hc => ?_) (fun hc => ?_)
    · have hF := hF.1 hc
      refine z_iconst (q := 71) (v := 0) dX11_monthOn_70 (by decide) rfl ?_
      exact hF
    · have hF := hF.2 hc
      refine z_iconst (q := 67) (v := 1) dX11_monthOn_66 (by decide) rfl ?_
      refine z_goto (q := 71) dX11_monthOn_67 (by decide) ?_
      exact hF
set_option maxRecDepth 100000 in
set_option maxHeartbeats 4000000 in
theorem wX11_monthOn_2 {ψ : ZH → Prop} {l0 : Nat} {l1 : Int32} {l2 : Int32} {h : ZH} (hF : (zK h l0 = 12) ∧ (((zI h l0 9) ≤ l2 → Zt mX11_monthOn (zPV ψ) 0 0 33 [some (.ref l0), some (.int l1), some (.int 0), none] [] h) ∧ (¬ (zI h l0 9) ≤ l2 → ((zR h l0 33) ≠ 0) ∧ (zK h (zR h l0 33) = 20) ∧ (vp_in l2 (zN h (zR h l0 33))) ∧ ((zR h l0 32) ≠ 0) ∧ (zK h (zR h l0 32) = 20) ∧ (vp_in l2 (zN h (zR h l0 32))) ∧ Zt mX11_monthOn (zPV ψ) 0 0 2 [some (.ref l0), some (.int l1), some (.int (l2 + 1)), none] [] (zsI h (zR h l0 33) (Int32.toNatClampNeg l2) ((zI h (zR h l0 33) (Int32.toNatClampNeg l2)) + (zI h (zR h l0 32) (Int32.toNatClampNeg l2))))))) : Zt mX11_monthOn (zPV ψ) 0 0 2 [some (.ref l0), some (.int l1), some (.int l2), none] [] h := by
  refine z_iload_n (q := 3) dX11_monthOn_2 rfl rfl rfl ?_
  refine z_aload_n (q := 4) dX11_monthOn_3 rfl rfl rfl ?_
  obtain ⟨g62, hF⟩ := hF
  refine z_getI (c := 11) (k := 9) (r := (RX11, TX11, 54)) (q := 7) dX11_monthOn_4 rfl (by decide) fl_X11_144 rfl g62 rfl ?_
  refine z_icmp_ge (t := 31) (q := 10) dX11_monthOn_7 (by decide) rfl (fun hc => ?_) (fun hc => ?_)
  · have hF := hF.1 hc
    refine z_iconst (q := 32) (v := 0) dX11_monthOn_31 (by decide) rfl ?_
    refine z_istore_n (q := 33) (L' := [some (.ref l0), some (.int l1), some (.int 0), none]) dX11_monthOn_32 rfl (Nat.le_of_ble_eq_true rfl) rfl rfl rfl ?_
    exact hF
  · have hF := hF.2 hc
    refine z_aload_n (q := 11) dX11_monthOn_10 rfl rfl rfl ?_
    obtain ⟨g63, hF⟩ := hF
    refine z_getR (c := 11) (k := 33) (r := (RX11, TX11, 54)) (q := 14) dX11_monthOn_11 rfl (by decide) fl_X11_93 rfl g62 g63 rfl ?_
    refine z_iload_n (q := 15) dX11_monthOn_14 rfl rfl rfl ?_
    refine z_dup2 (q := 16) dX11_monthOn_15 rfl rfl rfl ?_
    obtain ⟨g64, hF⟩ := hF
    obtain ⟨g65, hF⟩ := hF
    refine y_iald (j := (Int32.toNatClampNeg l2)) (q := 17) dX11_monthOn_16 (Or.inl g64) g65 rfl rfl ?_
    refine z_aload_n (q := 18) dX11_monthOn_17 rfl rfl rfl ?_
    obtain ⟨g66, hF⟩ := hF
    refine z_getR (c := 11) (k := 32) (r := (RX11, TX11, 54)) (q := 21) dX11_monthOn_18 rfl (by decide) fl_X11_90 rfl g62 g66 rfl ?_
    refine z_iload_n (q := 22) dX11_monthOn_21 rfl rfl rfl ?_
    obtain ⟨g67, hF⟩ := hF
    obtain ⟨g68, hF⟩ := hF
    refine y_iald (j := (Int32.toNatClampNeg l2)) (q := 23) dX11_monthOn_22 (Or.inl g67) g68 rfl rfl ?_
    refine z_iadd (q := 24) dX11_monthOn_23 rfl ?_
    refine y_iast (j := (Int32.toNatClampNeg l2)) (q := 25) dX11_monthOn_24 g64 g65 rfl rfl ?_
    refine z_iinc (q := 28) (v := (l2 + 1)) (L' := [some (.ref l0), some (.int l1), some (.int (l2 + 1)), none]) dX11_monthOn_25 rfl rfl (Nat.le_of_ble_eq_true rfl) rfl rfl rfl ?_
    refine z_goto (q := 2) dX11_monthOn_28 (by decide) ?_
    exact hF
set_option maxRecDepth 100000 in
set_option maxHeartbeats 4000000 in
theorem wX11_monthOn {ψ : ZH → Prop} {l0 : Nat} {l1 : Int32} {h : ZH} (hF : Zt mX11_monthOn (zPV ψ) 0 0 2 [some (.ref l0), some (.int l1), some (.int 0), none] [] h) : ZcV mX11_monthOn [.ref l0, .int l1] h ψ := by
  refine Zc.intro (L := [some (.ref l0), some (.int l1), none, none]) (show plainName RX11 = true by decide) rfl (Nat.le_of_ble_eq_true rfl) ?_
  show Zt _ _ 0 0 _ _ _ _
  refine z_iconst (q := 1) (v := 0) dX11_monthOn_0 (by decide) rfl ?_
  refine z_istore_n (q := 2) (L' := [some (.ref l0), some (.int l1), some (.int 0), none]) dX11_monthOn_1 rfl (Nat.le_of_ble_eq_true rfl) rfl rfl rfl ?_
  exact hF
set_option maxRecDepth 100000 in
set_option maxHeartbeats 4000000 in
theorem wX11_months_33 {ψ : Int32 → ZH → Prop} {l0 : Nat} {l1 : Int32} {l2 : Int32} {l3 : Int32} {l4 : Int32} {h : ZH} (hF : (zK h l0 = 12) ∧ (((zI h l0 9) ≤ l4 → Zt mX11_months (zPI ψ) 0 0 19 [some (.ref l0), some (.int l1), some (.int l2), some (.int (l3 + 1)), none] [] (zsI h l0 40 ((zI h l0 40) + 1))) ∧ (¬ (zI h l0 9) ≤ l4 → ((zR h l0 35) ≠ 0) ∧ (zK h (zR h l0 35) = 20) ∧ (vp_in l4 (zN h (zR h l0 35))) ∧ ((0 ≤ (zI h (zR h l0 35) (Int32.toNatClampNeg l4)) → Zt mX11_months (zPI ψ) 0 0 33 [some (.ref l0), some (.int l1), some (.int l2), some (.int l3), some (.int (l4 + 1))] [] h) ∧ (¬ 0 ≤ (zI h (zR h l0 35) (Int32.toNatClampNeg l4)) → ZcI mX11_isDrowned [.ref l0, .int l4] h (fun x6 h5 => ((x6 = 0 → Zt mX11_months (zPI ψ) 0 0 33 [some (.ref l0), some (.int l1), some (.int l2), some (.int l3), some (.int (l4 + 1))] [] h5) ∧ (¬ x6 = 0 → (zK h5 l0 = 12) ∧ ((zR h5 l0 35) ≠ 0) ∧ (zK h5 (zR h5 l0 35) = 20) ∧ (vp_in l4 (zN h5 (zR h5 l0 35))) ∧ Zt mX11_months (zPI ψ) 0 0 33 [some (.ref l0), some (.int l1), some (.int (l2 + 1)), some (.int l3), some (.int (l4 + 1))] [] (zsI h5 (zR h5 l0 35) (Int32.toNatClampNeg l4) (zI h5 l0 40)))))))))) : Zt mX11_months (zPI ψ) 0 0 33 [some (.ref l0), some (.int l1), some (.int l2), some (.int l3), some (.int l4)] [] h := by
  refine z_iload (q := 35) dX11_months_33 rfl rfl ?_
  refine z_aload_n (q := 36) dX11_months_35 rfl rfl rfl ?_
  obtain ⟨g1, hF⟩ := hF
  refine z_getI (c := 11) (k := 9) (r := (RX11, TX11, 54)) (q := 39) dX11_months_36 rfl (by decide) fl_X11_144 rfl g1 rfl ?_
  refine z_icmp_ge (t := 81) (q := 42) dX11_months_39 (by decide) rfl (fun hc => ?_) (fun hc => ?_)
  · have hF := hF.1 hc
    refine z_aload_n (q := 82) dX11_months_81 rfl rfl rfl ?_
    refine z_dup (q := 83) dX11_months_82 rfl rfl ?_
    refine z_getI (c := 11) (k := 40) (r := (RX11, TX11, 54)) (q := 86) dX11_months_83 rfl (by decide) fl_X11_314 rfl g1 rfl ?_
    refine z_iconst (q := 87) (v := 1) dX11_months_86 (by decide) rfl ?_
    refine z_iadd (q := 88) dX11_months_87 rfl ?_
    refine z_putI (c := 11) (k := 40) (r := (RX11, TX11, 54)) (q := 91) dX11_months_88 rfl (by decide) fl_X11_314 rfl rfl g1 rfl ?_
    refine z_iinc (q := 94) (v := (l3 + 1)) (L' := [some (.ref l0), some (.int l1), some (.int l2), some (.int (l3 + 1)), some (.int l4)]) dX11_months_91 rfl rfl (Nat.le_of_ble_eq_true rfl) rfl rfl rfl ?_
    refine z_goto (q := 19) dX11_months_94 (by decide) ?_
    refine Zt.drop (i := 4) (L' := [some (.ref l0), some (.int l1), some (.int l2), some (.int (l3 + 1)), none]) rfl ?_
    exact hF
  · have hF := hF.2 hc
    refine z_aload_n (q := 43) dX11_months_42 rfl rfl rfl ?_
    obtain ⟨g2, hF⟩ := hF
    refine z_getR (c := 11) (k := 35) (r := (RX11, TX11, 54)) (q := 46) dX11_months_43 rfl (by decide) fl_X11_99 rfl g1 g2 rfl ?_
    refine z_iload (q := 48) dX11_months_46 rfl rfl ?_
    obtain ⟨g3, hF⟩ := hF
    obtain ⟨g4, hF⟩ := hF
    refine y_iald (j := (Int32.toNatClampNeg l4)) (q := 49) dX11_months_48 (Or.inl g3) g4 rfl rfl ?_
    refine z_if_ge (t := 75) (q := 52) dX11_months_49 (by decide) rfl (fun hc => ?_) (fun hc => ?_)
    · have hF := hF.1 hc
      refine z_iinc (q := 78) (v := (l4 + 1)) (L' := [some (.ref l0), some (.int l1), some (.int l2), some (.int l3), some (.int (l4 + 1))]) dX11_months_75 rfl rfl (Nat.le_of_ble_eq_true rfl) rfl rfl rfl ?_
      refine z_goto (q := 33) dX11_months_78 (by decide) ?_
      exact hF
    · have hF := hF.2 hc
      refine z_aload_n (q := 53) dX11_months_52 rfl rfl rfl ?_
      refine z_iload (q := 55) dX11_months_53 rfl rfl ?_
      refine z_callVI (rc := 0) (rs := 0) (b := l0) (av := [.int l4]) (ci := 11) (r := (RX11, TX11, 54)) (q := 58) hF dX11_months_55 ml_X11_311 ok_X11_isDrowned in_X11_isDrowned se_X11_isDrowned rfl rfl g1 rfl (Nat.le_of_ble_eq_true rfl) (by decide) (Nat.le_of_ble_eq_true rfl) rfl rfl rfl rfl (fun x6 h5 hF => ?_)
      refine z_if_eq (t := 75) (q := 61) dX11_months_58 (by decide) rfl (fun hc => ?_) (fun hc => ?_)
      · have hF := hF.1 hc
        refine z_iinc (q := 78) (v := (l4 + 1)) (L' := [some (.ref l0), some (.int l1), some (.int l2), some (.int l3), some (.int (l4 + 1))]) dX11_months_75 rfl rfl (Nat.le_of_ble_eq_true rfl) rfl rfl rfl ?_
        refine z_goto (q := 33) dX11_months_78 (by decide) ?_
        exact hF
      · have hF := hF.2 hc
        refine z_aload_n (q := 62) dX11_months_61 rfl rfl rfl ?_
        obtain ⟨g7, hF⟩ := hF
        obtain ⟨g8, hF⟩ := hF
        refine z_getR (c := 11) (k := 35) (r := (RX11, TX11, 54)) (q := 65) dX11_months_62 rfl (by decide) fl_X11_99 rfl g7 g8 rfl ?_
        refine z_iload (q := 67) dX11_months_65 rfl rfl ?_
        refine z_aload_n (q := 68) dX11_months_67 rfl rfl rfl ?_
        refine z_getI (c := 11) (k := 40) (r := (RX11, TX11, 54)) (q := 71) dX11_months_68 rfl (by decide) fl_X11_314 rfl g7 rfl ?_
        obtain ⟨g9, hF⟩ := hF
        obtain ⟨g10, hF⟩ := hF
        refine y_iast (j := (Int32.toNatClampNeg l4)) (q := 72) dX11_months_71 g9 g10 rfl rfl ?_
        refine z_iinc (q := 75) (v := (l2 + 1)) (L' := [some (.ref l0), some (.int l1), some (.int (l2 + 1)), some (.int l3), some (.int l4)]) dX11_months_72 rfl rfl (Nat.le_of_ble_eq_true rfl) rfl rfl rfl ?_
        refine z_iinc (q := 78) (v := (l4 + 1)) (L' := [some (.ref l0), some (.int l1), some (.int (l2 + 1)), some (.int l3), some (.int (l4 + 1))]) dX11_months_75 rfl rfl (Nat.le_of_ble_eq_true rfl) rfl rfl rfl ?_
        refine z_goto (q := 33) dX11_months_78 (by decide) ?_
        exact hF
set_option maxRecDepth 100000 in
set_option maxHeartbeats 4000000 in
theorem wX11_months_19 {ψ : Int32 → ZH → Prop} {l0 : Nat} {l1 : Int32} {l2 : Int32} {l3 : Int32} {h : ZH} (hF : ((l1 ≤ l3 → ψ l2 h) ∧ (¬ l1 ≤ l3 → (zK h l0 = 12) ∧ ZcV mX11_monthOn [.ref l0, .int (-6)] h (fun h11 => Zt mX11_months (zPI ψ) 0 0 33 [some (.ref l0), some (.int l1), some (.int l2), some (.int l3), some (.int 0)] [] h11)))) : Zt mX11_months (zPI ψ) 0 0 19 [some (.ref l0), some (.int l1), some (.int l2), some (.int l3), none] [] h := by
  refine z_iload_n (q := 20) dX11_months_19 rfl rfl rfl ?_
  refine z_iload_n (q := 21) dX11_months_20 rfl rfl rfl ?_
  refine z_icmp_ge (t := 97) (q := 24) dX11_months_21 (by decide) rfl (fun hc => ?_) (fun hc => ?_)
  · have hF := hF.1 hc
    refine z_iload_n (q := 98) dX11_months_97 rfl rfl rfl ?_
    exact z_ireturn dX11_months_98 rfl ⟨_, rfl, hF⟩
  · have hF := hF.2 hc
    refine z_aload_n (q := 25) dX11_months_24 rfl rfl rfl ?_
    refine z_bipush (q := 27) (v := (-6)) dX11_months_25 (by decide) rfl ?_
    obtain ⟨g12, hF⟩ := hF
    refine z_callVV (rc := 0) (rs := 0) (b := l0) (av := [.int (-6)]) (ci := 11) (r := (RX11, TX11, 54)) (q := 30) hF dX11_months_27 ml_X11_308 ok_X11_monthOn in_X11_monthOn se_X11_monthOn rfl rfl g12 rfl (Nat.le_of_ble_eq_true rfl) (by decide) (Nat.le_of_ble_eq_true rfl) rfl rfl rfl rfl (fun h11 hF => ?_)
    refine z_iconst (q := 31) (v := 0) dX11_months_30 (by decide) rfl ?_
    refine z_istore (q := 33) (L' := [some (.ref l0), some (.int l1), some (.int l2), some (.int l3), some (.int 0)]) dX11_months_31 (Nat.le_of_ble_eq_true rfl) rfl rfl rfl ?_
    exact hF
set_option maxRecDepth 100000 in
set_option maxHeartbeats 4000000 in
theorem wX11_months {ψ : Int32 → ZH → Prop} {l0 : Nat} {l1 : Int32} {h : ZH} (hF : ZcI mX11_in [.long (Int32.toInt64 l1), .long 1, .long 240] h (fun x14 h13 => ((¬ x14 = 0 → Zt mX11_months (zPI ψ) 0 0 19 [some (.ref l0), some (.int l1), some (.int 0), some (.int 0), none] [] h13) ∧ (x14 = 0 → ψ (-2) h13)))) : ZcI mX11_months [.ref l0, .int l1] h ψ := by
  refine Zc.intro (L := [some (.ref l0), some (.int l1), none, none, none]) (show plainName RX11 = true by decide) rfl (Nat.le_of_ble_eq_true rfl) ?_
  show Zt _ _ 0 0 _ _ _ _
  refine z_iload_n (q := 1) dX11_months_0 rfl rfl rfl ?_
  refine z_i2l (q := 2) dX11_months_1 rfl ?_
  refine z_lconst (q := 3) (v := 1) dX11_months_2 (by decide) rfl ?_
  refine z_ldc2 (q := 6) (v := 240) dX11_months_3 cw_X11_306 rfl ?_
  refine z_callSI (rc := 0) (rs := 0) (av := [.long (Int32.toInt64 l1), .long 1, .long 240]) (q := 9) hF dX11_months_6 ml_X11_140 ok_X11_in st_X11_in rfl (Nat.le_of_ble_eq_true rfl) (by decide) (Nat.le_of_ble_eq_true rfl) rfl rfl rfl rfl (fun x14 h13 hF => ?_)
  refine z_if_ne (t := 15) (q := 12) dX11_months_9 (by decide) rfl (fun hc => ?_) (fun hc => ?_)
  · have hF := hF.1 hc
    refine z_iconst (q := 16) (v := 0) dX11_months_15 (by decide) rfl ?_
    refine z_istore_n (q := 17) (L' := [some (.ref l0), some (.int l1), some (.int 0), none, none]) dX11_months_16 rfl (Nat.le_of_ble_eq_true rfl) rfl rfl rfl ?_
    refine z_iconst (q := 18) (v := 0) dX11_months_17 (by decide) rfl ?_
    refine z_istore_n (q := 19) (L' := [some (.ref l0), some (.int l1), some (.int 0), some (.int 0), none]) dX11_months_18 rfl (Nat.le_of_ble_eq_true rfl) rfl rfl rfl ?_
    exact hF
  · have hF := hF.2 hc
    refine z_bipush (q := 14) (v := (-2)) dX11_months_12 (by decide) rfl ?_
    exact z_ireturn dX11_months_14 rfl ⟨_, rfl, hF⟩
set_option maxRecDepth 100000 in
set_option maxHeartbeats 4000000 in
theorem wX11_threat_124 {ψ : Int32 → ZH → Prop} {l0 : Nat} {l3 : Int32} {l4 : Int32} {l5 : Int32} {l6 : Int32} {h : ZH} (hF : (zK h l0 = 12) ∧ (((zI h l0 9) ≤ l6 → ψ l5 (zsI (zsI h l0 41 l3) l0 42 l4)) ∧ (¬ (zI h l0 9) ≤ l6 → ((zR h l0 33) ≠ 0) ∧ ((zR h l0 43) ≠ 0) ∧ (zK h (zR h l0 43) = 20) ∧ (vp_in l6 (zN h (zR h l0 43))) ∧ (zK h (zR h l0 33) = 20) ∧ (vp_in l6 (zN h (zR h l0 33))) ∧ Zt mX11_threat (zPI ψ) 0 0 124 [some (.ref l0), none, none, some (.int l3), some (.int l4), some (.int l5), some (.int (l6 + 1))] [] (zsI h (zR h l0 33) (Int32.toNatClampNeg l6) (zI h (zR h l0 43) (Int32.toNatClampNeg l6)))))) : Zt mX11_threat (zPI ψ) 0 0 124 [some (.ref l0), none, none, some (.int l3), some (.int l4), some (.int l5), some (.int l6)] [] h := by
  refine z_iload (q := 126) dX11_threat_124 rfl rfl ?_
  refine z_aload_n (q := 127) dX11_threat_126 rfl rfl rfl ?_
  obtain ⟨g1, hF⟩ := hF
  refine z_getI (c := 11) (k := 9) (r := (RX11, TX11, 54)) (q := 130) dX11_threat_127 rfl (by decide) fl_X11_144 rfl g1 rfl ?_
  refine z_icmp_ge (t := 153) (q := 133) dX11_threat_130 (by decide) rfl (fun hc => ?_) (fun hc => ?_)
  · have hF := hF.1 hc
    refine z_aload_n (q := 154) dX11_threat_153 rfl rfl rfl ?_
    refine z_iload_n (q := 155) dX11_threat_154 rfl rfl rfl ?_
    refine z_putI (c := 11) (k := 41) (r := (RX11, TX11, 54)) (q := 158) dX11_threat_155 rfl (by decide) fl_X11_300 rfl rfl g1 rfl ?_
    refine z_aload_n (q := 159) dX11_threat_158 rfl rfl rfl ?_
    refine z_iload (q := 161) dX11_threat_159 rfl rfl ?_
    refine z_putI (c := 11) (k := 42) (r := (RX11, TX11, 54)) (q := 164) dX11_threat_161 rfl (by decide) fl_X11_303 rfl rfl g1 rfl ?_
    refine z_iload (q := 166) dX11_threat_164 rfl rfl ?_
    exact z_ireturn dX11_threat_166 rfl ⟨_, rfl, hF⟩
  · have hF := hF.2 hc
    refine z_aload_n (q := 134) dX11_threat_133 rfl rfl rfl ?_
    obtain ⟨g2, hF⟩ := hF
    refine z_getR (c := 11) (k := 33) (r := (RX11, TX11, 54)) (q := 137) dX11_threat_134 rfl (by decide) fl_X11_93 rfl g1 g2 rfl ?_
    refine z_iload (q := 139) dX11_threat_137 rfl rfl ?_
    refine z_aload_n (q := 140) dX11_threat_139 rfl rfl rfl ?_
    obtain ⟨g3, hF⟩ := hF
    refine z_getR (c := 11) (k := 43) (r := (RX11, TX11, 54)) (q := 143) dX11_threat_140 rfl (by decide) fl_X11_111 rfl g1 g3 rfl ?_
    refine z_iload (q := 145) dX11_threat_143 rfl rfl ?_
    obtain ⟨g4, hF⟩ := hF
    obtain ⟨g5, hF⟩ := hF
    refine y_iald (j := (Int32.toNatClampNeg l6)) (q := 146) dX11_threat_145 (Or.inl g4) g5 rfl rfl ?_
    obtain ⟨g6, hF⟩ := hF
    obtain ⟨g7, hF⟩ := hF
    refine y_iast (j := (Int32.toNatClampNeg l6)) (q := 147) dX11_threat_146 g6 g7 rfl rfl ?_
    refine z_iinc (q := 150) (v := (l6 + 1)) (L' := [some (.ref l0), none, none, some (.int l3), some (.int l4), some (.int l5), some (.int (l6 + 1))]) dX11_threat_147 rfl rfl (Nat.le_of_ble_eq_true rfl) rfl rfl rfl ?_
    refine z_goto (q := 124) dX11_threat_150 (by decide) ?_
    exact hF
set_option maxRecDepth 100000 in
set_option maxHeartbeats 4000000 in
theorem wX11_threat_80 {ψ : Int32 → ZH → Prop} {l0 : Nat} {l1 : Int32} {l2 : Int32} {l3 : Int32} {l4 : Int32} {l5 : Int32} {l6 : Int32} {h : ZH} (hF : ((240 ≤ l6 → Zt mX11_threat (zPI ψ) 0 0 124 [some (.ref l0), none, none, some (.int l3), some (.int l4), some (.int l5), some (.int 0)] [] h) ∧ (¬ 240 ≤ l6 → ((0 ≤ l5 → Zt mX11_threat (zPI ψ) 0 0 124 [some (.ref l0), none, none, some (.int l3), some (.int l4), some (.int l5), some (.int 0)] [] h) ∧ (¬ 0 ≤ l5 → (zK h l0 = 12) ∧ ZcV mX11_monthOn [.ref l0, .int l2] h (fun h8 => (zK h8 l0 = 12) ∧ ZcI mX11_isDrowned [.ref l0, .int l1] h8 (fun x12 h10 => ((x12 = 0 → Zt mX11_threat (zPI ψ) 0 0 80 [some (.ref l0), some (.int l1), some (.int l2), some (.int l3), some (.int l4), some (.int (-6)), some (.int (l6 + 1))] [] h10) ∧ (¬ x12 = 0 → Zt mX11_threat (zPI ψ) 0 0 80 [some (.ref l0), some (.int l1), some (.int l2), some (.int l3), some (.int l4), some (.int l6), some (.int (l6 + 1))] [] h10))))))))) : Zt mX11_threat (zPI ψ) 0 0 80 [some (.ref l0), some (.int l1), some (.int l2), some (.int l3), some (.int l4), some (.int l5), some (.int l6)] [] h := by
  refine z_iload (q := 82) dX11_threat_80 rfl rfl ?_
  refine z_sipush (q := 85) (v := 240) dX11_threat_82 (by decide) rfl ?_
  refine z_icmp_ge (t := 121) (q := 88) dX11_threat_85 (by decide) rfl (fun hc => ?_) (fun hc => ?_)
  · have hF := hF.1 hc
    refine z_iconst (q := 122) (v := 0) dX11_threat_121 (by decide) rfl ?_
    refine z_istore (q := 124) (L' := [some (.ref l0), some (.int l1), some (.int l2), some (.int l3), some (.int l4), some (.int l5), some (.int 0)]) dX11_threat_122 (Nat.le_of_ble_eq_true rfl) rfl rfl rfl ?_
    refine Zt.drop (i := 1) (L' := [some (.ref l0), none, some (.int l2), some (.int l3), some (.int l4), some (.int l5), some (.int 0)]) rfl ?_
    refine Zt.drop (i := 2) (L' := [some (.ref l0), none, none, some (.int l3), some (.int l4), some (.int l5), some (.int 0)]) rfl ?_
    exact hF
  · have hF := hF.2 hc
    refine z_iload (q := 90) dX11_threat_88 rfl rfl ?_
    refine z_if_ge (t := 121) (q := 93) dX11_threat_90 (by decide) rfl (fun hc => ?_) (fun hc => ?_)
    · have hF := hF.1 hc
      refine z_iconst (q := 122) (v := 0) dX11_threat_121 (by decide) rfl ?_
      refine z_istore (q := 124) (L' := [some (.ref l0), some (.int l1), some (.int l2), some (.int l3), some (.int l4), some (.int l5), some (.int 0)]) dX11_threat_122 (Nat.le_of_ble_eq_true rfl) rfl rfl rfl ?_
      refine Zt.drop (i := 1) (L' := [some (.ref l0), none, some (.int l2), some (.int l3), some (.int l4), some (.int l5), some (.int 0)]) rfl ?_
      refine Zt.drop (i := 2) (L' := [some (.ref l0), none, none, some (.int l3), some (.int l4), some (.int l5), some (.int 0)]) rfl ?_
      exact hF
    · have hF := hF.2 hc
      refine z_aload_n (q := 94) dX11_threat_93 rfl rfl rfl ?_
      refine z_iload_n (q := 95) dX11_threat_94 rfl rfl rfl ?_
      obtain ⟨g9, hF⟩ := hF
      refine z_callVV (rc := 0) (rs := 0) (b := l0) (av := [.int l2]) (ci := 11) (r := (RX11, TX11, 54)) (q := 98) hF dX11_threat_95 ml_X11_308 ok_X11_monthOn in_X11_monthOn se_X11_monthOn rfl rfl g9 rfl (Nat.le_of_ble_eq_true rfl) (by decide) (Nat.le_of_ble_eq_true rfl) rfl rfl rfl rfl (fun h8 hF => ?_)
      refine z_aload_n (q := 99) dX11_threat_98 rfl rfl rfl ?_
      refine z_iload_n (q := 100) dX11_threat_99 rfl rfl rfl ?_
      obtain ⟨g11, hF⟩ := hF
      refine z_callVI (rc := 0) (rs := 0) (b := l0) (av := [.int l1]) (ci := 11) (r := (RX11, TX11, 54)) (q := 103) hF dX11_threat_100 ml_X11_311 ok_X11_isDrowned in_X11_isDrowned se_X11_isDrowned rfl rfl g11 rfl (Nat.le_of_ble_eq_true rfl) (by decide) (Nat.le_of_ble_eq_true rfl) rfl rfl rfl rfl (fun x12 h10 hF => ?_)
      refine z_if_eq (t := 111) (q := 106) dX11_threat_103 (by decide) rfl (fun hc => ?_) (fun hc => ?_)
      · have hF := hF.1 hc
        refine z_bipush (q := 113) (v := (-6)) dX11_threat_111 (by decide) rfl ?_
        refine z_istore (q := 115) (L' := [some (.ref l0), some (.int l1), some (.int l2), some (.int l3), some (.int l4), some (.int (-6)), some (.int l6)]) dX11_threat_113 (Nat.le_of_ble_eq_true rfl) rfl rfl rfl ?_
        refine z_iinc (q := 118) (v := (l6 + 1)) (L' := [some (.ref l0), some (.int l1), some (.int l2), some (.int l3), some (.int l4), some (.int (-6)), some (.int (l6 + 1))]) dX11_threat_115 rfl rfl (Nat.le_of_ble_eq_true rfl) rfl rfl rfl ?_
        refine z_goto (q := 80) dX11_threat_118 (by decide) ?_
        exact hF
      · have hF := hF.2 hc
        refine z_iload (q := 108) dX11_threat_106 rfl rfl ?_
        refine z_goto (q := 113) dX11_threat_108 (by decide) ?_
        refine z_istore (q := 115) (L' := [some (.ref l0), some (.int l1), some (.int l2), some (.int l3), some (.int l4), some (.int l6), some (.int l6)]) dX11_threat_113 (Nat.le_of_ble_eq_true rfl) rfl rfl rfl ?_
        refine z_iinc (q := 118) (v := (l6 + 1)) (L' := [some (.ref l0), some (.int l1), some (.int l2), some (.int l3), some (.int l4), some (.int l6), some (.int (l6 + 1))]) dX11_threat_115 rfl rfl (Nat.le_of_ble_eq_true rfl) rfl rfl rfl ?_
        refine z_goto (q := 80) dX11_threat_118 (by decide) ?_
        exact hF
set_option maxRecDepth 100000 in
set_option maxHeartbeats 4000000 in
theorem wX11_threat_44 {ψ : Int32 → ZH → Prop} {l0 : Nat} {l1 : Int32} {l2 : Int32} {l3 : Int32} {l4 : Int32} {l5 : Int32} {h : ZH} (hF : (zK h l0 = 12) ∧ (((zI h l0 9) ≤ l5 → Zt mX11_threat (zPI ψ) 0 0 80 [some (.ref l0), some (.int l1), some (.int l2), some (.int l3), some (.int l4), some (.int (-6)), some (.int 0)] [] h) ∧ (¬ (zI h l0 9) ≤ l5 → ((zR h l0 43) ≠ 0) ∧ ((zR h l0 33) ≠ 0) ∧ (zK h (zR h l0 33) = 20) ∧ (vp_in l5 (zN h (zR h l0 33))) ∧ (zK h (zR h l0 43) = 20) ∧ (vp_in l5 (zN h (zR h l0 43))) ∧ Zt mX11_threat (zPI ψ) 0 0 44 [some (.ref l0), some (.int l1), some (.int l2), some (.int l3), some (.int l4), some (.int (l5 + 1)), none] [] (zsI h (zR h l0 43) (Int32.toNatClampNeg l5) (zI h (zR h l0 33) (Int32.toNatClampNeg l5)))))) : Zt mX11_threat (zPI ψ) 0 0 44 [some (.ref l0), some (.int l1), some (.int l2), some (.int l3), some (.int l4), some (.int l5), none] [] h := by
  refine z_iload (q := 46) dX11_threat_44 rfl rfl ?_
  refine z_aload_n (q := 47) dX11_threat_46 rfl rfl rfl ?_
  obtain ⟨g13, hF⟩ := hF
  refine z_getI (c := 11) (k := 9) (r := (RX11, TX11, 54)) (q := 50) dX11_threat_47 rfl (by decide) fl_X11_144 rfl g13 rfl ?_
  refine z_icmp_ge (t := 73) (q := 53) dX11_threat_50 (by decide) rfl (fun hc => ?_) (fun hc => ?_)
  · have hF := hF.1 hc
    refine z_bipush (q := 75) (v := (-6)) dX11_threat_73 (by decide) rfl ?_
    refine z_istore (q := 77) (L' := [some (.ref l0), some (.int l1), some (.int l2), some (.int l3), some (.int l4), some (.int (-6)), none]) dX11_threat_75 (Nat.le_of_ble_eq_true rfl) rfl rfl rfl ?_
    refine z_iconst (q := 78) (v := 0) dX11_threat_77 (by decide) rfl ?_
    refine z_istore (q := 80) (L' := [some (.ref l0), some (.int l1), some (.int l2), some (.int l3), some (.int l4), some (.int (-6)), some (.int 0)]) dX11_threat_78 (Nat.le_of_ble_eq_true rfl) rfl rfl rfl ?_
    exact hF
  · have hF := hF.2 hc
    refine z_aload_n (q := 54) dX11_threat_53 rfl rfl rfl ?_
    obtain ⟨g14, hF⟩ := hF
    refine z_getR (c := 11) (k := 43) (r := (RX11, TX11, 54)) (q := 57) dX11_threat_54 rfl (by decide) fl_X11_111 rfl g13 g14 rfl ?_
    refine z_iload (q := 59) dX11_threat_57 rfl rfl ?_
    refine z_aload_n (q := 60) dX11_threat_59 rfl rfl rfl ?_
    obtain ⟨g15, hF⟩ := hF
    refine z_getR (c := 11) (k := 33) (r := (RX11, TX11, 54)) (q := 63) dX11_threat_60 rfl (by decide) fl_X11_93 rfl g13 g15 rfl ?_
    refine z_iload (q := 65) dX11_threat_63 rfl rfl ?_
    obtain ⟨g16, hF⟩ := hF
    obtain ⟨g17, hF⟩ := hF
    refine y_iald (j := (Int32.toNatClampNeg l5)) (q := 66) dX11_threat_65 (Or.inl g16) g17 rfl rfl ?_
    obtain ⟨g18, hF⟩ := hF
    obtain ⟨g19, hF⟩ := hF
    refine y_iast (j := (Int32.toNatClampNeg l5)) (q := 67) dX11_threat_66 g18 g19 rfl rfl ?_
    refine z_iinc (q := 70) (v := (l5 + 1)) (L' := [some (.ref l0), some (.int l1), some (.int l2), some (.int l3), some (.int l4), some (.int (l5 + 1)), none]) dX11_threat_67 rfl rfl (Nat.le_of_ble_eq_true rfl) rfl rfl rfl ?_
    refine z_goto (q := 44) dX11_threat_70 (by decide) ?_
    exact hF
set_option maxRecDepth 100000 in
set_option maxHeartbeats 4000000 in
theorem wX11_threat {ψ : Int32 → ZH → Prop} {l0 : Nat} {l1 : Int32} {l2 : Int32} {h : ZH} (hF : (zK h l0 = 12) ∧ ZcI mX11_isPit [.ref l0, .int l1] h (fun x22 h20 => ((x22 = 0 → ψ (-1) h20) ∧ (¬ x22 = 0 → (zK h20 l0 = 12) ∧ ZcI mX11_isPit [.ref l0, .int l2] h20 (fun x25 h23 => ((¬ x25 = 0 → (zK h23 l0 = 12) ∧ ((zR h23 l0 35) ≠ 0) ∧ (zK h23 (zR h23 l0 35) = 20) ∧ (vp_in l1 (zN h23 (zR h23 l0 35))) ∧ (((zI h23 (zR h23 l0 35) (Int32.toNatClampNeg l1)) < 0 → Zt mX11_threat (zPI ψ) 0 0 44 [some (.ref l0), some (.int l1), some (.int l2), some (.int (zI h23 l0 41)), some (.int (zI h23 l0 42)), some (.int 0), none] [] h23) ∧ (¬ (zI h23 (zR h23 l0 35) (Int32.toNatClampNeg l1)) < 0 → ψ (-6) h23))) ∧ (x25 = 0 → ψ (-1) h23))))))) : ZcI mX11_threat [.ref l0, .int l1, .int l2] h ψ := by
  refine Zc.intro (L := [some (.ref l0), some (.int l1), some (.int l2), none, none, none, none]) (show plainName RX11 = true by decide) rfl (Nat.le_of_ble_eq_true rfl) ?_
  show Zt _ _ 0 0 _ _ _ _
  refine z_aload_n (q := 1) dX11_threat_0 rfl rfl rfl ?_
  refine z_iload_n (q := 2) dX11_threat_1 rfl rfl rfl ?_
  obtain ⟨g21, hF⟩ := hF
  refine z_callVI (rc := 0) (rs := 0) (b := l0) (av := [.int l1]) (ci := 11) (r := (RX11, TX11, 54)) (q := 5) hF dX11_threat_2 ml_X11_169 ok_X11_isPit in_X11_isPit se_X11_isPit rfl rfl g21 rfl (Nat.le_of_ble_eq_true rfl) (by decide) (Nat.le_of_ble_eq_true rfl) rfl rfl rfl rfl (fun x22 h20 hF => ?_)
  refine z_if_eq (t := 16) (q := 8) dX11_threat_5 (by decide) rfl (fun hc => ?_) (fun hc => ?_)
  · have hF := hF.1 hc
    refine z_iconst (q := 17) (v := (-1)) dX11_threat_16 (by decide) rfl ?_
    exact z_ireturn dX11_threat_17 rfl ⟨_, rfl, hF⟩
  · have hF := hF.2 hc
    refine z_aload_n (q := 9) dX11_threat_8 rfl rfl rfl ?_
    refine z_iload_n (q := 10) dX11_threat_9 rfl rfl rfl ?_
    obtain ⟨g24, hF⟩ := hF
    refine z_callVI (rc := 0) (rs := 0) (b := l0) (av := [.int l2]) (ci := 11) (r := (RX11, TX11, 54)) (q := 13) hF dX11_threat_10 ml_X11_169 ok_X11_isPit in_X11_isPit se_X11_isPit rfl rfl g24 rfl (Nat.le_of_ble_eq_true rfl) (by decide) (Nat.le_of_ble_eq_true rfl) rfl rfl rfl rfl (fun x25 h23 hF => ?_)
    refine z_if_ne (t := 18) (q := 16) dX11_threat_13 (by decide) rfl (fun hc => ?_) (fun hc => ?_)
    · have hF := hF.1 hc
      refine z_aload_n (q := 19) dX11_threat_18 rfl rfl rfl ?_
      obtain ⟨g26, hF⟩ := hF
      obtain ⟨g27, hF⟩ := hF
      refine z_getR (c := 11) (k := 35) (r := (RX11, TX11, 54)) (q := 22) dX11_threat_19 rfl (by decide) fl_X11_99 rfl g26 g27 rfl ?_
      refine z_iload_n (q := 23) dX11_threat_22 rfl rfl rfl ?_
      obtain ⟨g28, hF⟩ := hF
      obtain ⟨g29, hF⟩ := hF
      refine y_iald (j := (Int32.toNatClampNeg l1)) (q := 24) dX11_threat_23 (Or.inl g28) g29 rfl rfl ?_
      refine z_if_lt (t := 30) (q := 27) dX11_threat_24 (by decide) rfl (fun hc => ?_) (fun hc => ?_)
      · have hF := hF.1 hc
        refine z_aload_n (q := 31) dX11_threat_30 rfl rfl rfl ?_
        refine z_getI (c := 11) (k := 41) (r := (RX11, TX11, 54)) (q := 34) dX11_threat_31 rfl (by decide) fl_X11_300 rfl g26 rfl ?_
        refine z_istore_n (q := 35) (L' := [some (.ref l0), some (.int l1), some (.int l2), some (.int (zI h23 l0 41)), none, none, none]) dX11_threat_34 rfl (Nat.le_of_ble_eq_true rfl) rfl rfl rfl ?_
        refine z_aload_n (q := 36) dX11_threat_35 rfl rfl rfl ?_
        refine z_getI (c := 11) (k := 42) (r := (RX11, TX11, 54)) (q := 39) dX11_threat_36 rfl (by decide) fl_X11_303 rfl g26 rfl ?_
        refine z_istore (q := 41) (L' := [some (.ref l0), some (.int l1), some (.int l2), some (.int (zI h23 l0 41)), some (.int (zI h23 l0 42)), none, none]) dX11_threat_39 (Nat.le_of_ble_eq_true rfl) rfl rfl rfl ?_
        refine z_iconst (q := 42) (v := 0) dX11_threat_41 (by decide) rfl ?_
        refine z_istore (q := 44) (L' := [some (.ref l0), some (.int l1), some (.int l2), some (.int (zI h23 l0 41)), some (.int (zI h23 l0 42)), some (.int 0), none]) dX11_threat_42 (Nat.le_of_ble_eq_true rfl) rfl rfl rfl ?_
        exact hF
      · have hF := hF.2 hc
        refine z_bipush (q := 29) (v := (-6)) dX11_threat_27 (by decide) rfl ?_
        exact z_ireturn dX11_threat_29 rfl ⟨_, rfl, hF⟩
    · have hF := hF.2 hc
      refine z_iconst (q := 17) (v := (-1)) dX11_threat_16 (by decide) rfl ?_
      exact z_ireturn dX11_threat_17 rfl ⟨_, rfl, hF⟩
set_option maxRecDepth 100000 in
set_option maxHeartbeats 4000000 in
theorem wX11_price {ψ : Int32 → ZH → Prop} {l0 : Nat} {l1 : Int32} {l2 : Int32} {l3 : Int32} {h : ZH} (hF : ZcI mX11_in [.long (Int32.toInt64 l1), .long 0, .long 2] h (fun x2 h1 => ((x2 = 0 → ψ (-1) h1) ∧ (¬ x2 = 0 → ZcI mX11_in [.long (Int32.toInt64 l2), .long 0, .long 4] h1 (fun x4 h3 => ((¬ x4 = 0 → ZcI mX11_in [.long (Int32.toInt64 l3), .long 0, .long 200] h3 (fun x6 h5 => ((¬ x6 = 0 → (zK h5 l0 = 12) ∧ ((zR h5 l0 44) ≠ 0) ∧ (zK h5 (zR h5 l0 44) = 20) ∧ (vp_in ((5 * l1) + l2) (zN h5 (zR h5 l0 44))) ∧ ∀ v11 : Int32, v11 = (zI h5 (zR h5 l0 44) (Int32.toNatClampNeg ((5 * l1) + l2))) → ψ v11 (zsI h5 (zR h5 l0 44) (Int32.toNatClampNeg ((5 * l1) + l2)) l3)) ∧ (x6 = 0 → ψ (-2) h5)))) ∧ (x4 = 0 → ψ (-1) h3))))))) : ZcI mX11_price [.ref l0, .int l1, .int l2, .int l3] h ψ := by
  refine Zc.intro (L := [some (.ref l0), some (.int l1), some (.int l2), some (.int l3), none]) (show plainName RX11 = true by decide) rfl (Nat.le_of_ble_eq_true rfl) ?_
  show Zt _ _ 0 0 _ _ _ _
  refine z_iload_n (q := 1) dX11_price_0 rfl rfl rfl ?_
  refine z_i2l (q := 2) dX11_price_1 rfl ?_
  refine z_lconst (q := 3) (v := 0) dX11_price_2 (by decide) rfl ?_
  refine z_ldc2 (q := 6) (v := 2) dX11_price_3 cw_X11_183 rfl ?_
  refine z_callSI (rc := 0) (rs := 0) (av := [.long (Int32.toInt64 l1), .long 0, .long 2]) (q := 9) hF dX11_price_6 ml_X11_140 ok_X11_in st_X11_in rfl (Nat.le_of_ble_eq_true rfl) (by decide) (Nat.le_of_ble_eq_true rfl) rfl rfl rfl rfl (fun x2 h1 hF => ?_)
  refine z_if_eq (t := 24) (q := 12) dX11_price_9 (by decide) rfl (fun hc => ?_) (fun hc => ?_)
  · have hF := hF.1 hc
    refine z_iconst (q := 25) (v := (-1)) dX11_price_24 (by decide) rfl ?_
    exact z_ireturn dX11_price_25 rfl ⟨_, rfl, hF⟩
  · have hF := hF.2 hc
    refine z_iload_n (q := 13) dX11_price_12 rfl rfl rfl ?_
    refine z_i2l (q := 14) dX11_price_13 rfl ?_
    refine z_lconst (q := 15) (v := 0) dX11_price_14 (by decide) rfl ?_
    refine z_ldc2 (q := 18) (v := 4) dX11_price_15 cw_X11_317 rfl ?_
    refine z_callSI (rc := 0) (rs := 0) (av := [.long (Int32.toInt64 l2), .long 0, .long 4]) (q := 21) hF dX11_price_18 ml_X11_140 ok_X11_in st_X11_in rfl (Nat.le_of_ble_eq_true rfl) (by decide) (Nat.le_of_ble_eq_true rfl) rfl rfl rfl rfl (fun x4 h3 hF => ?_)
    refine z_if_ne (t := 26) (q := 24) dX11_price_21 (by decide) rfl (fun hc => ?_) (fun hc => ?_)
    · have hF := hF.1 hc
      refine z_iload_n (q := 27) dX11_price_26 rfl rfl rfl ?_
      refine z_i2l (q := 28) dX11_price_27 rfl ?_
      refine z_lconst (q := 29) (v := 0) dX11_price_28 (by decide) rfl ?_
      refine z_ldc2 (q := 32) (v := 200) dX11_price_29 cw_X11_160 rfl ?_
      refine z_callSI (rc := 0) (rs := 0) (av := [.long (Int32.toInt64 l3), .long 0, .long 200]) (q := 35) hF dX11_price_32 ml_X11_140 ok_X11_in st_X11_in rfl (Nat.le_of_ble_eq_true rfl) (by decide) (Nat.le_of_ble_eq_true rfl) rfl rfl rfl rfl (fun x6 h5 hF => ?_)
      refine z_if_ne (t := 41) (q := 38) dX11_price_35 (by decide) rfl (fun hc => ?_) (fun hc => ?_)
      · have hF := hF.1 hc
        refine z_aload_n (q := 42) dX11_price_41 rfl rfl rfl ?_
        obtain ⟨g7, hF⟩ := hF
        obtain ⟨g8, hF⟩ := hF
        refine z_getR (c := 11) (k := 44) (r := (RX11, TX11, 54)) (q := 45) dX11_price_42 rfl (by decide) fl_X11_114 rfl g7 g8 rfl ?_
        refine z_iconst (q := 46) (v := 5) dX11_price_45 (by decide) rfl ?_
        refine z_iload_n (q := 47) dX11_price_46 rfl rfl rfl ?_
        refine z_imul (q := 48) dX11_price_47 rfl ?_
        refine z_iload_n (q := 49) dX11_price_48 rfl rfl rfl ?_
        refine z_iadd (q := 50) dX11_price_49 rfl ?_
        obtain ⟨g9, hF⟩ := hF
        obtain ⟨g10, hF⟩ := hF
        refine y_iald (j := (Int32.toNatClampNeg ((5 * l1) + l2))) (q := 51) dX11_price_50 (Or.inl g9) g10 rfl rfl ?_
        refine z_nameI (fun v11 ev12 => ?_)
        have hF := hF v11 ev12
        refine z_istore (q := 53) (L' := [some (.ref l0), some (.int l1), some (.int l2), some (.int l3), some (.int v11)]) dX11_price_51 (Nat.le_of_ble_eq_true rfl) rfl rfl rfl ?_
        refine z_aload_n (q := 54) dX11_price_53 rfl rfl rfl ?_
        refine z_getR (c := 11) (k := 44) (r := (RX11, TX11, 54)) (q := 57) dX11_price_54 rfl (by decide) fl_X11_114 rfl g7 g8 rfl ?_
        refine z_iconst (q := 58) (v := 5) dX11_price_57 (by decide) rfl ?_
        refine z_iload_n (q := 59) dX11_price_58 rfl rfl rfl ?_
        refine z_imul (q := 60) dX11_price_59 rfl ?_
        refine z_iload_n (q := 61) dX11_price_60 rfl rfl rfl ?_
        refine z_iadd (q := 62) dX11_price_61 rfl ?_
        refine z_iload_n (q := 63) dX11_price_62 rfl rfl rfl ?_
        refine y_iast (j := (Int32.toNatClampNeg ((5 * l1) + l2))) (q := 64) dX11_price_63 g9 g10 rfl rfl ?_
        refine z_iload (q := 66) dX11_price_64 rfl rfl ?_
        exact z_ireturn dX11_price_66 rfl ⟨_, rfl, hF⟩
      · have hF := hF.2 hc
        refine z_bipush (q := 40) (v := (-2)) dX11_price_38 (by decide) rfl ?_
        exact z_ireturn dX11_price_40 rfl ⟨_, rfl, hF⟩
    · have hF := hF.2 hc
      refine z_iconst (q := 25) (v := (-1)) dX11_price_24 (by decide) rfl ?_
      exact z_ireturn dX11_price_25 rfl ⟨_, rfl, hF⟩
set_option maxRecDepth 100000 in
set_option maxHeartbeats 4000000 in
theorem wX11_layPlan_20 {ψ : Int32 → ZH → Prop} {l0 : Nat} {l2 : Int32} {l3 : Int32} {l4 : Int32} {h : ZH} (hF : ((l4 < 0 → ((l3 = 0 → ψ 0 h) ∧ (¬ l3 = 0 → ((¬ l2 = 0 → ψ 0 h) ∧ (l2 = 0 → ψ 1 h))))) ∧ (¬ l4 < 0 → (zK h l0 = 12) ∧ ((zR h l0 45) ≠ 0) ∧ (zK h (zR h l0 45) = 20) ∧ (vp_in l4 (zN h (zR h l0 45))) ∧ ((l3 = 0 → Zt mX11_layPlan (zPI ψ) 0 0 20 [some (.ref l0), none, some (.int (l2 / 10)), some (.int 0), some (.int (l4 + (-1)))] [] (zsI h (zR h l0 45) (Int32.toNatClampNeg l4) (l2 - l2 / 10 * 10))) ∧ (¬ l3 = 0 → ∀ h5 : ZH, h5 = (zsI h (zR h l0 45) (Int32.toNatClampNeg l4) (l2 - l2 / 10 * 10)) → (zK h5 (zR h l0 45) = 20) ∧ (vp_in l4 (zN h5 (zR h l0 45))) ∧ ((5 < (zI h5 (zR h l0 45) (Int32.toNatClampNeg l4)) → Zt mX11_layPlan (zPI ψ) 0 0 20 [some (.ref l0), none, some (.int (l2 / 10)), some (.int 0), some (.int (l4 + (-1)))] [] h5) ∧ (¬ 5 < (zI h5 (zR h l0 45) (Int32.toNatClampNeg l4)) → (zK h5 l0 = 12) ∧ ((zR h5 l0 7) ≠ 0) ∧ (zK h5 (zR h5 l0 7) = 21) ∧ (vp_in l4 (zN h5 (zR h5 l0 7))) ∧ ((¬ (zI h5 (zR h5 l0 7) (Int32.toNatClampNeg l4)) = 0 → Zt mX11_layPlan (zPI ψ) 0 0 20 [some (.ref l0), none, some (.int (l2 / 10)), some (.int 1), some (.int (l4 + (-1)))] [] h5) ∧ ((zI h5 (zR h5 l0 7) (Int32.toNatClampNeg l4)) = 0 → ((zR h5 l0 45) ≠ 0) ∧ (zK h5 (zR h5 l0 45) = 20) ∧ (vp_in l4 (zN h5 (zR h5 l0 45))) ∧ ((¬ (zI h5 (zR h5 l0 45) (Int32.toNatClampNeg l4)) = 0 → Zt mX11_layPlan (zPI ψ) 0 0 20 [some (.ref l0), none, some (.int (l2 / 10)), some (.int 0), some (.int (l4 + (-1)))] [] h5) ∧ ((zI h5 (zR h5 l0 45) (Int32.toNatClampNeg l4)) = 0 → Zt mX11_layPlan (zPI ψ) 0 0 20 [some (.ref l0), none, some (.int (l2 / 10)), some (.int 1), some (.int (l4 + (-1)))] [] h5))))))))))) : Zt mX11_layPlan (zPI ψ) 0 0 20 [some (.ref l0), none, some (.int l2), some (.int l3), some (.int l4)] [] h := by
  refine z_iload (q := 22) dX11_layPlan_20 rfl rfl ?_
  refine z_if_lt (t := 88) (q := 25) dX11_layPlan_22 (by decide) rfl (fun hc => ?_) (fun hc => ?_)
  · have hF := hF.1 hc
    refine z_iload_n (q := 89) dX11_layPlan_88 rfl rfl rfl ?_
    refine z_if_eq (t := 100) (q := 92) dX11_layPlan_89 (by decide) rfl (fun hc => ?_) (fun hc => ?_)
    · have hF := hF.1 hc
      refine z_iconst (q := 101) (v := 0) dX11_layPlan_100 (by decide) rfl ?_
      exact z_zreturn dX11_layPlan_101 rfl (by decide) ⟨_, rfl, hF⟩
    · have hF := hF.2 hc
      refine z_iload_n (q := 93) dX11_layPlan_92 rfl rfl rfl ?_
      refine z_if_ne (t := 100) (q := 96) dX11_layPlan_93 (by decide) rfl (fun hc => ?_) (fun hc => ?_)
      · have hF := hF.1 hc
        refine z_iconst (q := 101) (v := 0) dX11_layPlan_100 (by decide) rfl ?_
        exact z_zreturn dX11_layPlan_101 rfl (by decide) ⟨_, rfl, hF⟩
      · have hF := hF.2 hc
        refine z_iconst (q := 97) (v := 1) dX11_layPlan_96 (by decide) rfl ?_
        refine z_goto (q := 101) dX11_layPlan_97 (by decide) ?_
        exact z_zreturn dX11_layPlan_101 rfl (by decide) ⟨_, rfl, hF⟩
  · have hF := hF.2 hc
    refine z_aload_n (q := 26) dX11_layPlan_25 rfl rfl rfl ?_
    obtain ⟨g1, hF⟩ := hF
    obtain ⟨g2, hF⟩ := hF
    refine z_getR (c := 11) (k := 45) (r := (RX11, TX11, 54)) (q := 29) dX11_layPlan_26 rfl (by decide) fl_X11_117 rfl g1 g2 rfl ?_
    refine z_iload (q := 31) dX11_layPlan_29 rfl rfl ?_
    refine z_iload_n (q := 32) dX11_layPlan_31 rfl rfl rfl ?_
    refine z_bipush (q := 34) (v := 10) dX11_layPlan_32 (by decide) rfl ?_
    refine z_irem (q := 35) dX11_layPlan_34 (by decide) rfl ?_
    obtain ⟨g3, hF⟩ := hF
    obtain ⟨g4, hF⟩ := hF
    refine y_iast (j := (Int32.toNatClampNeg l4)) (q := 36) dX11_layPlan_35 g3 g4 rfl rfl ?_
    refine z_iload_n (q := 37) dX11_layPlan_36 rfl rfl rfl ?_
    refine z_if_eq (t := 75) (q := 40) dX11_layPlan_37 (by decide) rfl (fun hc => ?_) (fun hc => ?_)
    · have hF := hF.1 hc
      refine z_iconst (q := 76) (v := 0) dX11_layPlan_75 (by decide) rfl ?_
      refine z_istore_n (q := 77) (L' := [some (.ref l0), none, some (.int l2), some (.int 0), some (.int l4)]) dX11_layPlan_76 rfl (Nat.le_of_ble_eq_true rfl) rfl rfl rfl ?_
      refine z_iload_n (q := 78) dX11_layPlan_77 rfl rfl rfl ?_
      refine z_bipush (q := 80) (v := 10) dX11_layPlan_78 (by decide) rfl ?_
      refine z_idiv (q := 81) dX11_layPlan_80 (by decide) rfl ?_
      refine z_istore_n (q := 82) (L' := [some (.ref l0), none, some (.int (l2 / 10)), some (.int 0), some (.int l4)]) dX11_layPlan_81 rfl (Nat.le_of_ble_eq_true rfl) rfl rfl rfl ?_
      refine z_iinc (q := 85) (v := (l4 + (-1))) (L' := [some (.ref l0), none, some (.int (l2 / 10)), some (.int 0), some (.int (l4 + (-1)))]) dX11_layPlan_82 rfl rfl (Nat.le_of_ble_eq_true rfl) rfl rfl rfl ?_
      refine z_goto (q := 20) dX11_layPlan_85 (by decide) ?_
      exact hF
    · have hF := hF.2 hc
      refine z_aload_n (q := 41) dX11_layPlan_40 rfl rfl rfl ?_
      refine z_getR (c := 11) (k := 45) (r := (RX11, TX11, 54)) (q := 44) dX11_layPlan_41 rfl (by decide) fl_X11_117 rfl g1 g2 rfl ?_
      refine z_iload (q := 46) dX11_layPlan_44 rfl rfl ?_
      refine z_nameH (fun h5 eh6 => ?_)
      have hF := hF h5 eh6
      obtain ⟨g7, hF⟩ := hF
      obtain ⟨g8, hF⟩ := hF
      refine y_iald (j := (Int32.toNatClampNeg l4)) (q := 47) dX11_layPlan_46 (Or.inl g7) g8 rfl rfl ?_
      refine z_iconst (q := 48) (v := 5) dX11_layPlan_47 (by decide) rfl ?_
      refine z_icmp_gt (t := 75) (q := 51) dX11_layPlan_48 (by decide) rfl (fun hc => ?_) (fun hc => ?_)
      · have hF := hF.1 hc
        refine z_iconst (q := 76) (v := 0) dX11_layPlan_75 (by decide) rfl ?_
        refine z_istore_n (q := 77) (L' := [some (.ref l0), none, some (.int l2), some (.int 0), some (.int l4)]) dX11_layPlan_76 rfl (Nat.le_of_ble_eq_true rfl) rfl rfl rfl ?_
        refine z_iload_n (q := 78) dX11_layPlan_77 rfl rfl rfl ?_
        refine z_bipush (q := 80) (v := 10) dX11_layPlan_78 (by decide) rfl ?_
        refine z_idiv (q := 81) dX11_layPlan_80 (by decide) rfl ?_
        refine z_istore_n (q := 82) (L' := [some (.ref l0), none, some (.int (l2 / 10)), some (.int 0), some (.int l4)]) dX11_layPlan_81 rfl (Nat.le_of_ble_eq_true rfl) rfl rfl rfl ?_
        refine z_iinc (q := 85) (v := (l4 + (-1))) (L' := [some (.ref l0), none, some (.int (l2 / 10)), some (.int 0), some (.int (l4 + (-1)))]) dX11_layPlan_82 rfl rfl (Nat.le_of_ble_eq_true rfl) rfl rfl rfl ?_
        refine z_goto (q := 20) dX11_layPlan_85 (by decide) ?_
        exact hF
      · have hF := hF.2 hc
        refine z_aload_n (q := 52) dX11_layPlan_51 rfl rfl rfl ?_
        obtain ⟨g9, hF⟩ := hF
        obtain ⟨g10, hF⟩ := hF
        refine z_getR (c := 11) (k := 7) (r := (RX11, TX11, 54)) (q := 55) dX11_layPlan_52 rfl (by decide) fl_X11_31 rfl g9 g10 rfl ?_
        refine z_iload (q := 57) dX11_layPlan_55 rfl rfl ?_
        obtain ⟨g11, hF⟩ := hF
        obtain ⟨g12, hF⟩ := hF
        refine y_bald (j := (Int32.toNatClampNeg l4)) (q := 58) dX11_layPlan_57 g11 g12 rfl rfl ?_
        refine z_if_ne (t := 71) (q := 61) dX11_layPlan_58 (by decide) rfl (fun hc => ?_) (fun hc => ?_)
        · have hF := hF.1 hc
          refine z_iconst (q := 72) (v := 1) dX11_layPlan_71 (by decide) rfl ?_
          refine z_goto (q := 76) dX11_layPlan_72 (by decide) ?_
          refine z_istore_n (q := 77) (L' := [some (.ref l0), none, some (.int l2), some (.int 1), some (.int l4)]) dX11_layPlan_76 rfl (Nat.le_of_ble_eq_true rfl) rfl rfl rfl ?_
          refine z_iload_n (q := 78) dX11_layPlan_77 rfl rfl rfl ?_
          refine z_bipush (q := 80) (v := 10) dX11_layPlan_78 (by decide) rfl ?_
          refine z_idiv (q := 81) dX11_layPlan_80 (by decide) rfl ?_
          refine z_istore_n (q := 82) (L' := [some (.ref l0), none, some (.int (l2 / 10)), some (.int 1), some (.int l4)]) dX11_layPlan_81 rfl (Nat.le_of_ble_eq_true rfl) rfl rfl rfl ?_
          refine z_iinc (q := 85) (v := (l4 + (-1))) (L' := [some (.ref l0), none, some (.int (l2 / 10)), some (.int 1), some (.int (l4 + (-1)))]) dX11_layPlan_82 rfl rfl (Nat.le_of_ble_eq_true rfl) rfl rfl rfl ?_
          refine z_goto (q := 20) dX11_layPlan_85 (by decide) ?_
          exact hF
        · have hF := hF.2 hc
          refine z_aload_n (q := 62) dX11_layPlan_61 rfl rfl rfl ?_
          obtain ⟨g13, hF⟩ := hF
          refine z_getR (c := 11) (k := 45) (r := (RX11, TX11, 54)) (q := 65) dX11_layPlan_62 rfl (by decide) fl_X11_117 rfl g9 g13 rfl ?_
          refine z_iload (q := 67) dX11_layPlan_65 rfl rfl ?_
          obtain ⟨g14, hF⟩ := hF
          obtain ⟨g15, hF⟩ := hF
          refine y_iald (j := (Int32.toNatClampNeg l4)) (q := 68) dX11_layPlan_67 (Or.inl g14) g15 rfl rfl ?_
          refine z_if_ne (t := 75) (q := 71) dX11_layPlan_68 (by decide) rfl (fun hc => ?_) (fun hc => ?_)
          · have hF := hF.1 hc
            refine z_iconst (q := 76) (v := 0) dX11_layPlan_75 (by decide) rfl ?_
            refine z_istore_n (q := 77) (L' := [some (.ref l0), none, some (.int l2), some (.int 0), some (.int l4)]) dX11_layPlan_76 rfl (Nat.le_of_ble_eq_true rfl) rfl rfl rfl ?_
            refine z_iload_n (q := 78) dX11_layPlan_77 rfl rfl rfl ?_
            refine z_bipush (q := 80) (v := 10) dX11_layPlan_78 (by decide) rfl ?_
            refine z_idiv (q := 81) dX11_layPlan_80 (by decide) rfl ?_
            refine z_istore_n (q := 82) (L' := [some (.ref l0), none, some (.int (l2 / 10)), some (.int 0), some (.int l4)]) dX11_layPlan_81 rfl (Nat.le_of_ble_eq_true rfl) rfl rfl rfl ?_
            refine z_iinc (q := 85) (v := (l4 + (-1))) (L' := [some (.ref l0), none, some (.int (l2 / 10)), some (.int 0), some (.int (l4 + (-1)))]) dX11_layPlan_82 rfl rfl (Nat.le_of_ble_eq_true rfl) rfl rfl rfl ?_
            refine z_goto (q := 20) dX11_layPlan_85 (by decide) ?_
            exact hF
          · have hF := hF.2 hc
            refine z_iconst (q := 72) (v := 1) dX11_layPlan_71 (by decide) rfl ?_
            refine z_goto (q := 76) dX11_layPlan_72 (by decide) ?_
            refine z_istore_n (q := 77) (L' := [some (.ref l0), none, some (.int l2), some (.int 1), some (.int l4)]) dX11_layPlan_76 rfl (Nat.le_of_ble_eq_true rfl) rfl rfl rfl ?_
            refine z_iload_n (q := 78) dX11_layPlan_77 rfl rfl rfl ?_
            refine z_bipush (q := 80) (v := 10) dX11_layPlan_78 (by decide) rfl ?_
            refine z_idiv (q := 81) dX11_layPlan_80 (by decide) rfl ?_
            refine z_istore_n (q := 82) (L' := [some (.ref l0), none, some (.int (l2 / 10)), some (.int 1), some (.int l4)]) dX11_layPlan_81 rfl (Nat.le_of_ble_eq_true rfl) rfl rfl rfl ?_
            refine z_iinc (q := 85) (v := (l4 + (-1))) (L' := [some (.ref l0), none, some (.int (l2 / 10)), some (.int 1), some (.int (l4 + (-1)))]) dX11_layPlan_82 rfl rfl (Nat.le_of_ble_eq_true rfl) rfl rfl rfl ?_
            refine z_goto (q := 20) dX11_layPlan_85 (by decide) ?_
            exact hF
set_option maxRecDepth 100000 in
set_option maxHeartbeats 4000000 in
theorem wX11_layPlan {ψ : Int32 → ZH → Prop} {l0 : Nat} {l1 : Int32} {h : ZH} (hF : ((l1 < 0 → (zK h l0 = 12) ∧ Zt mX11_layPlan (zPI ψ) 0 0 20 [some (.ref l0), none, some (.int l1), some (.int 0), some (.int ((zI h l0 9) - 1))] [] h) ∧ (¬ l1 < 0 → (zK h l0 = 12) ∧ Zt mX11_layPlan (zPI ψ) 0 0 20 [some (.ref l0), none, some (.int l1), some (.int 1), some (.int ((zI h l0 9) - 1))] [] h))) : ZcI mX11_layPlan [.ref l0, .int l1] h ψ := by
  refine Zc.intro (L := [some (.ref l0), some (.int l1), none, none, none]) (show plainName RX11 = true by decide) rfl (Nat.le_of_ble_eq_true rfl) ?_
  show Zt _ _ 0 0 _ _ _ _
  refine z_iload_n (q := 1) dX11_layPlan_0 rfl rfl rfl ?_
  refine z_istore_n (q := 2) (L' := [some (.ref l0), some (.int l1), some (.int l1), none, none]) dX11_layPlan_1 rfl (Nat.le_of_ble_eq_true rfl) rfl rfl rfl ?_
  refine z_iload_n (q := 3) dX11_layPlan_2 rfl rfl rfl ?_
  refine z_if_lt (t := 10) (q := 6) dX11_layPlan_3 (by decide) rfl (fun hc => ?_) (fun hc => ?_)
  · have hF := hF.1 hc
    refine z_iconst (q := 11) (v := 0) dX11_layPlan_10 (by decide) rfl ?_
    refine z_istore_n (q := 12) (L' := [some (.ref l0), some (.int l1), some (.int l1), some (.int 0), none]) dX11_layPlan_11 rfl (Nat.le_of_ble_eq_true rfl) rfl rfl rfl ?_
    refine z_aload_n (q := 13) dX11_layPlan_12 rfl rfl rfl ?_
    obtain ⟨g16, hF⟩ := hF
    refine z_getI (c := 11) (k := 9) (r := (RX11, TX11, 54)) (q := 16) dX11_layPlan_13 rfl (by decide) fl_X11_144 rfl g16 rfl ?_
    refine z_iconst (q := 17) (v := 1) dX11_layPlan_16 (by decide) rfl ?_
    refine z_isub (q := 18) dX11_layPlan_17 rfl ?_
    refine z_istore (q := 20) (L' := [some (.ref l0), some (.int l1), some (.int l1), some (.int 0), some (.int ((zI h l0 9) - 1))]) dX11_layPlan_18 (Nat.le_of_ble_eq_true rfl) rfl rfl rfl ?_
    refine Zt.drop (i := 1) (L' := [some (.ref l0), none, some (.int l1), some (.int 0), some (.int ((zI h l0 9) - 1))]) rfl ?_
    exact hF
  · have hF := hF.2 hc
    refine z_iconst (q := 7) (v := 1) dX11_layPlan_6 (by decide) rfl ?_
    refine z_goto (q := 11) dX11_layPlan_7 (by decide) ?_
    refine z_istore_n (q := 12) (L' := [some (.ref l0), some (.int l1), some (.int l1), some (.int 1), none]) dX11_layPlan_11 rfl (Nat.le_of_ble_eq_true rfl) rfl rfl rfl ?_
    refine z_aload_n (q := 13) dX11_layPlan_12 rfl rfl rfl ?_
    obtain ⟨g17, hF⟩ := hF
    refine z_getI (c := 11) (k := 9) (r := (RX11, TX11, 54)) (q := 16) dX11_layPlan_13 rfl (by decide) fl_X11_144 rfl g17 rfl ?_
    refine z_iconst (q := 17) (v := 1) dX11_layPlan_16 (by decide) rfl ?_
    refine z_isub (q := 18) dX11_layPlan_17 rfl ?_
    refine z_istore (q := 20) (L' := [some (.ref l0), some (.int l1), some (.int l1), some (.int 1), some (.int ((zI h l0 9) - 1))]) dX11_layPlan_18 (Nat.le_of_ble_eq_true rfl) rfl rfl rfl ?_
    refine Zt.drop (i := 1) (L' := [some (.ref l0), none, some (.int l1), some (.int 1), some (.int ((zI h l0 9) - 1))]) rfl ?_
    exact hF
set_option maxRecDepth 100000 in
set_option maxHeartbeats 4000000 in
theorem wX11_isKept_61 {ψ : Int32 → ZH → Prop} {l0 : Nat} {l1 : Int32} {l3 : Int32} {l4 : Int32} {s0 : Int32} {s1 : Int32} {h : ZH} (hF : (zK h l0 = 12) ∧ ((zR h l0 7) ≠ 0) ∧ (zK h (zR h l0 7) = 21) ∧ (vp_in l4 (zN h (zR h l0 7))) ∧ (((zI h (zR h l0 7) (Int32.toNatClampNeg l4)) = 0 → Zt mX11_isKept (zPI ψ) 0 0 19 [some (.ref l0), some (.int l1), some (.int (s1 + s0)), some (.int (l3 + 0)), some (.int (l4 + 1))] [] h) ∧ (¬ (zI h (zR h l0 7) (Int32.toNatClampNeg l4)) = 0 → ((zR h l0 45) ≠ 0) ∧ (zK h (zR h l0 45) = 20) ∧ (vp_in l4 (zN h (zR h l0 45))) ∧ ((¬ (zI h (zR h l0 45) (Int32.toNatClampNeg l4)) = l1 → Zt mX11_isKept (zPI ψ) 0 0 19 [some (.ref l0), some (.int l1), some (.int (s1 + s0)), some (.int (l3 + 0)), some (.int (l4 + 1))] [] h) ∧ ((zI h (zR h l0 45) (Int32.toNatClampNeg l4)) = l1 → Zt mX11_isKept (zPI ψ) 0 0 19 [some (.ref l0), some (.int l1), some (.int (s1 + s0)), some (.int (l3 + 1)), some (.int (l4 + 1))] [] h))))) : Zt mX11_isKept (zPI ψ) 0 0 61 [some (.ref l0), some (.int l1), none, some (.int l3), some (.int l4)] [.int s0, .int s1] h := by
  refine z_iadd (q := 62) dX11_isKept_61 rfl ?_
  refine z_istore_n (q := 63) (L' := [some (.ref l0), some (.int l1), some (.int (s1 + s0)), some (.int l3), some (.int l4)]) dX11_isKept_62 rfl (Nat.le_of_ble_eq_true rfl) rfl rfl rfl ?_
  refine z_iload_n (q := 64) dX11_isKept_63 rfl rfl rfl ?_
  refine z_aload_n (q := 65) dX11_isKept_64 rfl rfl rfl ?_
  obtain ⟨g1, hF⟩ := hF
  obtain ⟨g2, hF⟩ := hF
  refine z_getR (c := 11) (k := 7) (r := (RX11, TX11, 54)) (q := 68) dX11_isKept_65 rfl (by decide) fl_X11_31 rfl g1 g2 rfl ?_
  refine z_iload (q := 70) dX11_isKept_68 rfl rfl ?_
  obtain ⟨g3, hF⟩ := hF
  obtain ⟨g4, hF⟩ := hF
  refine y_bald (j := (Int32.toNatClampNeg l4)) (q := 71) dX11_isKept_70 g3 g4 rfl rfl ?_
  refine z_if_eq (t := 89) (q := 74) dX11_isKept_71 (by decide) rfl (fun hc => ?_) (fun hc => ?_)
  · have hF := hF.1 hc
    refine z_iconst (q := 90) (v := 0) dX11_isKept_89 (by decide) rfl ?_
    refine z_iadd (q := 91) dX11_isKept_90 rfl ?_
    refine z_istore_n (q := 92) (L' := [some (.ref l0), some (.int l1), some (.int (s1 + s0)), some (.int (l3 + 0)), some (.int l4)]) dX11_isKept_91 rfl (Nat.le_of_ble_eq_true rfl) rfl rfl rfl ?_
    refine z_iinc (q := 95) (v := (l4 + 1)) (L' := [some (.ref l0), some (.int l1), some (.int (s1 + s0)), some (.int (l3 + 0)), some (.int (l4 + 1))]) dX11_isKept_92 rfl rfl (Nat.le_of_ble_eq_true rfl) rfl rfl rfl ?_
    refine z_goto (q := 19) dX11_isKept_95 (by decide) ?_
    exact hF
  · have hF := hF.2 hc
    refine z_aload_n (q := 75) dX11_isKept_74 rfl rfl rfl ?_
    obtain ⟨g5, hF⟩ := hF
    refine z_getR (c := 11) (k := 45) (r := (RX11, TX11, 54)) (q := 78) dX11_isKept_75 rfl (by decide) fl_X11_117 rfl g1 g5 rfl ?_
    refine z_iload (q := 80) dX11_isKept_78 rfl rfl ?_
    obtain ⟨g6, hF⟩ := hF
    obtain ⟨g7, hF⟩ := hF
    refine y_iald (j := (Int32.toNatClampNeg l4)) (q := 81) dX11_isKept_80 (Or.inl g6) g7 rfl rfl ?_
    refine z_iload_n (q := 82) dX11_isKept_81 rfl rfl rfl ?_
    refine z_icmp_ne (t := 89) (q := 85) dX11_isKept_82 (by decide) rfl (fun hc => ?_) (fun hc => ?_)
    · have hF := hF.1 hc
      refine z_iconst (q := 90) (v := 0) dX11_isKept_89 (by decide) rfl ?_
      refine z_iadd (q := 91) dX11_isKept_90 rfl ?_
      refine z_istore_n (q := 92) (L' := [some (.ref l0), some (.int l1), some (.int (s1 + s0)), some (.int (l3 + 0)), some (.int l4)]) dX11_isKept_91 rfl (Nat.le_of_ble_eq_true rfl) rfl rfl rfl ?_
      refine z_iinc (q := 95) (v := (l4 + 1)) (L' := [some (.ref l0), some (.int l1), some (.int (s1 + s0)), some (.int (l3 + 0)), some (.int (l4 + 1))]) dX11_isKept_92 rfl rfl (Nat.le_of_ble_eq_true rfl) rfl rfl rfl ?_
      refine z_goto (q := 19) dX11_isKept_95 (by decide) ?_
      exact hF
    · have hF := hF.2 hc
      refine z_iconst (q := 86) (v := 1) dX11_isKept_85 (by decide) rfl ?_
      refine z_goto (q := 90) dX11_isKept_86 (by decide) ?_
      refine z_iadd (q := 91) dX11_isKept_90 rfl ?_
      refine z_istore_n (q := 92) (L' := [some (.ref l0), some (.int l1), some (.int (s1 + s0)), some (.int (l3 + 1)), some (.int l4)]) dX11_isKept_91 rfl (Nat.le_of_ble_eq_true rfl) rfl rfl rfl ?_
      refine z_iinc (q := 95) (v := (l4 + 1)) (L' := [some (.ref l0), some (.int l1), some (.int (s1 + s0)), some (.int (l3 + 1)), some (.int (l4 + 1))]) dX11_isKept_92 rfl rfl (Nat.le_of_ble_eq_true rfl) rfl rfl rfl ?_
      refine z_goto (q := 19) dX11_isKept_95 (by decide) ?_
      exact hF
set_option maxRecDepth 100000 in
set_option maxHeartbeats 4000000 in
theorem wX11_isKept_19 {ψ : Int32 → ZH → Prop} {l0 : Nat} {l1 : Int32} {l2 : Int32} {l3 : Int32} {l4 : Int32} {h : ZH} (hF : (zK h l0 = 12) ∧ (((zI h l0 9) ≤ l4 → ((zR h l0 18) ≠ 0) ∧ (zK h (zR h l0 18) = 20) ∧ (3 < zN h (zR h l0 18)) ∧ ((l2 < (zI h (zR h l0 18) 3) → ψ 0 h) ∧ (¬ l2 < (zI h (zR h l0 18) 3) → (4 < zN h (zR h l0 18)) ∧ ((l3 ≤ (zI h (zR h l0 18) 4) → Zt mX11_isKept (zPI ψ) 0 0 2 [some (.ref l0), some (.int (l1 + 1)), none, none, none] [] h) ∧ (¬ l3 ≤ (zI h (zR h l0 18) 4) → ψ 0 h))))) ∧ (¬ (zI h l0 9) ≤ l4 → ((zR h l0 7) ≠ 0) ∧ (zK h (zR h l0 7) = 21) ∧ (vp_in l4 (zN h (zR h l0 7))) ∧ (((zI h (zR h l0 7) (Int32.toNatClampNeg l4)) = 0 → Zt mX11_isKept (zPI ψ) 0 0 61 [some (.ref l0), some (.int l1), none, some (.int l3), some (.int l4)] [.int 0, .int l2] h) ∧ (¬ (zI h (zR h l0 7) (Int32.toNatClampNeg l4)) = 0 → ((zR h l0 45) ≠ 0) ∧ (zK h (zR h l0 45) = 20) ∧ (vp_in l4 (zN h (zR h l0 45))) ∧ (((zI h (zR h l0 45) (Int32.toNatClampNeg l4)) ≤ l1 → Zt mX11_isKept (zPI ψ) 0 0 61 [some (.ref l0), some (.int l1), none, some (.int l3), some (.int l4)] [.int 0, .int l2] h) ∧ (¬ (zI h (zR h l0 45) (Int32.toNatClampNeg l4)) ≤ l1 → ((zR h l0 4) ≠ 0) ∧ (zK h (zR h l0 4) = 20) ∧ (vp_in l4 (zN h (zR h l0 4))) ∧ Zt mX11_isKept (zPI ψ) 0 0 61 [some (.ref l0), some (.int l1), none, some (.int l3), some (.int l4)] [.int (zI h (zR h l0 4) (Int32.toNatClampNeg l4)), .int l2] h))))))) : Zt mX11_isKept (zPI ψ) 0 0 19 [some (.ref l0), some (.int l1), some (.int l2), some (.int l3), some (.int l4)] [] h := by
  refine z_iload (q := 21) dX11_isKept_19 rfl rfl ?_
  refine z_aload_n (q := 22) dX11_isKept_21 rfl rfl rfl ?_
  obtain ⟨g8, hF⟩ := hF
  refine z_getI (c := 11) (k := 9) (r := (RX11, TX11, 54)) (q := 25) dX11_isKept_22 rfl (by decide) fl_X11_144 rfl g8 rfl ?_
  refine z_icmp_ge (t := 98) (q := 28) dX11_isKept_25 (by decide) rfl (fun hc => ?_) (fun hc => ?_)
  · have hF := hF.1 hc
    refine z_iload_n (q := 99) dX11_isKept_98 rfl rfl rfl ?_
    refine z_aload_n (q := 100) dX11_isKept_99 rfl rfl rfl ?_
    obtain ⟨g9, hF⟩ := hF
    refine z_getR (c := 11) (k := 18) (r := (RX11, TX11, 54)) (q := 103) dX11_isKept_100 rfl (by decide) fl_X11_59 rfl g8 g9 rfl ?_
    refine z_iconst (q := 104) (v := 3) dX11_isKept_103 (by decide) rfl ?_
    obtain ⟨g10, hF⟩ := hF
    obtain ⟨g11, hF⟩ := hF
    refine y_iald (j := 3) (q := 105) dX11_isKept_104 (Or.inl g10) (zvin (by decide) (by decide) g11) (by decide) rfl ?_
    refine z_icmp_lt (t := 118) (q := 108) dX11_isKept_105 (by decide) rfl (fun hc => ?_) (fun hc => ?_)
    · have hF := hF.1 hc
      refine z_iconst (q := 119) (v := 0) dX11_isKept_118 (by decide) rfl ?_
      exact z_zreturn dX11_isKept_119 rfl (by decide) ⟨_, rfl, hF⟩
    · have hF := hF.2 hc
      refine z_iload_n (q := 109) dX11_isKept_108 rfl rfl rfl ?_
      refine z_aload_n (q := 110) dX11_isKept_109 rfl rfl rfl ?_
      refine z_getR (c := 11) (k := 18) (r := (RX11, TX11, 54)) (q := 113) dX11_isKept_110 rfl (by decide) fl_X11_59 rfl g8 g9 rfl ?_
      refine z_iconst (q := 114) (v := 4) dX11_isKept_113 (by decide) rfl ?_
      obtain ⟨g12, hF⟩ := hF
      refine y_iald (j := 4) (q := 115) dX11_isKept_114 (Or.inl g10) (zvin (by decide) (by decide) g12) (by decide) rfl ?_
      refine z_icmp_le (t := 120) (q := 118) dX11_isKept_115 (by decide) rfl (fun hc => ?_) (fun hc => ?_)
      · have hF := hF.1 hc
        refine z_iinc (q := 123) (v := (l1 + 1)) (L' := [some (.ref l0), some (.int (l1 + 1)), some (.int l2), some (.int l3), some (.int l4)]) dX11_isKept_120 rfl rfl (Nat.le_of_ble_eq_true rfl) rfl rfl rfl ?_
        refine z_goto (q := 2) dX11_isKept_123 (by decide) ?_
        refine Zt.drop (i := 2) (L' := [some (.ref l0), some (.int (l1 + 1)), none, some (.int l3), some (.int l4)]) rfl ?_
        refine Zt.drop (i := 3) (L' := [some (.ref l0), some (.int (l1 + 1)), none, none, some (.int l4)]) rfl ?_
        refine Zt.drop (i := 4) (L' := [some (.ref l0), some (.int (l1 + 1)), none, none, none]) rfl ?_
        exact hF
      · have hF := hF.2 hc
        refine z_iconst (q := 119) (v := 0) dX11_isKept_118 (by decide) rfl ?_
        exact z_zreturn dX11_isKept_119 rfl (by decide) ⟨_, rfl, hF⟩
  · have hF := hF.2 hc
    refine z_iload_n (q := 29) dX11_isKept_28 rfl rfl rfl ?_
    refine z_aload_n (q := 30) dX11_isKept_29 rfl rfl rfl ?_
    obtain ⟨g13, hF⟩ := hF
    refine z_getR (c := 11) (k := 7) (r := (RX11, TX11, 54)) (q := 33) dX11_isKept_30 rfl (by decide) fl_X11_31 rfl g8 g13 rfl ?_
    refine z_iload (q := 35) dX11_isKept_33 rfl rfl ?_
    obtain ⟨g14, hF⟩ := hF
    obtain ⟨g15, hF⟩ := hF
    refine y_bald (j := (Int32.toNatClampNeg l4)) (q := 36) dX11_isKept_35 g14 g15 rfl rfl ?_
    refine z_if_eq (t := 60) (q := 39) dX11_isKept_36 (by decide) rfl (fun hc => ?_) (fun hc => ?_)
    · have hF := hF.1 hc
      refine z_iconst (q := 61) (v := 0) dX11_isKept_60 (by decide) rfl ?_
      refine Zt.drop (i := 2) (L' := [some (.ref l0), some (.int l1), none, some (.int l3), some (.int l4)]) rfl ?_
      exact hF
    · have hF := hF.2 hc
      refine z_aload_n (q := 40) dX11_isKept_39 rfl rfl rfl ?_
      obtain ⟨g16, hF⟩ := hF
      refine z_getR (c := 11) (k := 45) (r := (RX11, TX11, 54)) (q := 43) dX11_isKept_40 rfl (by decide) fl_X11_117 rfl g8 g16 rfl ?_
      refine z_iload (q := 45) dX11_isKept_43 rfl rfl ?_
      obtain ⟨g17, hF⟩ := hF
      obtain ⟨g18, hF⟩ := hF
      refine y_iald (j := (Int32.toNatClampNeg l4)) (q := 46) dX11_isKept_45 (Or.inl g17) g18 rfl rfl ?_
      refine z_iload_n (q := 47) dX11_isKept_46 rfl rfl rfl ?_
      refine z_icmp_le (t := 60) (q := 50) dX11_isKept_47 (by decide) rfl (fun hc => ?_) (fun hc => ?_)
      · have hF := hF.1 hc
        refine z_iconst (q := 61) (v := 0) dX11_isKept_60 (by decide) rfl ?_
        refine Zt.drop (i := 2) (L' := [some (.ref l0), some (.int l1), none, some (.int l3), some (.int l4)]) rfl ?_
        exact hF
      · have hF := hF.2 hc
        refine z_aload_n (q := 51) dX11_isKept_50 rfl rfl rfl ?_
        obtain ⟨g19, hF⟩ := hF
        refine z_getR (c := 11) (k := 4) (r := (RX11, TX11, 54)) (q := 54) dX11_isKept_51 rfl (by decide) fl_X11_22 rfl g8 g19 rfl ?_
        refine z_iload (q := 56) dX11_isKept_54 rfl rfl ?_
        obtain ⟨g20, hF⟩ := hF
        obtain ⟨g21, hF⟩ := hF
        refine y_iald (j := (Int32.toNatClampNeg l4)) (q := 57) dX11_isKept_56 (Or.inl g20) g21 rfl rfl ?_
        refine z_goto (q := 61) dX11_isKept_57 (by decide) ?_
        refine Zt.drop (i := 2) (L' := [some (.ref l0), some (.int l1), none, some (.int l3), some (.int l4)]) rfl ?_
        exact hF
set_option maxRecDepth 100000 in
set_option maxHeartbeats 4000000 in
theorem wX11_isKept_2 {ψ : Int32 → ZH → Prop} {l0 : Nat} {l1 : Int32} {h : ZH} (hF : (zK h l0 = 12) ∧ ((zR h l0 18) ≠ 0) ∧ (zK h (zR h l0 18) = 20) ∧ (5 < zN h (zR h l0 18)) ∧ (((zI h (zR h l0 18) 5) ≤ l1 → ψ 1 h) ∧ (¬ (zI h (zR h l0 18) 5) ≤ l1 → Zt mX11_isKept (zPI ψ) 0 0 19 [some (.ref l0), some (.int l1), some (.int 0), some (.int 0), some (.int 0)] [] h))) : Zt mX11_isKept (zPI ψ) 0 0 2 [some (.ref l0), some (.int l1), none, none, none] [] h := by
  refine z_iload_n (q := 3) dX11_isKept_2 rfl rfl rfl ?_
  refine z_aload_n (q := 4) dX11_isKept_3 rfl rfl rfl ?_
  obtain ⟨g22, hF⟩ := hF
  obtain ⟨g23, hF⟩ := hF
  refine z_getR (c := 11) (k := 18) (r := (RX11, TX11, 54)) (q := 7) dX11_isKept_4 rfl (by decide) fl_X11_59 rfl g22 g23 rfl ?_
  refine z_iconst (q := 8) (v := 5) dX11_isKept_7 (by decide) rfl ?_
  obtain ⟨g24, hF⟩ := hF
  obtain ⟨g25, hF⟩ := hF
  refine y_iald (j := 5) (q := 9) dX11_isKept_8 (Or.inl g24) (zvin (by decide) (by decide) g25) (by decide) rfl ?_
  refine z_icmp_ge (t := 126) (q := 12) dX11_isKept_9 (by decide) rfl (fun hc => ?_) (fun hc => ?_)
  · have hF := hF.1 hc
    refine z_iconst (q := 127) (v := 1) dX11_isKept_126 (by decide) rfl ?_
    exact z_zreturn dX11_isKept_127 rfl (by decide) ⟨_, rfl, hF⟩
  · have hF := hF.2 hc
    refine z_iconst (q := 13) (v := 0) dX11_isKept_12 (by decide) rfl ?_
    refine z_istore_n (q := 14) (L' := [some (.ref l0), some (.int l1), some (.int 0), none, none]) dX11_isKept_13 rfl (Nat.le_of_ble_eq_true rfl) rfl rfl rfl ?_
    refine z_iconst (q := 15) (v := 0) dX11_isKept_14 (by decide) rfl ?_
    refine z_istore_n (q := 16) (L' := [some (.ref l0), some (.int l1), some (.int 0), some (.int 0), none]) dX11_isKept_15 rfl (Nat.le_of_ble_eq_true rfl) rfl rfl rfl ?_
    refine z_iconst (q := 17) (v := 0) dX11_isKept_16 (by decide) rfl ?_
    refine z_istore (q := 19) (L' := [some (.ref l0), some (.int l1), some (.int 0), some (.int 0), some (.int 0)]) dX11_isKept_17 (Nat.le_of_ble_eq_true rfl) rfl rfl rfl ?_
    exact hF
set_option maxRecDepth 100000 in
set_option maxHeartbeats 4000000 in
theorem wX11_isKept {ψ : Int32 → ZH → Prop} {l0 : Nat} {h : ZH} (hF : Zt mX11_isKept (zPI ψ) 0 0 2 [some (.ref l0), some (.int 0), none, none, none] [] h) : ZcI mX11_isKept [.ref l0] h ψ := by
  refine Zc.intro (L := [some (.ref l0), none, none, none, none]) (show plainName RX11 = true by decide) rfl (Nat.le_of_ble_eq_true rfl) ?_
  show Zt _ _ 0 0 _ _ _ _
  refine z_iconst (q := 1) (v := 0) dX11_isKept_0 (by decide) rfl ?_
  refine z_istore_n (q := 2) (L' := [some (.ref l0), some (.int 0), none, none, none]) dX11_isKept_1 rfl (Nat.le_of_ble_eq_true rfl) rfl rfl rfl ?_
  exact hF
set_option maxRecDepth 100000 in
set_option maxHeartbeats 4000000 in
theorem wX11_costBy_17 {ψ : Int32 → ZH → Prop} {l0 : Nat} {l1 : Int32} {l2 : Int32} {l3 : Int32} {l4 : Int32} {h : ZH} (hF : (zK h l0 = 12) ∧ (((zI h l0 9) ≤ l4 → Zt mX11_costBy (zPI ψ) 0 0 4 [some (.ref l0), some (.int l1), some (.int l2), some (.int (l3 + 1)), none, none, none] [] h) ∧ (¬ (zI h l0 9) ≤ l4 → ((zR h l0 4) ≠ 0) ∧ (zK h (zR h l0 4) = 20) ∧ (vp_in l4 (zN h (zR h l0 4))) ∧ ((zR h l0 5) ≠ 0) ∧ (zK h (zR h l0 5) = 20) ∧ (vp_in l4 (zN h (zR h l0 5))) ∧ ((zR h l0 44) ≠ 0) ∧ (zK h (zR h l0 44) = 20) ∧ (vp_in ((5 * l1) + l3) (zN h (zR h l0 44))) ∧ ∀ v11 : Int32, v11 = ((zI h (zR h l0 4) (Int32.toNatClampNeg l4)) * ((zI h (zR h l0 5) (Int32.toNatClampNeg l4)) - (zI h (zR h l0 44) (Int32.toNatClampNeg ((5 * l1) + l3))))) → ((zR h l0 7) ≠ 0) ∧ (zK h (zR h l0 7) = 21) ∧ (vp_in l4 (zN h (zR h l0 7))) ∧ (((zI h (zR h l0 7) (Int32.toNatClampNeg l4)) = 0 → ((zR h l0 18) ≠ 0) ∧ (zK h (zR h l0 18) = 20) ∧ (2 < zN h (zR h l0 18)) ∧ Zt mX11_costBy (zPI ψ) 0 0 17 [some (.ref l0), some (.int l1), some (.int (l2 + (zI h (zR h l0 18) 2))), some (.int l3), some (.int (l4 + 1)), none, none] [] h) ∧ (¬ (zI h (zR h l0 7) (Int32.toNatClampNeg l4)) = 0 → ((zR h l0 45) ≠ 0) ∧ (zK h (zR h l0 45) = 20) ∧ (vp_in l4 (zN h (zR h l0 45))) ∧ (((zI h (zR h l0 45) (Int32.toNatClampNeg l4)) ≤ l3 → ((zR h l0 18) ≠ 0) ∧ (zK h (zR h l0 18) = 20) ∧ (2 < zN h (zR h l0 18)) ∧ Zt mX11_costBy (zPI ψ) 0 0 17 [some (.ref l0), some (.int l1), some (.int (l2 + (zI h (zR h l0 18) 2))), some (.int l3), some (.int (l4 + 1)), none, none] [] h) ∧ (¬ (zI h (zR h l0 45) (Int32.toNatClampNeg l4)) ≤ l3 → ((v11 ≤ 0 → Zt mX11_costBy (zPI ψ) 0 0 17 [some (.ref l0), some (.int l1), some (.int (l2 + 0)), some (.int l3), some (.int (l4 + 1)), none, none] [] h) ∧ (¬ v11 ≤ 0 → Zt mX11_costBy (zPI ψ) 0 0 17 [some (.ref l0), some (.int l1), some (.int (l2 + v11)), some (.int l3), some (.int (l4 + 1)), none, none] [] h))))))))) : Zt mX11_costBy (zPI ψ) 0 0 17 [some (.ref l0), some (.int l1), some (.int l2), some (.int l3), some (.int l4), none, none] [] h := by
  refine z_iload (q := 19) dX11_costBy_17 rfl rfl ?_
  refine z_aload_n (q := 20) dX11_costBy_19 rfl rfl rfl ?_
  obtain ⟨g1, hF⟩ := hF
  refine z_getI (c := 11) (k := 9) (r := (RX11, TX11, 54)) (q := 23) dX11_costBy_20 rfl (by decide) fl_X11_144 rfl g1 rfl ?_
  refine z_icmp_ge (t := 116) (q := 26) dX11_costBy_23 (by decide) rfl (fun hc => ?_) (fun hc => ?_)
  · have hF := hF.1 hc
    refine z_iinc (q := 119) (v := (l3 + 1)) (L' := [some (.ref l0), some (.int l1), some (.int l2), some (.int (l3 + 1)), some (.int l4), none, none]) dX11_costBy_116 rfl rfl (Nat.le_of_ble_eq_true rfl) rfl rfl rfl ?_
    refine z_goto (q := 4) dX11_costBy_119 (by decide) ?_
    refine Zt.drop (i := 4) (L' := [some (.ref l0), some (.int l1), some (.int l2), some (.int (l3 + 1)), none, none, none]) rfl ?_
    exact hF
  · have hF := hF.2 hc
    refine z_aload_n (q := 27) dX11_costBy_26 rfl rfl rfl ?_
    obtain ⟨g2, hF⟩ := hF
    refine z_getR (c := 11) (k := 4) (r := (RX11, TX11, 54)) (q := 30) dX11_costBy_27 rfl (by decide) fl_X11_22 rfl g1 g2 rfl ?_
    refine z_iload (q := 32) dX11_costBy_30 rfl rfl ?_
    obtain ⟨g3, hF⟩ := hF
    obtain ⟨g4, hF⟩ := hF
    refine y_iald (j := (Int32.toNatClampNeg l4)) (q := 33) dX11_costBy_32 (Or.inl g3) g4 rfl rfl ?_
    refine z_aload_n (q := 34) dX11_costBy_33 rfl rfl rfl ?_
    obtain ⟨g5, hF⟩ := hF
    refine z_getR (c := 11) (k := 5) (r := (RX11, TX11, 54)) (q := 37) dX11_costBy_34 rfl (by decide) fl_X11_25 rfl g1 g5 rfl ?_
    refine z_iload (q := 39) dX11_costBy_37 rfl rfl ?_
    obtain ⟨g6, hF⟩ := hF
    obtain ⟨g7, hF⟩ := hF
    refine y_iald (j := (Int32.toNatClampNeg l4)) (q := 40) dX11_costBy_39 (Or.inl g6) g7 rfl rfl ?_
    refine z_aload_n (q := 41) dX11_costBy_40 rfl rfl rfl ?_
    obtain ⟨g8, hF⟩ := hF
    refine z_getR (c := 11) (k := 44) (r := (RX11, TX11, 54)) (q := 44) dX11_costBy_41 rfl (by decide) fl_X11_114 rfl g1 g8 rfl ?_
    refine z_iconst (q := 45) (v := 5) dX11_costBy_44 (by decide) rfl ?_
    refine z_iload_n (q := 46) dX11_costBy_45 rfl rfl rfl ?_
    refine z_imul (q := 47) dX11_costBy_46 rfl ?_
    refine z_iload_n (q := 48) dX11_costBy_47 rfl rfl rfl ?_
    refine z_iadd (q := 49) dX11_costBy_48 rfl ?_
    obtain ⟨g9, hF⟩ := hF
    obtain ⟨g10, hF⟩ := hF
    refine y_iald (j := (Int32.toNatClampNeg ((5 * l1) + l3))) (q := 50) dX11_costBy_49 (Or.inl g9) g10 rfl rfl ?_
    refine z_isub (q := 51) dX11_costBy_50 rfl ?_
    refine z_imul (q := 52) dX11_costBy_51 rfl ?_
    refine z_nameI (fun v11 ev12 => ?_)
    have hF := hF v11 ev12
    refine z_istore (q := 54) (L' := [some (.ref l0), some (.int l1), some (.int l2), some (.int l3), some (.int l4), some (.int v11), none]) dX11_costBy_52 (Nat.le_of_ble_eq_true rfl) rfl rfl rfl ?_
    refine z_aload_n (q := 55) dX11_costBy_54 rfl rfl rfl ?_
    obtain ⟨g13, hF⟩ := hF
    refine z_getR (c := 11) (k := 7) (r := (RX11, TX11, 54)) (q := 58) dX11_costBy_55 rfl (by decide) fl_X11_31 rfl g1 g13 rfl ?_
    refine z_iload (q := 60) dX11_costBy_58 rfl rfl ?_
    obtain ⟨g14, hF⟩ := hF
    obtain ⟨g15, hF⟩ := hF
    refine y_bald (j := (Int32.toNatClampNeg l4)) (q := 61) dX11_costBy_60 g14 g15 rfl rfl ?_
    refine z_if_eq (t := 79) (q := 64) dX11_costBy_61 (by decide) rfl (fun hc => ?_) (fun hc => ?_)
    · have hF := hF.1 hc
      refine z_iconst (q := 80) (v := 0) dX11_costBy_79 (by decide) rfl ?_
      refine z_istore (q := 82) (L' := [some (.ref l0), some (.int l1), some (.int l2), some (.int l3), some (.int l4), some (.int v11), some (.int 0)]) dX11_costBy_80 (Nat.le_of_ble_eq_true rfl) rfl rfl rfl ?_
      refine z_iload_n (q := 83) dX11_costBy_82 rfl rfl rfl ?_
      refine z_iload (q := 85) dX11_costBy_83 rfl rfl ?_
      refine z_if_ne (t := 97) (q := 88) dX11_costBy_85 (by decide) rfl (fun hc => absurd hc (by decide)) (fun _ => ?_)
      refine z_aload_n (q := 89) dX11_costBy_88 rfl rfl rfl ?_
      obtain ⟨g16, hF⟩ := hF
      refine z_getR (c := 11) (k := 18) (r := (RX11, TX11, 54)) (q := 92) dX11_costBy_89 rfl (by decide) fl_X11_59 rfl g1 g16 rfl ?_
      refine z_iconst (q := 93) (v := 2) dX11_costBy_92 (by decide) rfl ?_
      obtain ⟨g17, hF⟩ := hF
      obtain ⟨g18, hF⟩ := hF
      refine y_iald (j := 2) (q := 94) dX11_costBy_93 (Or.inl g17) (zvin (by decide) (by decide) g18) (by decide) rfl ?_
      refine z_goto (q := 108) dX11_costBy_94 (by decide) ?_
      refine z_iadd (q := 109) dX11_costBy_108 rfl ?_
      refine z_istore_n (q := 110) (L' := [some (.ref l0), some (.int l1), some (.int (l2 + (zI h (zR h l0 18) 2))), some (.int l3), some (.int l4), some (.int v11), some (.int 0)]) dX11_costBy_109 rfl (Nat.le_of_ble_eq_true rfl) rfl rfl rfl ?_
      refine z_iinc (q := 113) (v := (l4 + 1)) (L' := [some (.ref l0), some (.int l1), some (.int (l2 + (zI h (zR h l0 18) 2))), some (.int l3), some (.int (l4 + 1)), some (.int v11), some (.int 0)]) dX11_costBy_110 rfl rfl (Nat.le_of_ble_eq_true rfl) rfl rfl rfl ?_
      refine z_goto (q := 17) dX11_costBy_113 (by decide) ?_
      refine Zt.drop (i := 5) (L' := [some (.ref l0), some (.int l1), some (.int (l2 + (zI h (zR h l0 18) 2))), some (.int l3), some (.int (l4 + 1)), none, some (.int 0)]) rfl ?_
      refine Zt.drop (i := 6) (L' := [some (.ref l0), some (.int l1), some (.int (l2 + (zI h (zR h l0 18) 2))), some (.int l3), some (.int (l4 + 1)), none, none]) rfl ?_
      exact hF
    · have hF := hF.2 hc
      refine z_aload_n (q := 65) dX11_costBy_64 rfl rfl rfl ?_
      obtain ⟨g19, hF⟩ := hF
      refine z_getR (c := 11) (k := 45) (r := (RX11, TX11, 54)) (q := 68) dX11_costBy_65 rfl (by decide) fl_X11_117 rfl g1 g19 rfl ?_
      refine z_iload (q := 70) dX11_costBy_68 rfl rfl ?_
      obtain ⟨g20, hF⟩ := hF
      obtain ⟨g21, hF⟩ := hF
      refine y_iald (j := (Int32.toNatClampNeg l4)) (q := 71) dX11_costBy_70 (Or.inl g20) g21 rfl rfl ?_
      refine z_iload_n (q := 72) dX11_costBy_71 rfl rfl rfl ?_
      refine z_icmp_le (t := 79) (q := 75) dX11_costBy_72 (by decide) rfl (fun hc => ?_) (fun hc => ?_)
      · have hF := hF.1 hc
        refine z_iconst (q := 80) (v := 0) dX11_costBy_79 (by decide) rfl ?_
        refine z_istore (q := 82) (L' := [some (.ref l0), some (.int l1), some (.int l2), some (.int l3), some (.int l4), some (.int v11), some (.int 0)]) dX11_costBy_80 (Nat.le_of_ble_eq_true rfl) rfl rfl rfl ?_
        refine z_iload_n (q := 83) dX11_costBy_82 rfl rfl rfl ?_
        refine z_iload (q := 85) dX11_costBy_83 rfl rfl ?_
        refine z_if_ne (t := 97) (q := 88) dX11_costBy_85 (by decide) rfl (fun hc => absurd hc (by decide)) (fun _ => ?_)
        refine z_aload_n (q := 89) dX11_costBy_88 rfl rfl rfl ?_
        obtain ⟨g22, hF⟩ := hF
        refine z_getR (c := 11) (k := 18) (r := (RX11, TX11, 54)) (q := 92) dX11_costBy_89 rfl (by decide) fl_X11_59 rfl g1 g22 rfl ?_
        refine z_iconst (q := 93) (v := 2) dX11_costBy_92 (by decide) rfl ?_
        obtain ⟨g23, hF⟩ := hF
        obtain ⟨g24, hF⟩ := hF
        refine y_iald (j := 2) (q := 94) dX11_costBy_93 (Or.inl g23) (zvin (by decide) (by decide) g24) (by decide) rfl ?_
        refine z_goto (q := 108) dX11_costBy_94 (by decide) ?_
        refine z_iadd (q := 109) dX11_costBy_108 rfl ?_
        refine z_istore_n (q := 110) (L' := [some (.ref l0), some (.int l1), some (.int (l2 + (zI h (zR h l0 18) 2))), some (.int l3), some (.int l4), some (.int v11), some (.int 0)]) dX11_costBy_109 rfl (Nat.le_of_ble_eq_true rfl) rfl rfl rfl ?_
        refine z_iinc (q := 113) (v := (l4 + 1)) (L' := [some (.ref l0), some (.int l1), some (.int (l2 + (zI h (zR h l0 18) 2))), some (.int l3), some (.int (l4 + 1)), some (.int v11), some (.int 0)]) dX11_costBy_110 rfl rfl (Nat.le_of_ble_eq_true rfl) rfl rfl rfl ?_
        refine z_goto (q := 17) dX11_costBy_113 (by decide) ?_
        refine Zt.drop (i := 5) (L' := [some (.ref l0), some (.int l1), some (.int (l2 + (zI h (zR h l0 18) 2))), some (.int l3), some (.int (l4 + 1)), none, some (.int 0)]) rfl ?_
        refine Zt.drop (i := 6) (L' := [some (.ref l0), some (.int l1), some (.int (l2 + (zI h (zR h l0 18) 2))), some (.int l3), some (.int (l4 + 1)), none, none]) rfl ?_
        exact hF
      · have hF := hF.2 hc
        refine z_iconst (q := 76) (v := 1) dX11_costBy_75 (by decide) rfl ?_
        refine z_goto (q := 80) dX11_costBy_76 (by decide) ?_
        refine z_istore (q := 82) (L' := [some (.ref l0), some (.int l1), some (.int l2), some (.int l3), some (.int l4), some (.int v11), some (.int 1)]) dX11_costBy_80 (Nat.le_of_ble_eq_true rfl) rfl rfl rfl ?_
        refine z_iload_n (q := 83) dX11_costBy_82 rfl rfl rfl ?_
        refine z_iload (q := 85) dX11_costBy_83 rfl rfl ?_
        refine z_if_ne (t := 97) (q := 88) dX11_costBy_85 (by decide) rfl (fun _ => ?_) (fun hc => absurd hc (by decide))
        refine z_iload (q := 99) dX11_costBy_97 rfl rfl ?_
        refine z_if_le (t := 107) (q := 102) dX11_costBy_99 (by decide) rfl (fun hc => ?_) (fun hc => ?_)
        · have hF := hF.1 hc
          refine z_iconst (q := 108) (v := 0) dX11_costBy_107 (by decide) rfl ?_
          refine z_iadd (q := 109) dX11_costBy_108 rfl ?_
          refine z_istore_n (q := 110) (L' := [some (.ref l0), some (.int l1), some (.int (l2 + 0)), some (.int l3), some (.int l4), some (.int v11), some (.int 1)]) dX11_costBy_109 rfl (Nat.le_of_ble_eq_true rfl) rfl rfl rfl ?_
          refine z_iinc (q := 113) (v := (l4 + 1)) (L' := [some (.ref l0), some (.int l1), some (.int (l2 + 0)), some (.int l3), some (.int (l4 + 1)), some (.int v11), some (.int 1)]) dX11_costBy_110 rfl rfl (Nat.le_of_ble_eq_true rfl) rfl rfl rfl ?_
          refine z_goto (q := 17) dX11_costBy_113 (by decide) ?_
          refine Zt.drop (i := 5) (L' := [some (.ref l0), some (.int l1), some (.int (l2 + 0)), some (.int l3), some (.int (l4 + 1)), none, some (.int 1)]) rfl ?_
          refine Zt.drop (i := 6) (L' := [some (.ref l0), some (.int l1), some (.int (l2 + 0)), some (.int l3), some (.int (l4 + 1)), none, none]) rfl ?_
          exact hF
        · have hF := hF.2 hc
          refine z_iload (q := 104) dX11_costBy_102 rfl rfl ?_
          refine z_goto (q := 108) dX11_costBy_104 (by decide) ?_
          refine z_iadd (q := 109) dX11_costBy_108 rfl ?_
          refine z_istore_n (q := 110) (L' := [some (.ref l0), some (.int l1), some (.int (l2 + v11)), some (.int l3), some (.int l4), some (.int v11), some (.int 1)]) dX11_costBy_109 rfl (Nat.le_of_ble_eq_true rfl) rfl rfl rfl ?_
          refine z_iinc (q := 113) (v := (l4 + 1)) (L' := [some (.ref l0), some (.int l1), some (.int (l2 + v11)), some (.int l3), some (.int (l4 + 1)), some (.int v11), some (.int 1)]) dX11_costBy_110 rfl rfl (Nat.le_of_ble_eq_true rfl) rfl rfl rfl ?_
          refine z_goto (q := 17) dX11_costBy_113 (by decide) ?_
          refine Zt.drop (i := 5) (L' := [some (.ref l0), some (.int l1), some (.int (l2 + v11)), some (.int l3), some (.int (l4 + 1)), none, some (.int 1)]) rfl ?_
          refine Zt.drop (i := 6) (L' := [some (.ref l0), some (.int l1), some (.int (l2 + v11)), some (.int l3), some (.int (l4 + 1)), none, none]) rfl ?_
          exact hF
set_option maxRecDepth 100000 in
set_option maxHeartbeats 4000000 in
theorem wX11_costBy_4 {ψ : Int32 → ZH → Prop} {l0 : Nat} {l1 : Int32} {l2 : Int32} {l3 : Int32} {h : ZH} (hF : (zK h l0 = 12) ∧ ((zR h l0 18) ≠ 0) ∧ (zK h (zR h l0 18) = 20) ∧ (5 < zN h (zR h l0 18)) ∧ (((zI h (zR h l0 18) 5) ≤ l3 → ψ l2 h) ∧ (¬ (zI h (zR h l0 18) 5) ≤ l3 → Zt mX11_costBy (zPI ψ) 0 0 17 [some (.ref l0), some (.int l1), some (.int l2), some (.int l3), some (.int 0), none, none] [] h))) : Zt mX11_costBy (zPI ψ) 0 0 4 [some (.ref l0), some (.int l1), some (.int l2), some (.int l3), none, none, none] [] h := by
  refine z_iload_n (q := 5) dX11_costBy_4 rfl rfl rfl ?_
  refine z_aload_n (q := 6) dX11_costBy_5 rfl rfl rfl ?_
  obtain ⟨g25, hF⟩ := hF
  obtain ⟨g26, hF⟩ := hF
  refine z_getR (c := 11) (k := 18) (r := (RX11, TX11, 54)) (q := 9) dX11_costBy_6 rfl (by decide) fl_X11_59 rfl g25 g26 rfl ?_
  refine z_iconst (q := 10) (v := 5) dX11_costBy_9 (by decide) rfl ?_
  obtain ⟨g27, hF⟩ := hF
  obtain ⟨g28, hF⟩ := hF
  refine y_iald (j := 5) (q := 11) dX11_costBy_10 (Or.inl g27) (zvin (by decide) (by decide) g28) (by decide) rfl ?_
  refine z_icmp_ge (t := 122) (q := 14) dX11_costBy_11 (by decide) rfl (fun hc => ?_) (fun hc => ?_)
  · have hF := hF.1 hc
    refine z_iload_n (q := 123) dX11_costBy_122 rfl rfl rfl ?_
    exact z_ireturn dX11_costBy_123 rfl ⟨_, rfl, hF⟩
  · have hF := hF.2 hc
    refine z_iconst (q := 15) (v := 0) dX11_costBy_14 (by decide) rfl ?_
    refine z_istore (q := 17) (L' := [some (.ref l0), some (.int l1), some (.int l2), some (.int l3), some (.int 0), none, none]) dX11_costBy_15 (Nat.le_of_ble_eq_true rfl) rfl rfl rfl ?_
    exact hF
set_option maxRecDepth 100000 in
set_option maxHeartbeats 4000000 in
theorem wX11_costBy {ψ : Int32 → ZH → Prop} {l0 : Nat} {l1 : Int32} {h : ZH} (hF : Zt mX11_costBy (zPI ψ) 0 0 4 [some (.ref l0), some (.int l1), some (.int 0), some (.int 0), none, none, none] [] h) : ZcI mX11_costBy [.ref l0, .int l1] h ψ := by
  refine Zc.intro (L := [some (.ref l0), some (.int l1), none, none, none, none, none]) (show plainName RX11 = true by decide) rfl (Nat.le_of_ble_eq_true rfl) ?_
  show Zt _ _ 0 0 _ _ _ _
  refine z_iconst (q := 1) (v := 0) dX11_costBy_0 (by decide) rfl ?_
  refine z_istore_n (q := 2) (L' := [some (.ref l0), some (.int l1), some (.int 0), none, none, none, none]) dX11_costBy_1 rfl (Nat.le_of_ble_eq_true rfl) rfl rfl rfl ?_
  refine z_iconst (q := 3) (v := 0) dX11_costBy_2 (by decide) rfl ?_
  refine z_istore_n (q := 4) (L' := [some (.ref l0), some (.int l1), some (.int 0), some (.int 0), none, none, none]) dX11_costBy_3 rfl (Nat.le_of_ble_eq_true rfl) rfl rfl rfl ?_
  exact hF
set_option maxRecDepth 100000 in
set_option maxHeartbeats 4000000 in
theorem wX11_worst_13 {ψ : Int32 → ZH → Prop} {l0 : Nat} {l1 : Int32} {l2 : Int32} {h : ZH} (hF : ((3 ≤ l2 → ψ l1 h) ∧ (¬ 3 ≤ l2 → (zK h l0 = 12) ∧ ZcI mX11_costBy [.ref l0, .int l2] h (fun x3 h1 => ((x3 ≤ l1 → Zt mX11_worst (zPI ψ) 0 0 13 [some (.ref l0), some (.int l1), some (.int (l2 + 1)), none] [] h1) ∧ (¬ x3 ≤ l1 → (zK h1 l0 = 12) ∧ Zt mX11_worst (zPI ψ) 0 0 13 [some (.ref l0), some (.int x3), some (.int (l2 + 1)), none] [] (zsI h1 l0 46 l2))))))) : Zt mX11_worst (zPI ψ) 0 0 13 [some (.ref l0), some (.int l1), some (.int l2), none] [] h := by
  refine z_iload_n (q := 14) dX11_worst_13 rfl rfl rfl ?_
  refine z_iconst (q := 15) (v := 3) dX11_worst_14 (by decide) rfl ?_
  refine z_icmp_ge (t := 42) (q := 18) dX11_worst_15 (by decide) rfl (fun hc => ?_) (fun hc => ?_)
  · have hF := hF.1 hc
    refine z_iload_n (q := 43) dX11_worst_42 rfl rfl rfl ?_
    exact z_ireturn dX11_worst_43 rfl ⟨_, rfl, hF⟩
  · have hF := hF.2 hc
    refine z_aload_n (q := 19) dX11_worst_18 rfl rfl rfl ?_
    refine z_iload_n (q := 20) dX11_worst_19 rfl rfl rfl ?_
    obtain ⟨g2, hF⟩ := hF
    refine z_callVI (rc := 0) (rs := 0) (b := l0) (av := [.int l2]) (ci := 11) (r := (RX11, TX11, 54)) (q := 23) hF dX11_worst_20 ml_X11_322 ok_X11_costBy in_X11_costBy se_X11_costBy rfl rfl g2 rfl (Nat.le_of_ble_eq_true rfl) (by decide) (Nat.le_of_ble_eq_true rfl) rfl rfl rfl rfl (fun x3 h1 hF => ?_)
    refine z_istore_n (q := 24) (L' := [some (.ref l0), some (.int l1), some (.int l2), some (.int x3)]) dX11_worst_23 rfl (Nat.le_of_ble_eq_true rfl) rfl rfl rfl ?_
    refine z_iload_n (q := 25) dX11_worst_24 rfl rfl rfl ?_
    refine z_iload_n (q := 26) dX11_worst_25 rfl rfl rfl ?_
    refine z_icmp_le (t := 36) (q := 29) dX11_worst_26 (by decide) rfl (fun hc => ?_) (fun hc => ?_)
    · have hF := hF.1 hc
      refine z_iinc (q := 39) (v := (l2 + 1)) (L' := [some (.ref l0), some (.int l1), some (.int (l2 + 1)), some (.int x3)]) dX11_worst_36 rfl rfl (Nat.le_of_ble_eq_true rfl) rfl rfl rfl ?_
      refine z_goto (q := 13) dX11_worst_39 (by decide) ?_
      refine Zt.drop (i := 3) (L' := [some (.ref l0), some (.int l1), some (.int (l2 + 1)), none]) rfl ?_
      exact hF
    · have hF := hF.2 hc
      refine z_iload_n (q := 30) dX11_worst_29 rfl rfl rfl ?_
      refine z_istore_n (q := 31) (L' := [some (.ref l0), some (.int x3), some (.int l2), some (.int x3)]) dX11_worst_30 rfl (Nat.le_of_ble_eq_true rfl) rfl rfl rfl ?_
      refine z_aload_n (q := 32) dX11_worst_31 rfl rfl rfl ?_
      refine z_iload_n (q := 33) dX11_worst_32 rfl rfl rfl ?_
      obtain ⟨g4, hF⟩ := hF
      refine z_putI (c := 11) (k := 46) (r := (RX11, TX11, 54)) (q := 36) dX11_worst_33 rfl (by decide) fl_X11_319 rfl rfl g4 rfl ?_
      refine z_iinc (q := 39) (v := (l2 + 1)) (L' := [some (.ref l0), some (.int x3), some (.int (l2 + 1)), some (.int x3)]) dX11_worst_36 rfl rfl (Nat.le_of_ble_eq_true rfl) rfl rfl rfl ?_
      refine z_goto (q := 13) dX11_worst_39 (by decide) ?_
      refine Zt.drop (i := 3) (L' := [some (.ref l0), some (.int x3), some (.int (l2 + 1)), none]) rfl ?_
      exact hF
set_option maxRecDepth 100000 in
set_option maxHeartbeats 4000000 in
theorem wX11_worst {ψ : Int32 → ZH → Prop} {l0 : Nat} {h : ZH} (hF : (zK h l0 = 12) ∧ ZcI mX11_costBy [.ref l0, .int 0] (zsI h l0 46 0) (fun x7 h6 => Zt mX11_worst (zPI ψ) 0 0 13 [some (.ref l0), some (.int x7), some (.int 1), none] [] h6)) : ZcI mX11_worst [.ref l0] h ψ := by
  refine Zc.intro (L := [some (.ref l0), none, none, none]) (show plainName RX11 = true by decide) rfl (Nat.le_of_ble_eq_true rfl) ?_
  show Zt _ _ 0 0 _ _ _ _
  refine z_aload_n (q := 1) dX11_worst_0 rfl rfl rfl ?_
  refine z_iconst (q := 2) (v := 0) dX11_worst_1 (by decide) rfl ?_
  obtain ⟨g5, hF⟩ := hF
  refine z_putI (c := 11) (k := 46) (r := (RX11, TX11, 54)) (q := 5) dX11_worst_2 rfl (by decide) fl_X11_319 rfl rfl g5 rfl ?_
  refine z_aload_n (q := 6) dX11_worst_5 rfl rfl rfl ?_
  refine z_iconst (q := 7) (v := 0) dX11_worst_6 (by decide) rfl ?_
  refine z_callVI (rc := 0) (rs := 0) (b := l0) (av := [.int 0]) (ci := 11) (r := (RX11, TX11, 54)) (q := 10) hF dX11_worst_7 ml_X11_322 ok_X11_costBy in_X11_costBy se_X11_costBy rfl rfl g5 rfl (Nat.le_of_ble_eq_true rfl) (by decide) (Nat.le_of_ble_eq_true rfl) rfl rfl rfl rfl (fun x7 h6 hF => ?_)
  refine z_istore_n (q := 11) (L' := [some (.ref l0), some (.int x7), none, none]) dX11_worst_10 rfl (Nat.le_of_ble_eq_true rfl) rfl rfl rfl ?_
  refine z_iconst (q := 12) (v := 1) dX11_worst_11 (by decide) rfl ?_
  refine z_istore_n (q := 13) (L' := [some (.ref l0), some (.int x7), some (.int 1), none]) dX11_worst_12 rfl (Nat.le_of_ble_eq_true rfl) rfl rfl rfl ?_
  exact hF
set_option maxRecDepth 100000 in
set_option maxHeartbeats 4000000 in
theorem wX11_plan {ψ : Int32 → ZH → Prop} {l0 : Nat} {l1 : Int32} {l2 : Int32} {h : ZH} (hF : (zK h l0 = 12) ∧ ZcI mX11_layPlan [.ref l0, .int l1] h (fun x3 h1 => ((x3 = 0 → ψ (-2) h1) ∧ (¬ x3 = 0 → ZcI mX11_in [.long (Int32.toInt64 l2), .long 0, .long 2] h1 (fun x5 h4 => ((¬ x5 = 0 → (zK h4 l0 = 12) ∧ ZcI mX11_worst [.ref l0] h4 (fun x8 h6 => ((¬ l2 = 0 → ((¬ l2 = 1 → (zK h6 l0 = 12) ∧ ψ (zI h6 l0 46) h6) ∧ (l2 = 1 → ψ x8 h6))) ∧ (l2 = 0 → (zK h6 l0 = 12) ∧ ZcI mX11_isKept [.ref l0] h6 (fun x12 h10 => ((x12 = 0 → ψ 0 h10) ∧ (¬ x12 = 0 → ψ 1 h10))))))) ∧ (x5 = 0 → ψ (-2) h4))))))) : ZcI mX11_plan [.ref l0, .int l1, .int l2] h ψ := by
  refine Zc.intro (L := [some (.ref l0), some (.int l1), some (.int l2), none]) (show plainName RX11 = true by decide) rfl (Nat.le_of_ble_eq_true rfl) ?_
  show Zt _ _ 0 0 _ _ _ _
  refine z_aload_n (q := 1) dX11_plan_0 rfl rfl rfl ?_
  refine z_iload_n (q := 2) dX11_plan_1 rfl rfl rfl ?_
  obtain ⟨g2, hF⟩ := hF
  refine z_callVI (rc := 0) (rs := 0) (b := l0) (av := [.int l1]) (ci := 11) (r := (RX11, TX11, 54)) (q := 5) hF dX11_plan_2 ml_X11_325 ok_X11_layPlan in_X11_layPlan se_X11_layPlan rfl rfl g2 rfl (Nat.le_of_ble_eq_true rfl) (by decide) (Nat.le_of_ble_eq_true rfl) rfl rfl rfl rfl (fun x3 h1 hF => ?_)
  refine z_if_eq (t := 20) (q := 8) dX11_plan_5 (by decide) rfl (fun hc => ?_) (fun hc => ?_)
  · have hF := hF.1 hc
    refine z_bipush (q := 22) (v := (-2)) dX11_plan_20 (by decide) rfl ?_
    exact z_ireturn dX11_plan_22 rfl ⟨_, rfl, hF⟩
  · have hF := hF.2 hc
    refine z_iload_n (q := 9) dX11_plan_8 rfl rfl rfl ?_
    refine z_i2l (q := 10) dX11_plan_9 rfl ?_
    refine z_lconst (q := 11) (v := 0) dX11_plan_10 (by decide) rfl ?_
    refine z_ldc2 (q := 14) (v := 2) dX11_plan_11 cw_X11_183 rfl ?_
    refine z_callSI (rc := 0) (rs := 0) (av := [.long (Int32.toInt64 l2), .long 0, .long 2]) (q := 17) hF dX11_plan_14 ml_X11_140 ok_X11_in st_X11_in rfl (Nat.le_of_ble_eq_true rfl) (by decide) (Nat.le_of_ble_eq_true rfl) rfl rfl rfl rfl (fun x5 h4 hF => ?_)
    refine z_if_ne (t := 23) (q := 20) dX11_plan_17 (by decide) rfl (fun hc => ?_) (fun hc => ?_)
    · have hF := hF.1 hc
      refine z_aload_n (q := 24) dX11_plan_23 rfl rfl rfl ?_
      obtain ⟨g7, hF⟩ := hF
      refine z_callVI (rc := 0) (rs := 0) (b := l0) (av := []) (ci := 11) (r := (RX11, TX11, 54)) (q := 27) hF dX11_plan_24 ml_X11_328 ok_X11_worst in_X11_worst se_X11_worst rfl rfl g7 rfl (Nat.le_of_ble_eq_true rfl) (by decide) (Nat.le_of_ble_eq_true rfl) rfl rfl rfl rfl (fun x8 h6 hF => ?_)
      refine z_istore_n (q := 28) (L' := [some (.ref l0), some (.int l1), some (.int l2), some (.int x8)]) dX11_plan_27 rfl (Nat.le_of_ble_eq_true rfl) rfl rfl rfl ?_
      refine z_iload_n (q := 29) dX11_plan_28 rfl rfl rfl ?_
      refine z_if_ne (t := 47) (q := 32) dX11_plan_29 (by decide) rfl (fun hc => ?_) (fun hc => ?_)
      · have hF := hF.1 hc
        refine z_iload_n (q := 48) dX11_plan_47 rfl rfl rfl ?_
        refine z_iconst (q := 49) (v := 1) dX11_plan_48 (by decide) rfl ?_
        refine z_icmp_ne (t := 56) (q := 52) dX11_plan_49 (by decide) rfl (fun hc => ?_) (fun hc => ?_)
        · have hF := hF.1 hc
          refine z_aload_n (q := 57) dX11_plan_56 rfl rfl rfl ?_
          obtain ⟨g9, hF⟩ := hF
          refine z_getI (c := 11) (k := 46) (r := (RX11, TX11, 54)) (q := 60) dX11_plan_57 rfl (by decide) fl_X11_319 rfl g9 rfl ?_
          exact z_ireturn dX11_plan_60 rfl ⟨_, rfl, hF⟩
        · have hF := hF.2 hc
          refine z_iload_n (q := 53) dX11_plan_52 rfl rfl rfl ?_
          refine z_goto (q := 60) dX11_plan_53 (by decide) ?_
          exact z_ireturn dX11_plan_60 rfl ⟨_, rfl, hF⟩
      · have hF := hF.2 hc
        refine z_aload_n (q := 33) dX11_plan_32 rfl rfl rfl ?_
        obtain ⟨g11, hF⟩ := hF
        refine z_callVI (rc := 0) (rs := 0) (b := l0) (av := []) (ci := 11) (r := (RX11, TX11, 54)) (q := 36) hF dX11_plan_33 ml_X11_331 ok_X11_isKept in_X11_isKept se_X11_isKept rfl rfl g11 rfl (Nat.le_of_ble_eq_true rfl) (by decide) (Nat.le_of_ble_eq_true rfl) rfl rfl rfl rfl (fun x12 h10 hF => ?_)
        refine z_if_eq (t := 43) (q := 39) dX11_plan_36 (by decide) rfl (fun hc => ?_) (fun hc => ?_)
        · have hF := hF.1 hc
          refine z_iconst (q := 44) (v := 0) dX11_plan_43 (by decide) rfl ?_
          refine z_goto (q := 60) dX11_plan_44 (by decide) ?_
          exact z_ireturn dX11_plan_60 rfl ⟨_, rfl, hF⟩
        · have hF := hF.2 hc
          refine z_iconst (q := 40) (v := 1) dX11_plan_39 (by decide) rfl ?_
          refine z_goto (q := 60) dX11_plan_40 (by decide) ?_
          exact z_ireturn dX11_plan_60 rfl ⟨_, rfl, hF⟩
    · have hF := hF.2 hc
      refine z_bipush (q := 22) (v := (-2)) dX11_plan_20 (by decide) rfl ?_
      exact z_ireturn dX11_plan_22 rfl ⟨_, rfl, hF⟩
set_option maxRecDepth 100000 in
set_option maxHeartbeats 4000000 in
theorem wX11_best_49 {ψ : Int32 → ZH → Prop} {l0 : Nat} {l1 : Int32} {l2 : Int32} {l3 : Int32} {l4 : Int32} {h : ZH} (hF : ((l4 = 0 → ((0 ≤ l2 → ((¬ l1 = 0 → ψ l3 h) ∧ (l1 = 0 → ψ l2 h))) ∧ (¬ 0 ≤ l2 → ψ (-5) h))) ∧ (¬ l4 = 0 → (zK h l0 = 12) ∧ ZcI mX11_isKept [.ref l0] h (fun x3 h1 => ((x3 = 0 → (zK h1 l0 = 12) ∧ ZcI mX11_nextPlan [.ref l0] h1 (fun x6 h4 => Zt mX11_best (zPI ψ) 0 0 49 [some (.ref l0), some (.int l1), some (.int l2), some (.int l3), some (.int x6), none] [] h4)) ∧ (¬ x3 = 0 → (zK h1 l0 = 12) ∧ ZcI mX11_worst [.ref l0] h1 (fun x9 h7 => ((l3 ≤ x9 → (zK h7 l0 = 12) ∧ ZcI mX11_nextPlan [.ref l0] h7 (fun x12 h10 => Zt mX11_best (zPI ψ) 0 0 49 [some (.ref l0), some (.int l1), some (.int l2), some (.int l3), some (.int x12), none] [] h10)) ∧ (¬ l3 ≤ x9 → (zK h7 l0 = 12) ∧ ZcI mX11_digitsOf [.ref l0] h7 (fun x15 h13 => (zK h13 l0 = 12) ∧ ZcI mX11_nextPlan [.ref l0] h13 (fun x18 h16 => Zt mX11_best (zPI ψ) 0 0 49 [some (.ref l0), some (.int l1), some (.int x15), some (.int x9), some (.int x18), none] [] h16))))))))))) : Zt mX11_best (zPI ψ) 0 0 49 [some (.ref l0), some (.int l1), some (.int l2), some (.int l3), some (.int l4), none] [] h := by
  refine z_iload (q := 51) dX11_best_49 rfl rfl ?_
  refine z_if_eq (t := 90) (q := 54) dX11_best_51 (by decide) rfl (fun hc => ?_) (fun hc => ?_)
  · have hF := hF.1 hc
    refine z_iload_n (q := 91) dX11_best_90 rfl rfl rfl ?_
    refine z_if_ge (t := 99) (q := 94) dX11_best_91 (by decide) rfl (fun hc => ?_) (fun hc => ?_)
    · have hF := hF.1 hc
      refine z_iload_n (q := 100) dX11_best_99 rfl rfl rfl ?_
      refine z_if_ne (t := 107) (q := 103) dX11_best_100 (by decide) rfl (fun hc => ?_) (fun hc => ?_)
      · have hF := hF.1 hc
        refine z_iload_n (q := 108) dX11_best_107 rfl rfl rfl ?_
        exact z_ireturn dX11_best_108 rfl ⟨_, rfl, hF⟩
      · have hF := hF.2 hc
        refine z_iload_n (q := 104) dX11_best_103 rfl rfl rfl ?_
        refine z_goto (q := 108) dX11_best_104 (by decide) ?_
        exact z_ireturn dX11_best_108 rfl ⟨_, rfl, hF⟩
    · have hF := hF.2 hc
      refine z_bipush (q := 96) (v := (-5)) dX11_best_94 (by decide) rfl ?_
      refine z_goto (q := 108) dX11_best_96 (by decide) ?_
      exact z_ireturn dX11_best_108 rfl ⟨_, rfl, hF⟩
  · have hF := hF.2 hc
    refine z_aload_n (q := 55) dX11_best_54 rfl rfl rfl ?_
    obtain ⟨g2, hF⟩ := hF
    refine z_callVI (rc := 0) (rs := 0) (b := l0) (av := []) (ci := 11) (r := (RX11, TX11, 54)) (q := 58) hF dX11_best_55 ml_X11_331 ok_X11_isKept in_X11_isKept se_X11_isKept rfl rfl g2 rfl (Nat.le_of_ble_eq_true rfl) (by decide) (Nat.le_of_ble_eq_true rfl) rfl rfl rfl rfl (fun x3 h1 hF => ?_)
    refine z_if_eq (t := 81) (q := 61) dX11_best_58 (by decide) rfl (fun hc => ?_) (fun hc => ?_)
    · have hF := hF.1 hc
      refine z_aload_n (q := 82) dX11_best_81 rfl rfl rfl ?_
      obtain ⟨g5, hF⟩ := hF
      refine z_callVI (rc := 0) (rs := 0) (b := l0) (av := []) (ci := 11) (r := (RX11, TX11, 54)) (q := 85) hF dX11_best_82 ml_X11_338 ok_X11_nextPlan in_X11_nextPlan se_X11_nextPlan rfl rfl g5 rfl (Nat.le_of_ble_eq_true rfl) (by decide) (Nat.le_of_ble_eq_true rfl) rfl rfl rfl rfl (fun x6 h4 hF => ?_)
      refine z_istore (q := 87) (L' := [some (.ref l0), some (.int l1), some (.int l2), some (.int l3), some (.int x6), none]) dX11_best_85 (Nat.le_of_ble_eq_true rfl) rfl rfl rfl ?_
      refine z_goto (q := 49) dX11_best_87 (by decide) ?_
      exact hF
    · have hF := hF.2 hc
      refine z_aload_n (q := 62) dX11_best_61 rfl rfl rfl ?_
      obtain ⟨g8, hF⟩ := hF
      refine z_callVI (rc := 0) (rs := 0) (b := l0) (av := []) (ci := 11) (r := (RX11, TX11, 54)) (q := 65) hF dX11_best_62 ml_X11_328 ok_X11_worst in_X11_worst se_X11_worst rfl rfl g8 rfl (Nat.le_of_ble_eq_true rfl) (by decide) (Nat.le_of_ble_eq_true rfl) rfl rfl rfl rfl (fun x9 h7 hF => ?_)
      refine z_istore (q := 67) (L' := [some (.ref l0), some (.int l1), some (.int l2), some (.int l3), some (.int l4), some (.int x9)]) dX11_best_65 (Nat.le_of_ble_eq_true rfl) rfl rfl rfl ?_
      refine z_iload (q := 69) dX11_best_67 rfl rfl ?_
      refine z_iload_n (q := 70) dX11_best_69 rfl rfl rfl ?_
      refine z_icmp_ge (t := 81) (q := 73) dX11_best_70 (by decide) rfl (fun hc => ?_) (fun hc => ?_)
      · have hF := hF.1 hc
        refine z_aload_n (q := 82) dX11_best_81 rfl rfl rfl ?_
        obtain ⟨g11, hF⟩ := hF
        refine z_callVI (rc := 0) (rs := 0) (b := l0) (av := []) (ci := 11) (r := (RX11, TX11, 54)) (q := 85) hF dX11_best_82 ml_X11_338 ok_X11_nextPlan in_X11_nextPlan se_X11_nextPlan rfl rfl g11 rfl (Nat.le_of_ble_eq_true rfl) (by decide) (Nat.le_of_ble_eq_true rfl) rfl rfl rfl rfl (fun x12 h10 hF => ?_)
        refine z_istore (q := 87) (L' := [some (.ref l0), some (.int l1), some (.int l2), some (.int l3), some (.int x12), some (.int x9)]) dX11_best_85 (Nat.le_of_ble_eq_true rfl) rfl rfl rfl ?_
        refine z_goto (q := 49) dX11_best_87 (by decide) ?_
        refine Zt.drop (i := 5) (L' := [some (.ref l0), some (.int l1), some (.int l2), some (.int l3), some (.int x12), none]) rfl ?_
        exact hF
      · have hF := hF.2 hc
        refine z_iload (q := 75) dX11_best_73 rfl rfl ?_
        refine z_istore_n (q := 76) (L' := [some (.ref l0), some (.int l1), some (.int l2), some (.int x9), some (.int l4), some (.int x9)]) dX11_best_75 rfl (Nat.le_of_ble_eq_true rfl) rfl rfl rfl ?_
        refine z_aload_n (q := 77) dX11_best_76 rfl rfl rfl ?_
        obtain ⟨g14, hF⟩ := hF
        refine z_callVI (rc := 0) (rs := 0) (b := l0) (av := []) (ci := 11) (r := (RX11, TX11, 54)) (q := 80) hF dX11_best_77 ml_X11_335 ok_X11_digitsOf in_X11_digitsOf se_X11_digitsOf rfl rfl g14 rfl (Nat.le_of_ble_eq_true rfl) (by decide) (Nat.le_of_ble_eq_true rfl) rfl rfl rfl rfl (fun x15 h13 hF => ?_)
        refine z_istore_n (q := 81) (L' := [some (.ref l0), some (.int l1), some (.int x15), some (.int x9), some (.int l4), some (.int x9)]) dX11_best_80 rfl (Nat.le_of_ble_eq_true rfl) rfl rfl rfl ?_
        refine z_aload_n (q := 82) dX11_best_81 rfl rfl rfl ?_
        obtain ⟨g17, hF⟩ := hF
        refine z_callVI (rc := 0) (rs := 0) (b := l0) (av := []) (ci := 11) (r := (RX11, TX11, 54)) (q := 85) hF dX11_best_82 ml_X11_338 ok_X11_nextPlan in_X11_nextPlan se_X11_nextPlan rfl rfl g17 rfl (Nat.le_of_ble_eq_true rfl) (by decide) (Nat.le_of_ble_eq_true rfl) rfl rfl rfl rfl (fun x18 h16 hF => ?_)
        refine z_istore (q := 87) (L' := [some (.ref l0), some (.int l1), some (.int x15), some (.int x9), some (.int x18), some (.int x9)]) dX11_best_85 (Nat.le_of_ble_eq_true rfl) rfl rfl rfl ?_
        refine z_goto (q := 49) dX11_best_87 (by decide) ?_
        refine Zt.drop (i := 5) (L' := [some (.ref l0), some (.int l1), some (.int x15), some (.int x9), some (.int x18), none]) rfl ?_
        exact hF
set_option maxRecDepth 100000 in
set_option maxHeartbeats 4000000 in
theorem wX11_best_23 {ψ : Int32 → ZH → Prop} {l0 : Nat} {l1 : Int32} {l2 : Int32} {l3 : Int32} {l4 : Int32} {h : ZH} (hF : (zK h l0 = 12) ∧ (((zI h l0 9) ≤ l4 → Zt mX11_best (zPI ψ) 0 0 49 [some (.ref l0), some (.int l1), some (.int l2), some (.int l3), some (.int 1), none] [] h) ∧ (¬ (zI h l0 9) ≤ l4 → ((zR h l0 45) ≠ 0) ∧ (zK h (zR h l0 45) = 20) ∧ (vp_in l4 (zN h (zR h l0 45))) ∧ Zt mX11_best (zPI ψ) 0 0 23 [some (.ref l0), some (.int l1), some (.int l2), some (.int l3), some (.int (l4 + 1)), none] [] (zsI h (zR h l0 45) (Int32.toNatClampNeg l4) 0)))) : Zt mX11_best (zPI ψ) 0 0 23 [some (.ref l0), some (.int l1), some (.int l2), some (.int l3), some (.int l4), none] [] h := by
  refine z_iload (q := 25) dX11_best_23 rfl rfl ?_
  refine z_aload_n (q := 26) dX11_best_25 rfl rfl rfl ?_
  obtain ⟨g19, hF⟩ := hF
  refine z_getI (c := 11) (k := 9) (r := (RX11, TX11, 54)) (q := 29) dX11_best_26 rfl (by decide) fl_X11_144 rfl g19 rfl ?_
  refine z_icmp_ge (t := 46) (q := 32) dX11_best_29 (by decide) rfl (fun hc => ?_) (fun hc => ?_)
  · have hF := hF.1 hc
    refine z_iconst (q := 47) (v := 1) dX11_best_46 (by decide) rfl ?_
    refine z_istore (q := 49) (L' := [some (.ref l0), some (.int l1), some (.int l2), some (.int l3), some (.int 1), none]) dX11_best_47 (Nat.le_of_ble_eq_true rfl) rfl rfl rfl ?_
    exact hF
  · have hF := hF.2 hc
    refine z_aload_n (q := 33) dX11_best_32 rfl rfl rfl ?_
    obtain ⟨g20, hF⟩ := hF
    refine z_getR (c := 11) (k := 45) (r := (RX11, TX11, 54)) (q := 36) dX11_best_33 rfl (by decide) fl_X11_117 rfl g19 g20 rfl ?_
    refine z_iload (q := 38) dX11_best_36 rfl rfl ?_
    refine z_iconst (q := 39) (v := 0) dX11_best_38 (by decide) rfl ?_
    obtain ⟨g21, hF⟩ := hF
    obtain ⟨g22, hF⟩ := hF
    refine y_iast (j := (Int32.toNatClampNeg l4)) (q := 40) dX11_best_39 g21 g22 rfl rfl ?_
    refine z_iinc (q := 43) (v := (l4 + 1)) (L' := [some (.ref l0), some (.int l1), some (.int l2), some (.int l3), some (.int (l4 + 1)), none]) dX11_best_40 rfl rfl (Nat.le_of_ble_eq_true rfl) rfl rfl rfl ?_
    refine z_goto (q := 23) dX11_best_43 (by decide) ?_
    exact hF
set_option maxRecDepth 100000 in
set_option maxHeartbeats 4000000 in
theorem wX11_best {ψ : Int32 → ZH → Prop} {l0 : Nat} {l1 : Int32} {h : ZH} (hF : ZcI mX11_in [.long (Int32.toInt64 l1), .long 0, .long 1] h (fun x24 h23 => ((¬ x24 = 0 → Zt mX11_best (zPI ψ) 0 0 23 [some (.ref l0), some (.int l1), some (.int (-5)), some (.int 1000000000), some (.int 0), none] [] h23) ∧ (x24 = 0 → ψ (-2) h23)))) : ZcI mX11_best [.ref l0, .int l1] h ψ := by
  refine Zc.intro (L := [some (.ref l0), some (.int l1), none, none, none, none]) (show plainName RX11 = true by decide) rfl (Nat.le_of_ble_eq_true rfl) ?_
  show Zt _ _ 0 0 _ _ _ _
  refine z_iload_n (q := 1) dX11_best_0 rfl rfl rfl ?_
  refine z_i2l (q := 2) dX11_best_1 rfl ?_
  refine z_lconst (q := 3) (v := 0) dX11_best_2 (by decide) rfl ?_
  refine z_lconst (q := 4) (v := 1) dX11_best_3 (by decide) rfl ?_
  refine z_callSI (rc := 0) (rs := 0) (av := [.long (Int32.toInt64 l1), .long 0, .long 1]) (q := 7) hF dX11_best_4 ml_X11_140 ok_X11_in st_X11_in rfl (Nat.le_of_ble_eq_true rfl) (by decide) (Nat.le_of_ble_eq_true rfl) rfl rfl rfl rfl (fun x24 h23 hF => ?_)
  refine z_if_ne (t := 13) (q := 10) dX11_best_7 (by decide) rfl (fun hc => ?_) (fun hc => ?_)
  · have hF := hF.1 hc
    refine z_bipush (q := 15) (v := (-5)) dX11_best_13 (by decide) rfl ?_
    refine z_istore_n (q := 16) (L' := [some (.ref l0), some (.int l1), some (.int (-5)), none, none, none]) dX11_best_15 rfl (Nat.le_of_ble_eq_true rfl) rfl rfl rfl ?_
    refine z_ldcw (q := 19) (v := 1000000000) dX11_best_16 cw_X11_267 rfl ?_
    refine z_istore_n (q := 20) (L' := [some (.ref l0), some (.int l1), some (.int (-5)), some (.int 1000000000), none, none]) dX11_best_19 rfl (Nat.le_of_ble_eq_true rfl) rfl rfl rfl ?_
    refine z_iconst (q := 21) (v := 0) dX11_best_20 (by decide) rfl ?_
    refine z_istore (q := 23) (L' := [some (.ref l0), some (.int l1), some (.int (-5)), some (.int 1000000000), some (.int 0), none]) dX11_best_21 (Nat.le_of_ble_eq_true rfl) rfl rfl rfl ?_
    exact hF
  · have hF := hF.2 hc
    refine z_bipush (q := 12) (v := (-2)) dX11_best_10 (by decide) rfl ?_
    exact z_ireturn dX11_best_12 rfl ⟨_, rfl, hF⟩
set_option maxRecDepth 100000 in
set_option maxHeartbeats 4000000 in
theorem wX11_digitsOf_4 {ψ : Int32 → ZH → Prop} {l0 : Nat} {l1 : Int32} {l2 : Int32} {h : ZH} (hF : (zK h l0 = 12) ∧ (((zI h l0 9) ≤ l2 → ψ l1 h) ∧ (¬ (zI h l0 9) ≤ l2 → ((zR h l0 45) ≠ 0) ∧ (zK h (zR h l0 45) = 20) ∧ (vp_in l2 (zN h (zR h l0 45))) ∧ ∀ v5 : Int32, v5 = ((10 * l1) + (zI h (zR h l0 45) (Int32.toNatClampNeg l2))) → Zt mX11_digitsOf (zPI ψ) 0 0 4 [some (.ref l0), some (.int v5), some (.int (l2 + 1))] [] h))) : Zt mX11_digitsOf (zPI ψ) 0 0 4 [some (.ref l0), some (.int l1), some (.int l2)] [] h := by
  refine z_iload_n (q := 5) dX11_digitsOf_4 rfl rfl rfl ?_
  refine z_aload_n (q := 6) dX11_digitsOf_5 rfl rfl rfl ?_
  obtain ⟨g1, hF⟩ := hF
  refine z_getI (c := 11) (k := 9) (r := (RX11, TX11, 54)) (q := 9) dX11_digitsOf_6 rfl (by decide) fl_X11_144 rfl g1 rfl ?_
  refine z_icmp_ge (t := 30) (q := 12) dX11_digitsOf_9 (by decide) rfl (fun hc => ?_) (fun hc => ?_)
  · have hF := hF.1 hc
    refine z_iload_n (q := 31) dX11_digitsOf_30 rfl rfl rfl ?_
    exact z_ireturn dX11_digitsOf_31 rfl ⟨_, rfl, hF⟩
  · have hF := hF.2 hc
    refine z_bipush (q := 14) (v := 10) dX11_digitsOf_12 (by decide) rfl ?_
    refine z_iload_n (q := 15) dX11_digitsOf_14 rfl rfl rfl ?_
    refine z_imul (q := 16) dX11_digitsOf_15 rfl ?_
    refine z_aload_n (q := 17) dX11_digitsOf_16 rfl rfl rfl ?_
    obtain ⟨g2, hF⟩ := hF
    refine z_getR (c := 11) (k := 45) (r := (RX11, TX11, 54)) (q := 20) dX11_digitsOf_17 rfl (by decide) fl_X11_117 rfl g1 g2 rfl ?_
    refine z_iload_n (q := 21) dX11_digitsOf_20 rfl rfl rfl ?_
    obtain ⟨g3, hF⟩ := hF
    obtain ⟨g4, hF⟩ := hF
    refine y_iald (j := (Int32.toNatClampNeg l2)) (q := 22) dX11_digitsOf_21 (Or.inl g3) g4 rfl rfl ?_
    refine z_iadd (q := 23) dX11_digitsOf_22 rfl ?_
    refine z_nameI (fun v5 ev6 => ?_)
    have hF := hF v5 ev6
    refine z_istore_n (q := 24) (L' := [some (.ref l0), some (.int v5), some (.int l2)]) dX11_digitsOf_23 rfl (Nat.le_of_ble_eq_true rfl) rfl rfl rfl ?_
    refine z_iinc (q := 27) (v := (l2 + 1)) (L' := [some (.ref l0), some (.int v5), some (.int (l2 + 1))]) dX11_digitsOf_24 rfl rfl (Nat.le_of_ble_eq_true rfl) rfl rfl rfl ?_
    refine z_goto (q := 4) dX11_digitsOf_27 (by decide) ?_
    exact hF
set_option maxRecDepth 100000 in
set_option maxHeartbeats 4000000 in
theorem wX11_digitsOf {ψ : Int32 → ZH → Prop} {l0 : Nat} {h : ZH} (hF : Zt mX11_digitsOf (zPI ψ) 0 0 4 [some (.ref l0), some (.int 0), some (.int 0)] [] h) : ZcI mX11_digitsOf [.ref l0] h ψ := by
  refine Zc.intro (L := [some (.ref l0), none, none]) (show plainName RX11 = true by decide) rfl (Nat.le_of_ble_eq_true rfl) ?_
  show Zt _ _ 0 0 _ _ _ _
  refine z_iconst (q := 1) (v := 0) dX11_digitsOf_0 (by decide) rfl ?_
  refine z_istore_n (q := 2) (L' := [some (.ref l0), some (.int 0), none]) dX11_digitsOf_1 rfl (Nat.le_of_ble_eq_true rfl) rfl rfl rfl ?_
  refine z_iconst (q := 3) (v := 0) dX11_digitsOf_2 (by decide) rfl ?_
  refine z_istore_n (q := 4) (L' := [some (.ref l0), some (.int 0), some (.int 0)]) dX11_digitsOf_3 rfl (Nat.le_of_ble_eq_true rfl) rfl rfl rfl ?_
  exact hF
set_option maxRecDepth 100000 in
set_option maxHeartbeats 4000000 in
theorem wX11_nextPlan_7 {ψ : Int32 → ZH → Prop} {l0 : Nat} {l1 : Int32} {h : ZH} (hF : ((l1 < 0 → ψ 0 h) ∧ (¬ l1 < 0 → (zK h l0 = 12) ∧ ((zR h l0 7) ≠ 0) ∧ (zK h (zR h l0 7) = 21) ∧ (vp_in l1 (zN h (zR h l0 7))) ∧ (((zI h (zR h l0 7) (Int32.toNatClampNeg l1)) = 0 → ((zR h l0 45) ≠ 0) ∧ (zK h (zR h l0 45) = 20) ∧ (vp_in l1 (zN h (zR h l0 45))) ∧ Zt mX11_nextPlan (zPI ψ) 0 0 7 [some (.ref l0), some (.int (l1 + (-1)))] [] (zsI h (zR h l0 45) (Int32.toNatClampNeg l1) 0)) ∧ (¬ (zI h (zR h l0 7) (Int32.toNatClampNeg l1)) = 0 → ((zR h l0 45) ≠ 0) ∧ (zK h (zR h l0 45) = 20) ∧ (vp_in l1 (zN h (zR h l0 45))) ∧ ((zR h l0 18) ≠ 0) ∧ (zK h (zR h l0 18) = 20) ∧ (5 < zN h (zR h l0 18)) ∧ (((zI h (zR h l0 18) 5) ≤ (zI h (zR h l0 45) (Int32.toNatClampNeg l1)) → Zt mX11_nextPlan (zPI ψ) 0 0 7 [some (.ref l0), some (.int (l1 + (-1)))] [] (zsI h (zR h l0 45) (Int32.toNatClampNeg l1) 0)) ∧ (¬ (zI h (zR h l0 18) 5) ≤ (zI h (zR h l0 45) (Int32.toNatClampNeg l1)) → ψ 1 (zsI h (zR h l0 45) (Int32.toNatClampNeg l1) ((zI h (zR h l0 45) (Int32.toNatClampNeg l1)) + 1))))))))) : Zt mX11_nextPlan (zPI ψ) 0 0 7 [some (.ref l0), some (.int l1)] [] h := by
  refine z_iload_n (q := 8) dX11_nextPlan_7 rfl rfl rfl ?_
  refine z_if_lt (t := 60) (q := 11) dX11_nextPlan_8 (by decide) rfl (fun hc => ?_) (fun hc => ?_)
  · have hF := hF.1 hc
    refine z_iconst (q := 61) (v := 0) dX11_nextPlan_60 (by decide) rfl ?_
    exact z_zreturn dX11_nextPlan_61 rfl (by decide) ⟨_, rfl, hF⟩
  · have hF := hF.2 hc
    refine z_aload_n (q := 12) dX11_nextPlan_11 rfl rfl rfl ?_
    obtain ⟨g1, hF⟩ := hF
    obtain ⟨g2, hF⟩ := hF
    refine z_getR (c := 11) (k := 7) (r := (RX11, TX11, 54)) (q := 15) dX11_nextPlan_12 rfl (by decide) fl_X11_31 rfl g1 g2 rfl ?_
    refine z_iload_n (q := 16) dX11_nextPlan_15 rfl rfl rfl ?_
    obtain ⟨g3, hF⟩ := hF
    obtain ⟨g4, hF⟩ := hF
    refine y_bald (j := (Int32.toNatClampNeg l1)) (q := 17) dX11_nextPlan_16 g3 g4 rfl rfl ?_
    refine z_if_eq (t := 47) (q := 20) dX11_nextPlan_17 (by decide) rfl (fun hc => ?_) (fun hc => ?_)
    · have hF := hF.1 hc
      refine z_aload_n (q := 48) dX11_nextPlan_47 rfl rfl rfl ?_
      obtain ⟨g5, hF⟩ := hF
      refine z_getR (c := 11) (k := 45) (r := (RX11, TX11, 54)) (q := 51) dX11_nextPlan_48 rfl (by decide) fl_X11_117 rfl g1 g5 rfl ?_
      refine z_iload_n (q := 52) dX11_nextPlan_51 rfl rfl rfl ?_
      refine z_iconst (q := 53) (v := 0) dX11_nextPlan_52 (by decide) rfl ?_
      obtain ⟨g6, hF⟩ := hF
      obtain ⟨g7, hF⟩ := hF
      refine y_iast (j := (Int32.toNatClampNeg l1)) (q := 54) dX11_nextPlan_53 g6 g7 rfl rfl ?_
      refine z_iinc (q := 57) (v := (l1 + (-1))) (L' := [some (.ref l0), some (.int (l1 + (-1)))]) dX11_nextPlan_54 rfl rfl (Nat.le_of_ble_eq_true rfl) rfl rfl rfl ?_
      refine z_goto (q := 7) dX11_nextPlan_57 (by decide) ?_
      exact hF
    · have hF := hF.2 hc
      refine z_aload_n (q := 21) dX11_nextPlan_20 rfl rfl rfl ?_
      obtain ⟨g8, hF⟩ := hF
      refine z_getR (c := 11) (k := 45) (r := (RX11, TX11, 54)) (q := 24) dX11_nextPlan_21 rfl (by decide) fl_X11_117 rfl g1 g8 rfl ?_
      refine z_iload_n (q := 25) dX11_nextPlan_24 rfl rfl rfl ?_
      obtain ⟨g9, hF⟩ := hF
      obtain ⟨g10, hF⟩ := hF
      refine y_iald (j := (Int32.toNatClampNeg l1)) (q := 26) dX11_nextPlan_25 (Or.inl g9) g10 rfl rfl ?_
      refine z_aload_n (q := 27) dX11_nextPlan_26 rfl rfl rfl ?_
      obtain ⟨g11, hF⟩ := hF
      refine z_getR (c := 11) (k := 18) (r := (RX11, TX11, 54)) (q := 30) dX11_nextPlan_27 rfl (by decide) fl_X11_59 rfl g1 g11 rfl ?_
      refine z_iconst (q := 31) (v := 5) dX11_nextPlan_30 (by decide) rfl ?_
      obtain ⟨g12, hF⟩ := hF
      obtain ⟨g13, hF⟩ := hF
      refine y_iald (j := 5) (q := 32) dX11_nextPlan_31 (Or.inl g12) (zvin (by decide) (by decide) g13) (by decide) rfl ?_
      refine z_icmp_ge (t := 47) (q := 35) dX11_nextPlan_32 (by decide) rfl (fun hc => ?_) (fun hc => ?_)
      · have hF := hF.1 hc
        refine z_aload_n (q := 48) dX11_nextPlan_47 rfl rfl rfl ?_
        refine z_getR (c := 11) (k := 45) (r := (RX11, TX11, 54)) (q := 51) dX11_nextPlan_48 rfl (by decide) fl_X11_117 rfl g1 g8 rfl ?_
        refine z_iload_n (q := 52) dX11_nextPlan_51 rfl rfl rfl ?_
        refine z_iconst (q := 53) (v := 0) dX11_nextPlan_52 (by decide) rfl ?_
        refine y_iast (j := (Int32.toNatClampNeg l1)) (q := 54) dX11_nextPlan_53 g9 g10 rfl rfl ?_
        refine z_iinc (q := 57) (v := (l1 + (-1))) (L' := [some (.ref l0), some (.int (l1 + (-1)))]) dX11_nextPlan_54 rfl rfl (Nat.le_of_ble_eq_true rfl) rfl rfl rfl ?_
        refine z_goto (q := 7) dX11_nextPlan_57 (by decide) ?_
        exact hF
      · have hF := hF.2 hc
        refine z_aload_n (q := 36) dX11_nextPlan_35 rfl rfl rfl ?_
        refine z_getR (c := 11) (k := 45) (r := (RX11, TX11, 54)) (q := 39) dX11_nextPlan_36 rfl (by decide) fl_X11_117 rfl g1 g8 rfl ?_
        refine z_iload_n (q := 40) dX11_nextPlan_39 rfl rfl rfl ?_
        refine z_dup2 (q := 41) dX11_nextPlan_40 rfl rfl rfl ?_
        refine y_iald (j := (Int32.toNatClampNeg l1)) (q := 42) dX11_nextPlan_41 (Or.inl g9) g10 rfl rfl ?_
        refine z_iconst (q := 43) (v := 1) dX11_nextPlan_42 (by decide) rfl ?_
        refine z_iadd (q := 44) dX11_nextPlan_43 rfl ?_
        refine y_iast (j := (Int32.toNatClampNeg l1)) (q := 45) dX11_nextPlan_44 g9 g10 rfl rfl ?_
        refine z_iconst (q := 46) (v := 1) dX11_nextPlan_45 (by decide) rfl ?_
        exact z_zreturn dX11_nextPlan_46 rfl (by decide) ⟨_, rfl, hF⟩
set_option maxRecDepth 100000 in
set_option maxHeartbeats 4000000 in
theorem wX11_nextPlan {ψ : Int32 → ZH → Prop} {l0 : Nat} {h : ZH} (hF : (zK h l0 = 12) ∧ Zt mX11_nextPlan (zPI ψ) 0 0 7 [some (.ref l0), some (.int ((zI h l0 9) - 1))] [] h) : ZcI mX11_nextPlan [.ref l0] h ψ := by
  refine Zc.intro (L := [some (.ref l0), none]) (show plainName RX11 = true by decide) rfl (Nat.le_of_ble_eq_true rfl) ?_
  show Zt _ _ 0 0 _ _ _ _
  refine z_aload_n (q := 1) dX11_nextPlan_0 rfl rfl rfl ?_
  obtain ⟨g14, hF⟩ := hF
  refine z_getI (c := 11) (k := 9) (r := (RX11, TX11, 54)) (q := 4) dX11_nextPlan_1 rfl (by decide) fl_X11_144 rfl g14 rfl ?_
  refine z_iconst (q := 5) (v := 1) dX11_nextPlan_4 (by decide) rfl ?_
  refine z_isub (q := 6) dX11_nextPlan_5 rfl ?_
  refine z_istore_n (q := 7) (L' := [some (.ref l0), some (.int ((zI h l0 9) - 1))]) dX11_nextPlan_6 rfl (Nat.le_of_ble_eq_true rfl) rfl rfl rfl ?_
  exact hF
set_option maxRecDepth 100000 in
set_option maxHeartbeats 4000000 in
theorem wX11_vote_40 {ψ : Int32 → ZH → Prop} {l0 : Nat} {l1 : Int32} {l2 : Int32} {l3 : Int32} {l4 : Int32} {h : ZH} (hF : (zK h l0 = 12) ∧ (((zI h l0 17) ≤ l4 → ((¬ l2 = 0 → ZcI mX11_menAt [.ref l0, .int l1] h (fun x3 h2 => (((2 * l3) ≤ x3 → ψ 0 h2) ∧ (¬ (2 * l3) ≤ x3 → ψ 1 h2)))) ∧ (l2 = 0 → ψ l3 h))) ∧ (¬ (zI h l0 17) ≤ l4 → ((zR h l0 14) ≠ 0) ∧ (zK h (zR h l0 14) = 20) ∧ (vp_in l4 (zN h (zR h l0 14))) ∧ ((¬ (zI h (zR h l0 14) (Int32.toNatClampNeg l4)) = l1 → Zt mX11_vote (zPI ψ) 0 0 40 [some (.ref l0), some (.int l1), some (.int l2), some (.int (l3 + 0)), some (.int (l4 + 1))] [] h) ∧ ((zI h (zR h l0 14) (Int32.toNatClampNeg l4)) = l1 → ZcI mX11_isSo [.ref l0, .int 2, .int l4] h (fun x8 h7 => ((x8 = 0 → Zt mX11_vote (zPI ψ) 0 0 40 [some (.ref l0), some (.int l1), some (.int l2), some (.int (l3 + 0)), some (.int (l4 + 1))] [] h7) ∧ (¬ x8 = 0 → Zt mX11_vote (zPI ψ) 0 0 40 [some (.ref l0), some (.int l1), some (.int l2), some (.int (l3 + 1)), some (.int (l4 + 1))] [] h7)))))))) : Zt mX11_vote (zPI ψ) 0 0 40 [some (.ref l0), some (.int l1), some (.int l2), some (.int l3), some (.int l4)] [] h := by
  refine z_iload (q := 42) dX11_vote_40 rfl rfl ?_
  refine z_aload_n (q := 43) dX11_vote_42 rfl rfl rfl ?_
  obtain ⟨g1, hF⟩ := hF
  refine z_getI (c := 11) (k := 17) (r := (RX11, TX11, 54)) (q := 46) dX11_vote_43 rfl (by decide) fl_X11_166 rfl g1 rfl ?_
  refine z_icmp_ge (t := 84) (q := 49) dX11_vote_46 (by decide) rfl (fun hc => ?_) (fun hc => ?_)
  · have hF := hF.1 hc
    refine z_iload_n (q := 85) dX11_vote_84 rfl rfl rfl ?_
    refine z_if_ne (t := 92) (q := 88) dX11_vote_85 (by decide) rfl (fun hc => ?_) (fun hc => ?_)
    · have hF := hF.1 hc
      refine z_iconst (q := 93) (v := 2) dX11_vote_92 (by decide) rfl ?_
      refine z_iload_n (q := 94) dX11_vote_93 rfl rfl rfl ?_
      refine z_imul (q := 95) dX11_vote_94 rfl ?_
      refine z_aload_n (q := 96) dX11_vote_95 rfl rfl rfl ?_
      refine z_iload_n (q := 97) dX11_vote_96 rfl rfl rfl ?_
      refine z_callVI (rc := 0) (rs := 0) (b := l0) (av := [.int l1]) (ci := 11) (r := (RX11, TX11, 54)) (q := 100) hF dX11_vote_97 ml_X11_172 ok_X11_menAt in_X11_menAt se_X11_menAt rfl rfl g1 rfl (Nat.le_of_ble_eq_true rfl) (by decide) (Nat.le_of_ble_eq_true rfl) rfl rfl rfl rfl (fun x3 h2 hF => ?_)
      refine z_icmp_le (t := 107) (q := 103) dX11_vote_100 (by decide) rfl (fun hc => ?_) (fun hc => ?_)
      · have hF := hF.1 hc
        refine z_iconst (q := 108) (v := 0) dX11_vote_107 (by decide) rfl ?_
        exact z_ireturn dX11_vote_108 rfl ⟨_, rfl, hF⟩
      · have hF := hF.2 hc
        refine z_iconst (q := 104) (v := 1) dX11_vote_103 (by decide) rfl ?_
        refine z_goto (q := 108) dX11_vote_104 (by decide) ?_
        exact z_ireturn dX11_vote_108 rfl ⟨_, rfl, hF⟩
    · have hF := hF.2 hc
      refine z_iload_n (q := 89) dX11_vote_88 rfl rfl rfl ?_
      refine z_goto (q := 108) dX11_vote_89 (by decide) ?_
      exact z_ireturn dX11_vote_108 rfl ⟨_, rfl, hF⟩
  · have hF := hF.2 hc
    refine z_iload_n (q := 50) dX11_vote_49 rfl rfl rfl ?_
    refine z_aload_n (q := 51) dX11_vote_50 rfl rfl rfl ?_
    obtain ⟨g4, hF⟩ := hF
    refine z_getR (c := 11) (k := 14) (r := (RX11, TX11, 54)) (q := 54) dX11_vote_51 rfl (by decide) fl_X11_50 rfl g1 g4 rfl ?_
    refine z_iload (q := 56) dX11_vote_54 rfl rfl ?_
    obtain ⟨g5, hF⟩ := hF
    obtain ⟨g6, hF⟩ := hF
    refine y_iald (j := (Int32.toNatClampNeg l4)) (q := 57) dX11_vote_56 (Or.inl g5) g6 rfl rfl ?_
    refine z_iload_n (q := 58) dX11_vote_57 rfl rfl rfl ?_
    refine z_icmp_ne (t := 75) (q := 61) dX11_vote_58 (by decide) rfl (fun hc => ?_) (fun hc => ?_)
    · have hF := hF.1 hc
      refine z_iconst (q := 76) (v := 0) dX11_vote_75 (by decide) rfl ?_
      refine z_iadd (q := 77) dX11_vote_76 rfl ?_
      refine z_istore_n (q := 78) (L' := [some (.ref l0), some (.int l1), some (.int l2), some (.int (l3 + 0)), some (.int l4)]) dX11_vote_77 rfl (Nat.le_of_ble_eq_true rfl) rfl rfl rfl ?_
      refine z_iinc (q := 81) (v := (l4 + 1)) (L' := [some (.ref l0), some (.int l1), some (.int l2), some (.int (l3 + 0)), some (.int (l4 + 1))]) dX11_vote_78 rfl rfl (Nat.le_of_ble_eq_true rfl) rfl rfl rfl ?_
      refine z_goto (q := 40) dX11_vote_81 (by decide) ?_
      exact hF
    · have hF := hF.2 hc
      refine z_aload_n (q := 62) dX11_vote_61 rfl rfl rfl ?_
      refine z_iconst (q := 63) (v := 2) dX11_vote_62 (by decide) rfl ?_
      refine z_iload (q := 65) dX11_vote_63 rfl rfl ?_
      refine z_callVI (rc := 0) (rs := 0) (b := l0) (av := [.int 2, .int l4]) (ci := 11) (r := (RX11, TX11, 54)) (q := 68) hF dX11_vote_65 ml_X11_261 ok_X11_isSo in_X11_isSo se_X11_isSo rfl rfl g1 rfl (Nat.le_of_ble_eq_true rfl) (by decide) (Nat.le_of_ble_eq_true rfl) rfl rfl rfl rfl (fun x8 h7 hF => ?_)
      refine z_if_eq (t := 75) (q := 71) dX11_vote_68 (by decide) rfl (fun hc => ?_) (fun hc => ?_)
      · have hF := hF.1 hc
        refine z_iconst (q := 76) (v := 0) dX11_vote_75 (by decide) rfl ?_
        refine z_iadd (q := 77) dX11_vote_76 rfl ?_
        refine z_istore_n (q := 78) (L' := [some (.ref l0), some (.int l1), some (.int l2), some (.int (l3 + 0)), some (.int l4)]) dX11_vote_77 rfl (Nat.le_of_ble_eq_true rfl) rfl rfl rfl ?_
        refine z_iinc (q := 81) (v := (l4 + 1)) (L' := [some (.ref l0), some (.int l1), some (.int l2), some (.int (l3 + 0)), some (.int (l4 + 1))]) dX11_vote_78 rfl rfl (Nat.le_of_ble_eq_true rfl) rfl rfl rfl ?_
        refine z_goto (q := 40) dX11_vote_81 (by decide) ?_
        exact hF
      · have hF := hF.2 hc
        refine z_iconst (q := 72) (v := 1) dX11_vote_71 (by decide) rfl ?_
        refine z_goto (q := 76) dX11_vote_72 (by decide) ?_
        refine z_iadd (q := 77) dX11_vote_76 rfl ?_
        refine z_istore_n (q := 78) (L' := [some (.ref l0), some (.int l1), some (.int l2), some (.int (l3 + 1)), some (.int l4)]) dX11_vote_77 rfl (Nat.le_of_ble_eq_true rfl) rfl rfl rfl ?_
        refine z_iinc (q := 81) (v := (l4 + 1)) (L' := [some (.ref l0), some (.int l1), some (.int l2), some (.int (l3 + 1)), some (.int (l4 + 1))]) dX11_vote_78 rfl rfl (Nat.le_of_ble_eq_true rfl) rfl rfl rfl ?_
        refine z_goto (q := 40) dX11_vote_81 (by decide) ?_
        exact hF
set_option maxRecDepth 100000 in
set_option maxHeartbeats 4000000 in
theorem wX11_vote {ψ : Int32 → ZH → Prop} {l0 : Nat} {l1 : Int32} {l2 : Int32} {h : ZH} (hF : (zK h l0 = 12) ∧ ZcI mX11_isPit [.ref l0, .int l1] h (fun x11 h9 => ((¬ x11 = 0 → ZcI mX11_in [.long (Int32.toInt64 l2), .long 0, .long 1] h9 (fun x13 h12 => ((¬ x13 = 0 → (zK h12 l0 = 12) ∧ ((zR h12 l0 7) ≠ 0) ∧ (zK h12 (zR h12 l0 7) = 21) ∧ (vp_in l1 (zN h12 (zR h12 l0 7))) ∧ ((¬ (zI h12 (zR h12 l0 7) (Int32.toNatClampNeg l1)) = 0 → Zt mX11_vote (zPI ψ) 0 0 40 [some (.ref l0), some (.int l1), some (.int l2), some (.int 0), some (.int 0)] [] h12) ∧ ((zI h12 (zR h12 l0 7) (Int32.toNatClampNeg l1)) = 0 → ψ (-3) h12))) ∧ (x13 = 0 → ψ (-2) h12)))) ∧ (x11 = 0 → ψ (-1) h9)))) : ZcI mX11_vote [.ref l0, .int l1, .int l2] h ψ := by
  refine Zc.intro (L := [some (.ref l0), some (.int l1), some (.int l2), none, none]) (show plainName RX11 = true by decide) rfl (Nat.le_of_ble_eq_true rfl) ?_
  show Zt _ _ 0 0 _ _ _ _
  refine z_aload_n (q := 1) dX11_vote_0 rfl rfl rfl ?_
  refine z_iload_n (q := 2) dX11_vote_1 rfl rfl rfl ?_
  obtain ⟨g10, hF⟩ := hF
  refine z_callVI (rc := 0) (rs := 0) (b := l0) (av := [.int l1]) (ci := 11) (r := (RX11, TX11, 54)) (q := 5) hF dX11_vote_2 ml_X11_169 ok_X11_isPit in_X11_isPit se_X11_isPit rfl rfl g10 rfl (Nat.le_of_ble_eq_true rfl) (by decide) (Nat.le_of_ble_eq_true rfl) rfl rfl rfl rfl (fun x11 h9 hF => ?_)
  refine z_if_ne (t := 10) (q := 8) dX11_vote_5 (by decide) rfl (fun hc => ?_) (fun hc => ?_)
  · have hF := hF.1 hc
    refine z_iload_n (q := 11) dX11_vote_10 rfl rfl rfl ?_
    refine z_i2l (q := 12) dX11_vote_11 rfl ?_
    refine z_lconst (q := 13) (v := 0) dX11_vote_12 (by decide) rfl ?_
    refine z_lconst (q := 14) (v := 1) dX11_vote_13 (by decide) rfl ?_
    refine z_callSI (rc := 0) (rs := 0) (av := [.long (Int32.toInt64 l2), .long 0, .long 1]) (q := 17) hF dX11_vote_14 ml_X11_140 ok_X11_in st_X11_in rfl (Nat.le_of_ble_eq_true rfl) (by decide) (Nat.le_of_ble_eq_true rfl) rfl rfl rfl rfl (fun x13 h12 hF => ?_)
    refine z_if_ne (t := 23) (q := 20) dX11_vote_17 (by decide) rfl (fun hc => ?_) (fun hc => ?_)
    · have hF := hF.1 hc
      refine z_aload_n (q := 24) dX11_vote_23 rfl rfl rfl ?_
      obtain ⟨g14, hF⟩ := hF
      obtain ⟨g15, hF⟩ := hF
      refine z_getR (c := 11) (k := 7) (r := (RX11, TX11, 54)) (q := 27) dX11_vote_24 rfl (by decide) fl_X11_31 rfl g14 g15 rfl ?_
      refine z_iload_n (q := 28) dX11_vote_27 rfl rfl rfl ?_
      obtain ⟨g16, hF⟩ := hF
      obtain ⟨g17, hF⟩ := hF
      refine y_bald (j := (Int32.toNatClampNeg l1)) (q := 29) dX11_vote_28 g16 g17 rfl rfl ?_
      refine z_if_ne (t := 35) (q := 32) dX11_vote_29 (by decide) rfl (fun hc => ?_) (fun hc => ?_)
      · have hF := hF.1 hc
        refine z_iconst (q := 36) (v := 0) dX11_vote_35 (by decide) rfl ?_
        refine z_istore_n (q := 37) (L' := [some (.ref l0), some (.int l1), some (.int l2), some (.int 0), none]) dX11_vote_36 rfl (Nat.le_of_ble_eq_true rfl) rfl rfl rfl ?_
        refine z_iconst (q := 38) (v := 0) dX11_vote_37 (by decide) rfl ?_
        refine z_istore (q := 40) (L' := [some (.ref l0), some (.int l1), some (.int l2), some (.int 0), some (.int 0)]) dX11_vote_38 (Nat.le_of_ble_eq_true rfl) rfl rfl rfl ?_
        exact hF
      · have hF := hF.2 hc
        refine z_bipush (q := 34) (v := (-3)) dX11_vote_32 (by decide) rfl ?_
        exact z_ireturn dX11_vote_34 rfl ⟨_, rfl, hF⟩
    · have hF := hF.2 hc
      refine z_bipush (q := 22) (v := (-2)) dX11_vote_20 (by decide) rfl ?_
      exact z_ireturn dX11_vote_22 rfl ⟨_, rfl, hF⟩
  · have hF := hF.2 hc
    refine z_iconst (q := 9) (v := (-1)) dX11_vote_8 (by decide) rfl ?_
    exact z_ireturn dX11_vote_9 rfl ⟨_, rfl, hF⟩
set_option maxRecDepth 100000 in
set_option maxHeartbeats 4000000 in
theorem wX11_worked {ψ : Int32 → ZH → Prop} {l0 : Nat} {l1 : Int32} {l2 : Int32} {l3 : Int32} {h : ZH} (hF : (zK h l0 = 12) ∧ ZcI mX11_isPit [.ref l0, .int l1] h (fun x3 h1 => ((¬ x3 = 0 → ZcI mX11_in [.long (Int32.toInt64 l2), .long 0, .long (Int32.toInt64 l3)] h1 (fun x5 h4 => ((x5 = 0 → ψ (-2) h4) ∧ (¬ x5 = 0 → ZcI mX11_in [.long (Int32.toInt64 l3), .long 0, .long 99] h4 (fun x7 h6 => ((¬ x7 = 0 → (zK h6 l0 = 12) ∧ ((zR h6 l0 47) ≠ 0) ∧ (zK h6 (zR h6 l0 47) = 20) ∧ (vp_in l1 (zN h6 (zR h6 l0 47))) ∧ ((zR h6 l0 48) ≠ 0) ∧ (zK h6 (zR h6 l0 48) = 20) ∧ (vp_in l1 (zN h6 (zR h6 l0 48))) ∧ ψ 1 (zsI (zsI h6 (zR h6 l0 47) (Int32.toNatClampNeg l1) l2) (zR h6 l0 48) (Int32.toNatClampNeg l1) l3)) ∧ (x7 = 0 → ψ (-2) h6))))))) ∧ (x3 = 0 → ψ (-1) h1)))) : ZcI mX11_worked [.ref l0, .int l1, .int l2, .int l3] h ψ := by
  refine Zc.intro (L := [some (.ref l0), some (.int l1), some (.int l2), some (.int l3)]) (show plainName RX11 = true by decide) rfl (Nat.le_of_ble_eq_true rfl) ?_
  show Zt _ _ 0 0 _ _ _ _
  refine z_aload_n (q := 1) dX11_worked_0 rfl rfl rfl ?_
  refine z_iload_n (q := 2) dX11_worked_1 rfl rfl rfl ?_
  obtain ⟨g2, hF⟩ := hF
  refine z_callVI (rc := 0) (rs := 0) (b := l0) (av := [.int l1]) (ci := 11) (r := (RX11, TX11, 54)) (q := 5) hF dX11_worked_2 ml_X11_169 ok_X11_isPit in_X11_isPit se_X11_isPit rfl rfl g2 rfl (Nat.le_of_ble_eq_true rfl) (by decide) (Nat.le_of_ble_eq_true rfl) rfl rfl rfl rfl (fun x3 h1 hF => ?_)
  refine z_if_ne (t := 10) (q := 8) dX11_worked_5 (by decide) rfl (fun hc => ?_) (fun hc => ?_)
  · have hF := hF.1 hc
    refine z_iload_n (q := 11) dX11_worked_10 rfl rfl rfl ?_
    refine z_i2l (q := 12) dX11_worked_11 rfl ?_
    refine z_lconst (q := 13) (v := 0) dX11_worked_12 (by decide) rfl ?_
    refine z_iload_n (q := 14) dX11_worked_13 rfl rfl rfl ?_
    refine z_i2l (q := 15) dX11_worked_14 rfl ?_
    refine z_callSI (rc := 0) (rs := 0) (av := [.long (Int32.toInt64 l2), .long 0, .long (Int32.toInt64 l3)]) (q := 18) hF dX11_worked_15 ml_X11_140 ok_X11_in st_X11_in rfl (Nat.le_of_ble_eq_true rfl) (by decide) (Nat.le_of_ble_eq_true rfl) rfl rfl rfl rfl (fun x5 h4 hF => ?_)
    refine z_if_eq (t := 33) (q := 21) dX11_worked_18 (by decide) rfl (fun hc => ?_) (fun hc => ?_)
    · have hF := hF.1 hc
      refine z_bipush (q := 35) (v := (-2)) dX11_worked_33 (by decide) rfl ?_
      exact z_ireturn dX11_worked_35 rfl ⟨_, rfl, hF⟩
    · have hF := hF.2 hc
      refine z_iload_n (q := 22) dX11_worked_21 rfl rfl rfl ?_
      refine z_i2l (q := 23) dX11_worked_22 rfl ?_
      refine z_lconst (q := 24) (v := 0) dX11_worked_23 (by decide) rfl ?_
      refine z_ldc2 (q := 27) (v := 99) dX11_worked_24 cw_X11_148 rfl ?_
      refine z_callSI (rc := 0) (rs := 0) (av := [.long (Int32.toInt64 l3), .long 0, .long 99]) (q := 30) hF dX11_worked_27 ml_X11_140 ok_X11_in st_X11_in rfl (Nat.le_of_ble_eq_true rfl) (by decide) (Nat.le_of_ble_eq_true rfl) rfl rfl rfl rfl (fun x7 h6 hF => ?_)
      refine z_if_ne (t := 36) (q := 33) dX11_worked_30 (by decide) rfl (fun hc => ?_) (fun hc => ?_)
      · have hF := hF.1 hc
        refine z_aload_n (q := 37) dX11_worked_36 rfl rfl rfl ?_
        obtain ⟨g8, hF⟩ := hF
        obtain ⟨g9, hF⟩ := hF
        refine z_getR (c := 11) (k := 47) (r := (RX11, TX11, 54)) (q := 40) dX11_worked_37 rfl (by decide) fl_X11_120 rfl g8 g9 rfl ?_
        refine z_iload_n (q := 41) dX11_worked_40 rfl rfl rfl ?_
        refine z_iload_n (q := 42) dX11_worked_41 rfl rfl rfl ?_
        obtain ⟨g10, hF⟩ := hF
        obtain ⟨g11, hF⟩ := hF
        refine y_iast (j := (Int32.toNatClampNeg l1)) (q := 43) dX11_worked_42 g10 g11 rfl rfl ?_
        refine z_aload_n (q := 44) dX11_worked_43 rfl rfl rfl ?_
        obtain ⟨g12, hF⟩ := hF
        refine z_getR (c := 11) (k := 48) (r := (RX11, TX11, 54)) (q := 47) dX11_worked_44 rfl (by decide) fl_X11_123 rfl g8 g12 rfl ?_
        refine z_iload_n (q := 48) dX11_worked_47 rfl rfl rfl ?_
        refine z_iload_n (q := 49) dX11_worked_48 rfl rfl rfl ?_
        obtain ⟨g13, hF⟩ := hF
        obtain ⟨g14, hF⟩ := hF
        refine y_iast (j := (Int32.toNatClampNeg l1)) (q := 50) dX11_worked_49 g13 g14 rfl rfl ?_
        refine z_iconst (q := 51) (v := 1) dX11_worked_50 (by decide) rfl ?_
        exact z_ireturn dX11_worked_51 rfl ⟨_, rfl, hF⟩
      · have hF := hF.2 hc
        refine z_bipush (q := 35) (v := (-2)) dX11_worked_33 (by decide) rfl ?_
        exact z_ireturn dX11_worked_35 rfl ⟨_, rfl, hF⟩
  · have hF := hF.2 hc
    refine z_iconst (q := 9) (v := (-1)) dX11_worked_8 (by decide) rfl ?_
    exact z_ireturn dX11_worked_9 rfl ⟨_, rfl, hF⟩
set_option maxRecDepth 100000 in
set_option maxHeartbeats 4000000 in
theorem wX11_harm {ψ : Int32 → ZH → Prop} {l0 : Nat} {l1 : Int32} {l2 : Int32} {l3 : Int32} {l4 : Int32} {h : ZH} (hF : ZcI mX11_isPlace [.int l1, .int l2] h (fun x2 h1 => ((x2 = 0 → ψ (-2) h1) ∧ (¬ x2 = 0 → ZcI mX11_in [.long (Int32.toInt64 l3), .long 0, .long 99] h1 (fun x4 h3 => ((x4 = 0 → ψ (-2) h3) ∧ (¬ x4 = 0 → ZcI mX11_in [.long (Int32.toInt64 l4), .long 0, .long 100000] h3 (fun x6 h5 => ((¬ x6 = 0 → (zK h5 l0 = 12) ∧ ((¬ (zI h5 l0 53) = 10 → ((zR h5 l0 49) ≠ 0) ∧ (zK h5 (zR h5 l0 49) = 20) ∧ (vp_in (zI h5 l0 53) (zN h5 (zR h5 l0 49))) ∧ ((zR h5 l0 50) ≠ 0) ∧ ∀ h12 : ZH, h12 = (zsI h5 (zR h5 l0 49) (Int32.toNatClampNeg (zI h5 l0 53)) l1) → (zK h12 l0 = 12) ∧ (zK h12 (zR h5 l0 50) = 20) ∧ (vp_in (zI h12 l0 53) (zN h12 (zR h5 l0 50))) ∧ ((zR h12 l0 51) ≠ 0) ∧ ∀ h18 : ZH, h18 = (zsI h12 (zR h5 l0 50) (Int32.toNatClampNeg (zI h12 l0 53)) l2) → (zK h18 l0 = 12) ∧ (zK h18 (zR h12 l0 51) = 20) ∧ (vp_in (zI h18 l0 53) (zN h18 (zR h12 l0 51))) ∧ ((zR h18 l0 52) ≠ 0) ∧ ∀ h24 : ZH, h24 = (zsI h18 (zR h12 l0 51) (Int32.toNatClampNeg (zI h18 l0 53)) l3) → (zK h24 l0 = 12) ∧ (zK h24 (zR h18 l0 52) = 20) ∧ (vp_in (zI h24 l0 53) (zN h24 (zR h18 l0 52))) ∧ ∀ h29 : ZH, h29 = (zsI h24 (zR h18 l0 52) (Int32.toNatClampNeg (zI h24 l0 53)) l4) → (zK h29 l0 = 12) ∧ ∀ h32 : ZH, h32 = (zsI h29 l0 53 ((zI h29 l0 53) + 1)) → (zK h32 l0 = 12) ∧ ψ ((zI h32 l0 53) - 1) h32) ∧ ((zI h5 l0 53) = 10 → ψ (-4) h5))) ∧ (x6 = 0 → ψ (-2) h5)))))))))) : ZcI mX11_harm [.ref l0, .int l1, .int l2, .int l3, .int l4] h ψ := by
  refine Zc.intro (L := [some (.ref l0), some (.int l1), some (.int l2), some (.int l3), some (.int l4)]) (show plainName RX11 = true by decide) rfl (Nat.le_of_ble_eq_true rfl) ?_
  show Zt _ _ 0 0 _ _ _ _
  refine z_iload_n (q := 1) dX11_harm_0 rfl rfl rfl ?_
  refine z_iload_n (q := 2) dX11_harm_1 rfl rfl rfl ?_
  refine z_callSI (rc := 0) (rs := 0) (av := [.int l1, .int l2]) (q := 5) hF dX11_harm_2 ml_X11_154 ok_X11_isPlace st_X11_isPlace rfl (Nat.le_of_ble_eq_true rfl) (by decide) (Nat.le_of_ble_eq_true rfl) rfl rfl rfl rfl (fun x2 h1 hF => ?_)
  refine z_if_eq (t := 33) (q := 8) dX11_harm_5 (by decide) rfl (fun hc => ?_) (fun hc => ?_)
  · have hF := hF.1 hc
    refine z_bipush (q := 35) (v := (-2)) dX11_harm_33 (by decide) rfl ?_
    exact z_ireturn dX11_harm_35 rfl ⟨_, rfl, hF⟩
  · have hF := hF.2 hc
    refine z_iload_n (q := 9) dX11_harm_8 rfl rfl rfl ?_
    refine z_i2l (q := 10) dX11_harm_9 rfl ?_
    refine z_lconst (q := 11) (v := 0) dX11_harm_10 (by decide) rfl ?_
    refine z_ldc2 (q := 14) (v := 99) dX11_harm_11 cw_X11_148 rfl ?_
    refine z_callSI (rc := 0) (rs := 0) (av := [.long (Int32.toInt64 l3), .long 0, .long 99]) (q := 17) hF dX11_harm_14 ml_X11_140 ok_X11_in st_X11_in rfl (Nat.le_of_ble_eq_true rfl) (by decide) (Nat.le_of_ble_eq_true rfl) rfl rfl rfl rfl (fun x4 h3 hF => ?_)
    refine z_if_eq (t := 33) (q := 20) dX11_harm_17 (by decide) rfl (fun hc => ?_) (fun hc => ?_)
    · have hF := hF.1 hc
      refine z_bipush (q := 35) (v := (-2)) dX11_harm_33 (by decide) rfl ?_
      exact z_ireturn dX11_harm_35 rfl ⟨_, rfl, hF⟩
    · have hF := hF.2 hc
      refine z_iload (q := 22) dX11_harm_20 rfl rfl ?_
      refine z_i2l (q := 23) dX11_harm_22 rfl ?_
      refine z_lconst (q := 24) (v := 0) dX11_harm_23 (by decide) rfl ?_
      refine z_ldc2 (q := 27) (v := 100000) dX11_harm_24 cw_X11_341 rfl ?_
      refine z_callSI (rc := 0) (rs := 0) (av := [.long (Int32.toInt64 l4), .long 0, .long 100000]) (q := 30) hF dX11_harm_27 ml_X11_140 ok_X11_in st_X11_in rfl (Nat.le_of_ble_eq_true rfl) (by decide) (Nat.le_of_ble_eq_true rfl) rfl rfl rfl rfl (fun x6 h5 hF => ?_)
      refine z_if_ne (t := 36) (q := 33) dX11_harm_30 (by decide) rfl (fun hc => ?_) (fun hc => ?_)
      · have hF := hF.1 hc
        refine z_aload_n (q := 37) dX11_harm_36 rfl rfl rfl ?_
        obtain ⟨g7, hF⟩ := hF
        refine z_getI (c := 11) (k := 53) (r := (RX11, TX11, 54)) (q := 40) dX11_harm_37 rfl (by decide) fl_X11_343 rfl g7 rfl ?_
        refine z_bipush (q := 42) (v := 10) dX11_harm_40 (by decide) rfl ?_
        refine z_icmp_ne (t := 48) (q := 45) dX11_harm_42 (by decide) rfl (fun hc => ?_) (fun hc => ?_)
        · have hF := hF.1 hc
          refine z_aload_n (q := 49) dX11_harm_48 rfl rfl rfl ?_
          obtain ⟨g8, hF⟩ := hF
          refine z_getR (c := 11) (k := 49) (r := (RX11, TX11, 54)) (q := 52) dX11_harm_49 rfl (by decide) fl_X11_126 rfl g7 g8 rfl ?_
          refine z_aload_n (q := 53) dX11_harm_52 rfl rfl rfl ?_
          refine z_getI (c := 11) (k := 53) (r := (RX11, TX11, 54)) (q := 56) dX11_harm_53 rfl (by decide) fl_X11_343 rfl g7 rfl ?_
          refine z_iload_n (q := 57) dX11_harm_56 rfl rfl rfl ?_
          obtain ⟨g9, hF⟩ := hF
          obtain ⟨g10, hF⟩ := hF
          refine y_iast (j := (Int32.toNatClampNeg (zI h5 l0 53))) (q := 58) dX11_harm_57 g9 g10 rfl rfl ?_
          refine z_aload_n (q := 59) dX11_harm_58 rfl rfl rfl ?_
          obtain ⟨g11, hF⟩ := hF
          refine z_getR (c := 11) (k := 50) (r := (RX11, TX11, 54)) (q := 62) dX11_harm_59 rfl (by decide) fl_X11_129 rfl g7 g11 rfl ?_
          refine z_aload_n (q := 63) dX11_harm_62 rfl rfl rfl ?_
          refine z_nameH (fun h12 eh13 => ?_)
          have hF := hF h12 eh13
          obtain ⟨g14, hF⟩ := hF
          refine z_getI (c := 11) (k := 53) (r := (RX11, TX11, 54)) (q := 66) dX11_harm_63 rfl (by decide) fl_X11_343 rfl g14 rfl ?_
          refine z_iload_n (q := 67) dX11_harm_66 rfl rfl rfl ?_
          obtain ⟨g15, hF⟩ := hF
          obtain ⟨g16, hF⟩ := hF
          refine y_iast (j := (Int32.toNatClampNeg (zI h12 l0 53))) (q := 68) dX11_harm_67 g15 g16 rfl rfl ?_
          refine z_aload_n (q := 69) dX11_harm_68 rfl rfl rfl ?_
          obtain ⟨g17, hF⟩ := hF
          refine z_getR (c := 11) (k := 51) (r := (RX11, TX11, 54)) (q := 72) dX11_harm_69 rfl (by decide) fl_X11_132 rfl g14 g17 rfl ?_
          refine z_aload_n (q := 73) dX11_harm_72 rfl rfl rfl ?_
          refine z_nameH (fun h18 eh19 => ?_)
          have hF := hF h18 eh19
          obtain ⟨g20, hF⟩ := hF
          refine z_getI (c := 11) (k := 53) (r := (RX11, TX11, 54)) (q := 76) dX11_harm_73 rfl (by decide) fl_X11_343 rfl g20 rfl ?_
          refine z_iload_n (q := 77) dX11_harm_76 rfl rfl rfl ?_
          obtain ⟨g21, hF⟩ := hF
          obtain ⟨g22, hF⟩ := hF
          refine y_iast (j := (Int32.toNatClampNeg (zI h18 l0 53))) (q := 78) dX11_harm_77 g21 g22 rfl rfl ?_
          refine z_aload_n (q := 79) dX11_harm_78 rfl rfl rfl ?_
          obtain ⟨g23, hF⟩ := hF
          refine z_getR (c := 11) (k := 52) (r := (RX11, TX11, 54)) (q := 82) dX11_harm_79 rfl (by decide) fl_X11_135 rfl g20 g23 rfl ?_
          refine z_aload_n (q := 83) dX11_harm_82 rfl rfl rfl ?_
          refine z_nameH (fun h24 eh25 => ?_)
          have hF := hF h24 eh25
          obtain ⟨g26, hF⟩ := hF
          refine z_getI (c := 11) (k := 53) (r := (RX11, TX11, 54)) (q := 86) dX11_harm_83 rfl (by decide) fl_X11_343 rfl g26 rfl ?_
          refine z_iload (q := 88) dX11_harm_86 rfl rfl ?_
          obtain ⟨g27, hF⟩ := hF
          obtain ⟨g28, hF⟩ := hF
          refine y_iast (j := (Int32.toNatClampNeg (zI h24 l0 53))) (q := 89) dX11_harm_88 g27 g28 rfl rfl ?_
          refine z_aload_n (q := 90) dX11_harm_89 rfl rfl rfl ?_
          refine z_dup (q := 91) dX11_harm_90 rfl rfl ?_
          refine z_nameH (fun h29 eh30 => ?_)
          have hF := hF h29 eh30
          obtain ⟨g31, hF⟩ := hF
          refine z_getI (c := 11) (k := 53) (r := (RX11, TX11, 54)) (q := 94) dX11_harm_91 rfl (by decide) fl_X11_343 rfl g31 rfl ?_
          refine z_iconst (q := 95) (v := 1) dX11_harm_94 (by decide) rfl ?_
          refine z_iadd (q := 96) dX11_harm_95 rfl ?_
          refine z_putI (c := 11) (k := 53) (r := (RX11, TX11, 54)) (q := 99) dX11_harm_96 rfl (by decide) fl_X11_343 rfl rfl g31 rfl ?_
          refine z_aload_n (q := 100) dX11_harm_99 rfl rfl rfl ?_
          refine z_nameH (fun h32 eh33 => ?_)
          have hF := hF h32 eh33
          obtain ⟨g34, hF⟩ := hF
          refine z_getI (c := 11) (k := 53) (r := (RX11, TX11, 54)) (q := 103) dX11_harm_100 rfl (by decide) fl_X11_343 rfl g34 rfl ?_
          refine z_iconst (q := 104) (v := 1) dX11_harm_103 (by decide) rfl ?_
          refine z_isub (q := 105) dX11_harm_104 rfl ?_
          exact z_ireturn dX11_harm_105 rfl ⟨_, rfl, hF⟩
        · have hF := hF.2 hc
          refine z_bipush (q := 47) (v := (-4)) dX11_harm_45 (by decide) rfl ?_
          exact z_ireturn dX11_harm_47 rfl ⟨_, rfl, hF⟩
      · have hF := hF.2 hc
        refine z_bipush (q := 35) (v := (-2)) dX11_harm_33 (by decide) rfl ?_
        exact z_ireturn dX11_harm_35 rfl ⟨_, rfl, hF⟩
set_option maxRecDepth 100000 in
set_option maxHeartbeats 4000000 in
theorem wX11_canBe {ψ : Int32 → ZH → Prop} {l0 : Nat} {l1 : Int32} {l2 : Int32} {h : ZH} (hF : (zK h l0 = 12) ∧ ((zR h l0 49) ≠ 0) ∧ (zK h (zR h l0 49) = 20) ∧ (vp_in l2 (zN h (zR h l0 49))) ∧ ((zR h l0 2) ≠ 0) ∧ (zK h (zR h l0 2) = 20) ∧ (vp_in l1 (zN h (zR h l0 2))) ∧ ZcI mX11_size [.int ((zI h (zR h l0 49) (Int32.toNatClampNeg l2)) - (zI h (zR h l0 2) (Int32.toNatClampNeg l1)))] h (fun x9 h8 => (zK h8 l0 = 12) ∧ ((zR h8 l0 50) ≠ 0) ∧ (zK h8 (zR h8 l0 50) = 20) ∧ (vp_in l2 (zN h8 (zR h8 l0 50))) ∧ ((zR h8 l0 3) ≠ 0) ∧ (zK h8 (zR h8 l0 3) = 20) ∧ (vp_in l1 (zN h8 (zR h8 l0 3))) ∧ ZcI mX11_size [.int ((zI h8 (zR h8 l0 50) (Int32.toNatClampNeg l2)) - (zI h8 (zR h8 l0 3) (Int32.toNatClampNeg l1)))] h8 (fun x18 h17 => (zK h17 l0 = 12) ∧ ((zR h17 l0 47) ≠ 0) ∧ (zK h17 (zR h17 l0 47) = 20) ∧ (vp_in l1 (zN h17 (zR h17 l0 47))) ∧ ((zR h17 l0 51) ≠ 0) ∧ (zK h17 (zR h17 l0 51) = 20) ∧ (vp_in l2 (zN h17 (zR h17 l0 51))) ∧ (((zI h17 (zR h17 l0 51) (Int32.toNatClampNeg l2)) < (zI h17 (zR h17 l0 47) (Int32.toNatClampNeg l1)) → ((zR h17 l0 6) ≠ 0) ∧ (zK h17 (zR h17 l0 6) = 20) ∧ (vp_in l1 (zN h17 (zR h17 l0 6))) ∧ (((((zI h17 (zR h17 l0 6) (Int32.toNatClampNeg l1)) / 3) / 10) < (x9 + x18) → ψ 0 h17) ∧ (¬ (((zI h17 (zR h17 l0 6) (Int32.toNatClampNeg l1)) / 3) / 10) < (x9 + x18) → ψ 0 h17))) ∧ (¬ (zI h17 (zR h17 l0 51) (Int32.toNatClampNeg l2)) < (zI h17 (zR h17 l0 47) (Int32.toNatClampNeg l1)) → ((zR h17 l0 48) ≠ 0) ∧ (zK h17 (zR h17 l0 48) = 20) ∧ (vp_in l1 (zN h17 (zR h17 l0 48))) ∧ ((zR h17 l0 18) ≠ 0) ∧ (zK h17 (zR h17 l0 18) = 20) ∧ (6 < zN h17 (zR h17 l0 18)) ∧ (((zI h17 (zR h17 l0 48) (Int32.toNatClampNeg l1)) < ((zI h17 (zR h17 l0 51) (Int32.toNatClampNeg l2)) - (zI h17 (zR h17 l0 18) 6)) → ((zR h17 l0 6) ≠ 0) ∧ (zK h17 (zR h17 l0 6) = 20) ∧ (vp_in l1 (zN h17 (zR h17 l0 6))) ∧ (((((zI h17 (zR h17 l0 6) (Int32.toNatClampNeg l1)) / 3) / 10) < (x9 + x18) → ψ 0 h17) ∧ (¬ (((zI h17 (zR h17 l0 6) (Int32.toNatClampNeg l1)) / 3) / 10) < (x9 + x18) → ψ 0 h17))) ∧ (¬ (zI h17 (zR h17 l0 48) (Int32.toNatClampNeg l1)) < ((zI h17 (zR h17 l0 51) (Int32.toNatClampNeg l2)) - (zI h17 (zR h17 l0 18) 6)) → ((zR h17 l0 6) ≠ 0) ∧ (zK h17 (zR h17 l0 6) = 20) ∧ (vp_in l1 (zN h17 (zR h17 l0 6))) ∧ (((((zI h17 (zR h17 l0 6) (Int32.toNatClampNeg l1)) / 3) / 10) < (x9 + x18) → ψ 0 h17) ∧ (¬ (((zI h17 (zR h17 l0 6) (Int32.toNatClampNeg l1)) / 3) / 10) < (x9 + x18) → ψ 1 h17))))))))) : ZcI mX11_canBe [.ref l0, .int l1, .int l2] h ψ := by
  refine Zc.intro (L := [some (.ref l0), some (.int l1), some (.int l2), none, none]) (show plainName RX11 = true by decide) rfl (Nat.le_of_ble_eq_true rfl) ?_
  show Zt _ _ 0 0 _ _ _ _
  refine z_aload_n (q := 1) dX11_canBe_0 rfl rfl rfl ?_
  obtain ⟨g1, hF⟩ := hF
  obtain ⟨g2, hF⟩ := hF
  refine z_getR (c := 11) (k := 49) (r := (RX11, TX11, 54)) (q := 4) dX11_canBe_1 rfl (by decide) fl_X11_126 rfl g1 g2 rfl ?_
  refine z_iload_n (q := 5) dX11_canBe_4 rfl rfl rfl ?_
  obtain ⟨g3, hF⟩ := hF
  obtain ⟨g4, hF⟩ := hF
  refine y_iald (j := (Int32.toNatClampNeg l2)) (q := 6) dX11_canBe_5 (Or.inl g3) g4 rfl rfl ?_
  refine z_aload_n (q := 7) dX11_canBe_6 rfl rfl rfl ?_
  obtain ⟨g5, hF⟩ := hF
  refine z_getR (c := 11) (k := 2) (r := (RX11, TX11, 54)) (q := 10) dX11_canBe_7 rfl (by decide) fl_X11_16 rfl g1 g5 rfl ?_
  refine z_iload_n (q := 11) dX11_canBe_10 rfl rfl rfl ?_
  obtain ⟨g6, hF⟩ := hF
  obtain ⟨g7, hF⟩ := hF
  refine y_iald (j := (Int32.toNatClampNeg l1)) (q := 12) dX11_canBe_11 (Or.inl g6) g7 rfl rfl ?_
  refine z_isub (q := 13) dX11_canBe_12 rfl ?_
  refine z_callSI (rc := 0) (rs := 0) (av := [.int ((zI h (zR h l0 49) (Int32.toNatClampNeg l2)) - (zI h (zR h l0 2) (Int32.toNatClampNeg l1)))]) (q := 16) hF dX11_canBe_13 ml_X11_162 ok_X11_size st_X11_size rfl (Nat.le_of_ble_eq_true rfl) (by decide) (Nat.le_of_ble_eq_true rfl) rfl rfl rfl rfl (fun x9 h8 hF => ?_)
  refine z_aload_n (q := 17) dX11_canBe_16 rfl rfl rfl ?_
  obtain ⟨g10, hF⟩ := hF
  obtain ⟨g11, hF⟩ := hF
  refine z_getR (c := 11) (k := 50) (r := (RX11, TX11, 54)) (q := 20) dX11_canBe_17 rfl (by decide) fl_X11_129 rfl g10 g11 rfl ?_
  refine z_iload_n (q := 21) dX11_canBe_20 rfl rfl rfl ?_
  obtain ⟨g12, hF⟩ := hF
  obtain ⟨g13, hF⟩ := hF
  refine y_iald (j := (Int32.toNatClampNeg l2)) (q := 22) dX11_canBe_21 (Or.inl g12) g13 rfl rfl ?_
  refine z_aload_n (q := 23) dX11_canBe_22 rfl rfl rfl ?_
  obtain ⟨g14, hF⟩ := hF
  refine z_getR (c := 11) (k := 3) (r := (RX11, TX11, 54)) (q := 26) dX11_canBe_23 rfl (by decide) fl_X11_19 rfl g10 g14 rfl ?_
  refine z_iload_n (q := 27) dX11_canBe_26 rfl rfl rfl ?_
  obtain ⟨g15, hF⟩ := hF
  obtain ⟨g16, hF⟩ := hF
  refine y_iald (j := (Int32.toNatClampNeg l1)) (q := 28) dX11_canBe_27 (Or.inl g15) g16 rfl rfl ?_
  refine z_isub (q := 29) dX11_canBe_28 rfl ?_
  refine z_callSI (rc := 0) (rs := 0) (av := [.int ((zI h8 (zR h8 l0 50) (Int32.toNatClampNeg l2)) - (zI h8 (zR h8 l0 3) (Int32.toNatClampNeg l1)))]) (q := 32) hF dX11_canBe_29 ml_X11_162 ok_X11_size st_X11_size rfl (Nat.le_of_ble_eq_true rfl) (by decide) (Nat.le_of_ble_eq_true rfl) rfl rfl rfl rfl (fun x18 h17 hF => ?_)
  refine z_iadd (q := 33) dX11_canBe_32 rfl ?_
  refine z_istore_n (q := 34) (L' := [some (.ref l0), some (.int l1), some (.int l2), some (.int (x9 + x18)), none]) dX11_canBe_33 rfl (Nat.le_of_ble_eq_true rfl) rfl rfl rfl ?_
  refine z_aload_n (q := 35) dX11_canBe_34 rfl rfl rfl ?_
  obtain ⟨g19, hF⟩ := hF
  obtain ⟨g20, hF⟩ := hF
  refine z_getR (c := 11) (k := 47) (r := (RX11, TX11, 54)) (q := 38) dX11_canBe_35 rfl (by decide) fl_X11_120 rfl g19 g20 rfl ?_
  refine z_iload_n (q := 39) dX11_canBe_38 rfl rfl rfl ?_
  obtain ⟨g21, hF⟩ := hF
  obtain ⟨g22, hF⟩ := hF
  refine y_iald (j := (Int32.toNatClampNeg l1)) (q := 40) dX11_canBe_39 (Or.inl g21) g22 rfl rfl ?_
  refine z_aload_n (q := 41) dX11_canBe_40 rfl rfl rfl ?_
  obtain ⟨g23, hF⟩ := hF
  refine z_getR (c := 11) (k := 51) (r := (RX11, TX11, 54)) (q := 44) dX11_canBe_41 rfl (by decide) fl_X11_132 rfl g19 g23 rfl ?_
  refine z_iload_n (q := 45) dX11_canBe_44 rfl rfl rfl ?_
  obtain ⟨g24, hF⟩ := hF
  obtain ⟨g25, hF⟩ := hF
  refine y_iald (j := (Int32.toNatClampNeg l2)) (q := 46) dX11_canBe_45 (Or.inl g24) g25 rfl rfl ?_
  refine z_icmp_gt (t := 76) (q := 49) dX11_canBe_46 (by decide) rfl (fun hc => ?_) (fun hc => ?_)
  · have hF := hF.1 hc
    refine z_iconst (q := 77) (v := 0) dX11_canBe_76 (by decide) rfl ?_
    refine z_istore (q := 79) (L' := [some (.ref l0), some (.int l1), some (.int l2), some (.int (x9 + x18)), some (.int 0)]) dX11_canBe_77 (Nat.le_of_ble_eq_true rfl) rfl rfl rfl ?_
    refine z_iload_n (q := 80) dX11_canBe_79 rfl rfl rfl ?_
    refine z_aload_n (q := 81) dX11_canBe_80 rfl rfl rfl ?_
    obtain ⟨g26, hF⟩ := hF
    refine z_getR (c := 11) (k := 6) (r := (RX11, TX11, 54)) (q := 84) dX11_canBe_81 rfl (by decide) fl_X11_28 rfl g19 g26 rfl ?_
    refine z_iload_n (q := 85) dX11_canBe_84 rfl rfl rfl ?_
    obtain ⟨g27, hF⟩ := hF
    obtain ⟨g28, hF⟩ := hF
    refine y_iald (j := (Int32.toNatClampNeg l1)) (q := 86) dX11_canBe_85 (Or.inl g27) g28 rfl rfl ?_
    refine z_iconst (q := 87) (v := 3) dX11_canBe_86 (by decide) rfl ?_
    refine z_idiv (q := 88) dX11_canBe_87 (by decide) rfl ?_
    refine z_bipush (q := 90) (v := 10) dX11_canBe_88 (by decide) rfl ?_
    refine z_idiv (q := 91) dX11_canBe_90 (by decide) rfl ?_
    refine z_icmp_gt (t := 103) (q := 94) dX11_canBe_91 (by decide) rfl (fun hc => ?_) (fun hc => ?_)
    · have hF := hF.1 hc
      refine z_iconst (q := 104) (v := 0) dX11_canBe_103 (by decide) rfl ?_
      exact z_zreturn dX11_canBe_104 rfl (by decide) ⟨_, rfl, hF⟩
    · have hF := hF.2 hc
      refine z_iload (q := 96) dX11_canBe_94 rfl rfl ?_
      refine z_if_eq (t := 103) (q := 99) dX11_canBe_96 (by decide) rfl (fun _ => ?_) (fun hc => absurd hc (by decide))
      refine z_iconst (q := 104) (v := 0) dX11_canBe_103 (by decide) rfl ?_
      exact z_zreturn dX11_canBe_104 rfl (by decide) ⟨_, rfl, hF⟩
  · have hF := hF.2 hc
    refine z_aload_n (q := 50) dX11_canBe_49 rfl rfl rfl ?_
    obtain ⟨g29, hF⟩ := hF
    refine z_getR (c := 11) (k := 48) (r := (RX11, TX11, 54)) (q := 53) dX11_canBe_50 rfl (by decide) fl_X11_123 rfl g19 g29 rfl ?_
    refine z_iload_n (q := 54) dX11_canBe_53 rfl rfl rfl ?_
    obtain ⟨g30, hF⟩ := hF
    obtain ⟨g31, hF⟩ := hF
    refine y_iald (j := (Int32.toNatClampNeg l1)) (q := 55) dX11_canBe_54 (Or.inl g30) g31 rfl rfl ?_
    refine z_aload_n (q := 56) dX11_canBe_55 rfl rfl rfl ?_
    refine z_getR (c := 11) (k := 51) (r := (RX11, TX11, 54)) (q := 59) dX11_canBe_56 rfl (by decide) fl_X11_132 rfl g19 g23 rfl ?_
    refine z_iload_n (q := 60) dX11_canBe_59 rfl rfl rfl ?_
    refine y_iald (j := (Int32.toNatClampNeg l2)) (q := 61) dX11_canBe_60 (Or.inl g24) g25 rfl rfl ?_
    refine z_aload_n (q := 62) dX11_canBe_61 rfl rfl rfl ?_
    obtain ⟨g32, hF⟩ := hF
    refine z_getR (c := 11) (k := 18) (r := (RX11, TX11, 54)) (q := 65) dX11_canBe_62 rfl (by decide) fl_X11_59 rfl g19 g32 rfl ?_
    refine z_bipush (q := 67) (v := 6) dX11_canBe_65 (by decide) rfl ?_
    obtain ⟨g33, hF⟩ := hF
    obtain ⟨g34, hF⟩ := hF
    refine y_iald (j := 6) (q := 68) dX11_canBe_67 (Or.inl g33) (zvin (by decide) (by decide) g34) (by decide) rfl ?_
    refine z_isub (q := 69) dX11_canBe_68 rfl ?_
    refine z_icmp_lt (t := 76) (q := 72) dX11_canBe_69 (by decide) rfl (fun hc => ?_) (fun hc => ?_)
    · have hF := hF.1 hc
      refine z_iconst (q := 77) (v := 0) dX11_canBe_76 (by decide) rfl ?_
      refine z_istore (q := 79) (L' := [some (.ref l0), some (.int l1), some (.int l2), some (.int (x9 + x18)), some (.int 0)]) dX11_canBe_77 (Nat.le_of_ble_eq_true rfl) rfl rfl rfl ?_
      refine z_iload_n (q := 80) dX11_canBe_79 rfl rfl rfl ?_
      refine z_aload_n (q := 81) dX11_canBe_80 rfl rfl rfl ?_
      obtain ⟨g35, hF⟩ := hF
      refine z_getR (c := 11) (k := 6) (r := (RX11, TX11, 54)) (q := 84) dX11_canBe_81 rfl (by decide) fl_X11_28 rfl g19 g35 rfl ?_
      refine z_iload_n (q := 85) dX11_canBe_84 rfl rfl rfl ?_
      obtain ⟨g36, hF⟩ := hF
      obtain ⟨g37, hF⟩ := hF
      refine y_iald (j := (Int32.toNatClampNeg l1)) (q := 86) dX11_canBe_85 (Or.inl g36) g37 rfl rfl ?_
      refine z_iconst (q := 87) (v := 3) dX11_canBe_86 (by decide) rfl ?_
      refine z_idiv (q := 88) dX11_canBe_87 (by decide) rfl ?_
      refine z_bipush (q := 90) (v := 10) dX11_canBe_88 (by decide) rfl ?_
      refine z_idiv (q := 91) dX11_canBe_90 (by decide) rfl ?_
      refine z_icmp_gt (t := 103) (q := 94) dX11_canBe_91 (by decide) rfl (fun hc => ?_) (fun hc => ?_)
      · have hF := hF.1 hc
        refine z_iconst (q := 104) (v := 0) dX11_canBe_103 (by decide) rfl ?_
        exact z_zreturn dX11_canBe_104 rfl (by decide) ⟨_, rfl, hF⟩
      · have hF := hF.2 hc
        refine z_iload (q := 96) dX11_canBe_94 rfl rfl ?_
        refine z_if_eq (t := 103) (q := 99) dX11_canBe_96 (by decide) rfl (fun _ => ?_) (fun hc => absurd hc (by decide))
        refine z_iconst (q := 104) (v := 0) dX11_canBe_103 (by decide) rfl ?_
        exact z_zreturn dX11_canBe_104 rfl (by decide) ⟨_, rfl, hF⟩
    · have hF := hF.2 hc
      refine z_iconst (q := 73) (v := 1) dX11_canBe_72 (by decide) rfl ?_
      refine z_goto (q := 77) dX11_canBe_73 (by decide) ?_
      refine z_istore (q := 79) (L' := [some (.ref l0), some (.int l1), some (.int l2), some (.int (x9 + x18)), some (.int 1)]) dX11_canBe_77 (Nat.le_of_ble_eq_true rfl) rfl rfl rfl ?_
      refine z_iload_n (q := 80) dX11_canBe_79 rfl rfl rfl ?_
      refine z_aload_n (q := 81) dX11_canBe_80 rfl rfl rfl ?_
      obtain ⟨g38, hF⟩ := hF
      refine z_getR (c := 11) (k := 6) (r := (RX11, TX11, 54)) (q := 84) dX11_canBe_81 rfl (by decide) fl_X11_28 rfl g19 g38 rfl ?_
      refine z_iload_n (q := 85) dX11_canBe_84 rfl rfl rfl ?_
      obtain ⟨g39, hF⟩ := hF
      obtain ⟨g40, hF⟩ := hF
      refine y_iald (j := (Int32.toNatClampNeg l1)) (q := 86) dX11_canBe_85 (Or.inl g39) g40 rfl rfl ?_
      refine z_iconst (q := 87) (v := 3) dX11_canBe_86 (by decide) rfl ?_
      refine z_idiv (q := 88) dX11_canBe_87 (by decide) rfl ?_
      refine z_bipush (q := 90) (v := 10) dX11_canBe_88 (by decide) rfl ?_
      refine z_idiv (q := 91) dX11_canBe_90 (by decide) rfl ?_
      refine z_icmp_gt (t := 103) (q := 94) dX11_canBe_91 (by decide) rfl (fun hc => ?_) (fun hc => ?_)
      · have hF := hF.1 hc
        refine z_iconst (q := 104) (v := 0) dX11_canBe_103 (by decide) rfl ?_
        exact z_zreturn dX11_canBe_104 rfl (by decide) ⟨_, rfl, hF⟩
      · have hF := hF.2 hc
        refine z_iload (q := 96) dX11_canBe_94 rfl rfl ?_
        refine z_if_eq (t := 103) (q := 99) dX11_canBe_96 (by decide) rfl (fun hc => absurd hc (by decide)) (fun _ => ?_)
        refine z_iconst (q := 100) (v := 1) dX11_canBe_99 (by decide) rfl ?_
        refine z_goto (q := 104) dX11_canBe_100 (by decide) ?_
        exact z_zreturn dX11_canBe_104 rfl (by decide) ⟨_, rfl, hF⟩
set_option maxRecDepth 100000 in
set_option maxHeartbeats 4000000 in
theorem wX11_whoseOf_4 {ψ : Int32 → ZH → Prop} {l0 : Nat} {l1 : Int32} {l2 : Int32} {l3 : Int32} {h : ZH} (hF : (zK h l0 = 12) ∧ (((zI h l0 9) ≤ l3 → ψ l2 h) ∧ (¬ (zI h l0 9) ≤ l3 → ZcI mX11_canBe [.ref l0, .int l3, .int l1] h (fun x3 h2 => ((x3 = 0 → Zt mX11_whoseOf (zPI ψ) 0 0 4 [some (.ref l0), some (.int l1), some (.int (l2 ||| 0)), some (.int (l3 + 1))] [] h2) ∧ (¬ x3 = 0 → Zt mX11_whoseOf (zPI ψ) 0 0 4 [some (.ref l0), some (.int l1), some (.int (l2 ||| ((1 : Int32) <<< (l3 &&& 31)))), some (.int (l3 + 1))] [] h2)))))) : Zt mX11_whoseOf (zPI ψ) 0 0 4 [some (.ref l0), some (.int l1), some (.int l2), some (.int l3)] [] h := by
  refine z_iload_n (q := 5) dX11_whoseOf_4 rfl rfl rfl ?_
  refine z_aload_n (q := 6) dX11_whoseOf_5 rfl rfl rfl ?_
  obtain ⟨g1, hF⟩ := hF
  refine z_getI (c := 11) (k := 9) (r := (RX11, TX11, 54)) (q := 9) dX11_whoseOf_6 rfl (by decide) fl_X11_144 rfl g1 rfl ?_
  refine z_icmp_ge (t := 37) (q := 12) dX11_whoseOf_9 (by decide) rfl (fun hc => ?_) (fun hc => ?_)
  · have hF := hF.1 hc
    refine z_iload_n (q := 38) dX11_whoseOf_37 rfl rfl rfl ?_
    exact z_ireturn dX11_whoseOf_38 rfl ⟨_, rfl, hF⟩
  · have hF := hF.2 hc
    refine z_iload_n (q := 13) dX11_whoseOf_12 rfl rfl rfl ?_
    refine z_aload_n (q := 14) dX11_whoseOf_13 rfl rfl rfl ?_
    refine z_iload_n (q := 15) dX11_whoseOf_14 rfl rfl rfl ?_
    refine z_iload_n (q := 16) dX11_whoseOf_15 rfl rfl rfl ?_
    refine z_callVI (rc := 0) (rs := 0) (b := l0) (av := [.int l3, .int l1]) (ci := 11) (r := (RX11, TX11, 54)) (q := 19) hF dX11_whoseOf_16 ml_X11_346 ok_X11_canBe in_X11_canBe se_X11_canBe rfl rfl g1 rfl (Nat.le_of_ble_eq_true rfl) (by decide) (Nat.le_of_ble_eq_true rfl) rfl rfl rfl rfl (fun x3 h2 hF => ?_)
    refine z_if_eq (t := 28) (q := 22) dX11_whoseOf_19 (by decide) rfl (fun hc => ?_) (fun hc => ?_)
    · have hF := hF.1 hc
      refine z_iconst (q := 29) (v := 0) dX11_whoseOf_28 (by decide) rfl ?_
      refine z_ior (q := 30) dX11_whoseOf_29 rfl ?_
      refine z_istore_n (q := 31) (L' := [some (.ref l0), some (.int l1), some (.int (l2 ||| 0)), some (.int l3)]) dX11_whoseOf_30 rfl (Nat.le_of_ble_eq_true rfl) rfl rfl rfl ?_
      refine z_iinc (q := 34) (v := (l3 + 1)) (L' := [some (.ref l0), some (.int l1), some (.int (l2 ||| 0)), some (.int (l3 + 1))]) dX11_whoseOf_31 rfl rfl (Nat.le_of_ble_eq_true rfl) rfl rfl rfl ?_
      refine z_goto (q := 4) dX11_whoseOf_34 (by decide) ?_
      exact hF
    · have hF := hF.2 hc
      refine z_iconst (q := 23) (v := 1) dX11_whoseOf_22 (by decide) rfl ?_
      refine z_iload_n (q := 24) dX11_whoseOf_23 rfl rfl rfl ?_
      refine z_ishl (q := 25) dX11_whoseOf_24 rfl ?_
      refine z_goto (q := 29) dX11_whoseOf_25 (by decide) ?_
      refine z_ior (q := 30) dX11_whoseOf_29 rfl ?_
      refine z_istore_n (q := 31) (L' := [some (.ref l0), some (.int l1), some (.int (l2 ||| ((1 : Int32) <<< (l3 &&& 31)))), some (.int l3)]) dX11_whoseOf_30 rfl (Nat.le_of_ble_eq_true rfl) rfl rfl rfl ?_
      refine z_iinc (q := 34) (v := (l3 + 1)) (L' := [some (.ref l0), some (.int l1), some (.int (l2 ||| ((1 : Int32) <<< (l3 &&& 31)))), some (.int (l3 + 1))]) dX11_whoseOf_31 rfl rfl (Nat.le_of_ble_eq_true rfl) rfl rfl rfl ?_
      refine z_goto (q := 4) dX11_whoseOf_34 (by decide) ?_
      exact hF
set_option maxRecDepth 100000 in
set_option maxHeartbeats 4000000 in
theorem wX11_whoseOf {ψ : Int32 → ZH → Prop} {l0 : Nat} {l1 : Int32} {h : ZH} (hF : Zt mX11_whoseOf (zPI ψ) 0 0 4 [some (.ref l0), some (.int l1), some (.int 0), some (.int 0)] [] h) : ZcI mX11_whoseOf [.ref l0, .int l1] h ψ := by
  refine Zc.intro (L := [some (.ref l0), some (.int l1), none, none]) (show plainName RX11 = true by decide) rfl (Nat.le_of_ble_eq_true rfl) ?_
  show Zt _ _ 0 0 _ _ _ _
  refine z_iconst (q := 1) (v := 0) dX11_whoseOf_0 (by decide) rfl ?_
  refine z_istore_n (q := 2) (L' := [some (.ref l0), some (.int l1), some (.int 0), none]) dX11_whoseOf_1 rfl (Nat.le_of_ble_eq_true rfl) rfl rfl rfl ?_
  refine z_iconst (q := 3) (v := 0) dX11_whoseOf_2 (by decide) rfl ?_
  refine z_istore_n (q := 4) (L' := [some (.ref l0), some (.int l1), some (.int 0), some (.int 0)]) dX11_whoseOf_3 rfl (Nat.le_of_ble_eq_true rfl) rfl rfl rfl ?_
  exact hF
set_option maxRecDepth 100000 in
set_option maxHeartbeats 4000000 in
theorem wX11_isHarm {ψ : Int32 → ZH → Prop} {l0 : Nat} {l1 : Int32} {h : ZH} (hF : (zK h l0 = 12) ∧ ZcI mX11_in [.long (Int32.toInt64 l1), .long 0, .long (Int32.toInt64 ((zI h l0 53) - 1))] h (fun x3 h2 => (x3 = 0 ∨ x3 = 1) ∧ ψ x3 h2)) : ZcI mX11_isHarm [.ref l0, .int l1] h ψ := by
  refine Zc.intro (L := [some (.ref l0), some (.int l1)]) (show plainName RX11 = true by decide) rfl (Nat.le_of_ble_eq_true rfl) ?_
  show Zt _ _ 0 0 _ _ _ _
  refine z_iload_n (q := 1) dX11_isHarm_0 rfl rfl rfl ?_
  refine z_i2l (q := 2) dX11_isHarm_1 rfl ?_
  refine z_lconst (q := 3) (v := 0) dX11_isHarm_2 (by decide) rfl ?_
  refine z_aload_n (q := 4) dX11_isHarm_3 rfl rfl rfl ?_
  obtain ⟨g1, hF⟩ := hF
  refine z_getI (c := 11) (k := 53) (r := (RX11, TX11, 54)) (q := 7) dX11_isHarm_4 rfl (by decide) fl_X11_343 rfl g1 rfl ?_
  refine z_iconst (q := 8) (v := 1) dX11_isHarm_7 (by decide) rfl ?_
  refine z_isub (q := 9) dX11_isHarm_8 rfl ?_
  refine z_i2l (q := 10) dX11_isHarm_9 rfl ?_
  refine z_callSI (rc := 0) (rs := 0) (av := [.long (Int32.toInt64 l1), .long 0, .long (Int32.toInt64 ((zI h l0 53) - 1))]) (q := 13) hF dX11_isHarm_10 ml_X11_140 ok_X11_in st_X11_in rfl (Nat.le_of_ble_eq_true rfl) (by decide) (Nat.le_of_ble_eq_true rfl) rfl rfl rfl rfl (fun x3 h2 hF => ?_)
  obtain ⟨g4, hF⟩ := hF
  exact z_zreturn dX11_isHarm_13 rfl g4 ⟨_, rfl, hF⟩
set_option maxRecDepth 100000 in
set_option maxHeartbeats 4000000 in
theorem wX11_whose {ψ : Int32 → ZH → Prop} {l0 : Nat} {l1 : Int32} {h : ZH} (hF : (zK h l0 = 12) ∧ ZcI mX11_isHarm [.ref l0, .int l1] h (fun x3 h1 => ((x3 = 0 → ψ (-1) h1) ∧ (¬ x3 = 0 → (zK h1 l0 = 12) ∧ ZcI mX11_whoseOf [.ref l0, .int l1] h1 (fun x6 h4 => ψ x6 h4))))) : ZcI mX11_whose [.ref l0, .int l1] h ψ := by
  refine Zc.intro (L := [some (.ref l0), some (.int l1)]) (show plainName RX11 = true by decide) rfl (Nat.le_of_ble_eq_true rfl) ?_
  show Zt _ _ 0 0 _ _ _ _
  refine z_aload_n (q := 1) dX11_whose_0 rfl rfl rfl ?_
  refine z_iload_n (q := 2) dX11_whose_1 rfl rfl rfl ?_
  obtain ⟨g2, hF⟩ := hF
  refine z_callVI (rc := 0) (rs := 0) (b := l0) (av := [.int l1]) (ci := 11) (r := (RX11, TX11, 54)) (q := 5) hF dX11_whose_2 ml_X11_349 ok_X11_isHarm in_X11_isHarm se_X11_isHarm rfl rfl g2 rfl (Nat.le_of_ble_eq_true rfl) (by decide) (Nat.le_of_ble_eq_true rfl) rfl rfl rfl rfl (fun x3 h1 hF => ?_)
  refine z_if_eq (t := 16) (q := 8) dX11_whose_5 (by decide) rfl (fun hc => ?_) (fun hc => ?_)
  · have hF := hF.1 hc
    refine z_iconst (q := 17) (v := (-1)) dX11_whose_16 (by decide) rfl ?_
    exact z_ireturn dX11_whose_17 rfl ⟨_, rfl, hF⟩
  · have hF := hF.2 hc
    refine z_aload_n (q := 9) dX11_whose_8 rfl rfl rfl ?_
    refine z_iload_n (q := 10) dX11_whose_9 rfl rfl rfl ?_
    obtain ⟨g5, hF⟩ := hF
    refine z_callVI (rc := 0) (rs := 0) (b := l0) (av := [.int l1]) (ci := 11) (r := (RX11, TX11, 54)) (q := 13) hF dX11_whose_10 ml_X11_352 ok_X11_whoseOf in_X11_whoseOf se_X11_whoseOf rfl rfl g5 rfl (Nat.le_of_ble_eq_true rfl) (by decide) (Nat.le_of_ble_eq_true rfl) rfl rfl rfl rfl (fun x6 h4 hF => ?_)
    refine z_goto (q := 17) dX11_whose_13 (by decide) ?_
    exact z_ireturn dX11_whose_17 rfl ⟨_, rfl, hF⟩
set_option maxRecDepth 100000 in
set_option maxHeartbeats 4000000 in
theorem wX11_shareOf {ψ : Int32 → ZH → Prop} {l0 : Nat} {l1 : Int32} {l2 : Int32} {l3 : Int32} {h : ZH} (hF : (zK h l0 = 12) ∧ ((zR h l0 52) ≠ 0) ∧ (zK h (zR h l0 52) = 20) ∧ (vp_in l1 (zN h (zR h l0 52))) ∧ ((zR h l0 4) ≠ 0) ∧ (zK h (zR h l0 4) = 20) ∧ (vp_in l2 (zN h (zR h l0 4))) ∧ (¬ (Int32.toInt64 l3) = 0) ∧ ψ (Int64.toInt32 (((Int32.toInt64 (zI h (zR h l0 52) (Int32.toNatClampNeg l1))) * (Int32.toInt64 ((zI h (zR h l0 4) (Int32.toNatClampNeg l2)) + 1))) / (Int32.toInt64 l3))) h) : ZcI mX11_shareOf [.ref l0, .int l1, .int l2, .int l3] h ψ := by
  refine Zc.intro (L := [some (.ref l0), some (.int l1), some (.int l2), some (.int l3)]) (show plainName RX11 = true by decide) rfl (Nat.le_of_ble_eq_true rfl) ?_
  show Zt _ _ 0 0 _ _ _ _
  refine z_aload_n (q := 1) dX11_shareOf_0 rfl rfl rfl ?_
  obtain ⟨g1, hF⟩ := hF
  obtain ⟨g2, hF⟩ := hF
  refine z_getR (c := 11) (k := 52) (r := (RX11, TX11, 54)) (q := 4) dX11_shareOf_1 rfl (by decide) fl_X11_135 rfl g1 g2 rfl ?_
  refine z_iload_n (q := 5) dX11_shareOf_4 rfl rfl rfl ?_
  obtain ⟨g3, hF⟩ := hF
  obtain ⟨g4, hF⟩ := hF
  refine y_iald (j := (Int32.toNatClampNeg l1)) (q := 6) dX11_shareOf_5 (Or.inl g3) g4 rfl rfl ?_
  refine z_i2l (q := 7) dX11_shareOf_6 rfl ?_
  refine z_aload_n (q := 8) dX11_shareOf_7 rfl rfl rfl ?_
  obtain ⟨g5, hF⟩ := hF
  refine z_getR (c := 11) (k := 4) (r := (RX11, TX11, 54)) (q := 11) dX11_shareOf_8 rfl (by decide) fl_X11_22 rfl g1 g5 rfl ?_
  refine z_iload_n (q := 12) dX11_shareOf_11 rfl rfl rfl ?_
  obtain ⟨g6, hF⟩ := hF
  obtain ⟨g7, hF⟩ := hF
  refine y_iald (j := (Int32.toNatClampNeg l2)) (q := 13) dX11_shareOf_12 (Or.inl g6) g7 rfl rfl ?_
  refine z_iconst (q := 14) (v := 1) dX11_shareOf_13 (by decide) rfl ?_
  refine z_iadd (q := 15) dX11_shareOf_14 rfl ?_
  refine z_i2l (q := 16) dX11_shareOf_15 rfl ?_
  refine z_lmul (q := 17) dX11_shareOf_16 rfl ?_
  refine z_iload_n (q := 18) dX11_shareOf_17 rfl rfl rfl ?_
  refine z_i2l (q := 19) dX11_shareOf_18 rfl ?_
  obtain ⟨g8, hF⟩ := hF
  refine z_ldiv (q := 20) dX11_shareOf_19 g8 rfl ?_
  refine z_l2i (q := 21) dX11_shareOf_20 rfl ?_
  exact z_ireturn dX11_shareOf_21 rfl ⟨_, rfl, hF⟩
set_option maxRecDepth 100000 in
set_option maxHeartbeats 4000000 in
theorem wX11_part_94 {ψ : Int32 → ZH → Prop} {l0 : Nat} {l1 : Int32} {l2 : Int32} {l3 : Int32} {l4 : Int32} {l5 : Int32} {l6 : Int32} {h : ZH} (hF : (zK h l0 = 12) ∧ (((zI h l0 9) ≤ l6 → ((¬ (l3 &&& (((1 : Int32) <<< (l2 &&& 31)) - 1)) = 0 → ZcI mX11_shareOf [.ref l0, .int l1, .int l2, .int l4] h (fun x3 h2 => ψ (x3 + 0) h2)) ∧ ((l3 &&& (((1 : Int32) <<< (l2 &&& 31)) - 1)) = 0 → ZcI mX11_shareOf [.ref l0, .int l1, .int l2, .int l4] h (fun x5 h4 => ψ (x5 + l5) h4)))) ∧ (¬ (zI h l0 9) ≤ l6 → ((¬ ((l3 >>> (l6 &&& 31)) &&& 1) = 1 → Zt mX11_part (zPI ψ) 0 0 94 [some (.ref l0), some (.int l1), some (.int l2), some (.int l3), some (.int l4), some (.int (l5 - 0)), some (.int (l6 + 1))] [] h) ∧ (((l3 >>> (l6 &&& 31)) &&& 1) = 1 → ZcI mX11_shareOf [.ref l0, .int l1, .int l6, .int l4] h (fun x7 h6 => Zt mX11_part (zPI ψ) 0 0 94 [some (.ref l0), some (.int l1), some (.int l2), some (.int l3), some (.int l4), some (.int (l5 - x7)), some (.int (l6 + 1))] [] h6)))))) : Zt mX11_part (zPI ψ) 0 0 94 [some (.ref l0), some (.int l1), some (.int l2), some (.int l3), some (.int l4), some (.int l5), some (.int l6)] [] h := by
  refine z_iload (q := 96) dX11_part_94 rfl rfl ?_
  refine z_aload_n (q := 97) dX11_part_96 rfl rfl rfl ?_
  obtain ⟨g1, hF⟩ := hF
  refine z_getI (c := 11) (k := 9) (r := (RX11, TX11, 54)) (q := 100) dX11_part_97 rfl (by decide) fl_X11_144 rfl g1 rfl ?_
  refine z_icmp_ge (t := 137) (q := 103) dX11_part_100 (by decide) rfl (fun hc => ?_) (fun hc => ?_)
  · have hF := hF.1 hc
    refine z_iload_n (q := 138) dX11_part_137 rfl rfl rfl ?_
    refine z_iconst (q := 139) (v := 1) dX11_part_138 (by decide) rfl ?_
    refine z_iload_n (q := 140) dX11_part_139 rfl rfl rfl ?_
    refine z_ishl (q := 141) dX11_part_140 rfl ?_
    refine z_iconst (q := 142) (v := 1) dX11_part_141 (by decide) rfl ?_
    refine z_isub (q := 143) dX11_part_142 rfl ?_
    refine z_iand (q := 144) dX11_part_143 rfl ?_
    refine z_if_ne (t := 151) (q := 147) dX11_part_144 (by decide) rfl (fun hc => ?_) (fun hc => ?_)
    · have hF := hF.1 hc
      refine z_iconst (q := 152) (v := 0) dX11_part_151 (by decide) rfl ?_
      refine z_istore (q := 154) (L' := [some (.ref l0), some (.int l1), some (.int l2), some (.int l3), some (.int l4), some (.int l5), some (.int 0)]) dX11_part_152 (Nat.le_of_ble_eq_true rfl) rfl rfl rfl ?_
      refine z_aload_n (q := 155) dX11_part_154 rfl rfl rfl ?_
      refine z_iload_n (q := 156) dX11_part_155 rfl rfl rfl ?_
      refine z_iload_n (q := 157) dX11_part_156 rfl rfl rfl ?_
      refine z_iload (q := 159) dX11_part_157 rfl rfl ?_
      refine z_callVI (rc := 0) (rs := 0) (b := l0) (av := [.int l1, .int l2, .int l4]) (ci := 11) (r := (RX11, TX11, 54)) (q := 162) hF dX11_part_159 ml_X11_355 ok_X11_shareOf in_X11_shareOf se_X11_shareOf rfl rfl g1 rfl (Nat.le_of_ble_eq_true rfl) (by decide) (Nat.le_of_ble_eq_true rfl) rfl rfl rfl rfl (fun x3 h2 hF => ?_)
      refine z_iload (q := 164) dX11_part_162 rfl rfl ?_
      refine z_if_eq (t := 172) (q := 167) dX11_part_164 (by decide) rfl (fun _ => ?_) (fun hc => absurd hc (by decide))
      refine z_iconst (q := 173) (v := 0) dX11_part_172 (by decide) rfl ?_
      refine z_iadd (q := 174) dX11_part_173 rfl ?_
      exact z_ireturn dX11_part_174 rfl ⟨_, rfl, hF⟩
    · have hF := hF.2 hc
      refine z_iconst (q := 148) (v := 1) dX11_part_147 (by decide) rfl ?_
      refine z_goto (q := 152) dX11_part_148 (by decide) ?_
      refine z_istore (q := 154) (L' := [some (.ref l0), some (.int l1), some (.int l2), some (.int l3), some (.int l4), some (.int l5), some (.int 1)]) dX11_part_152 (Nat.le_of_ble_eq_true rfl) rfl rfl rfl ?_
      refine z_aload_n (q := 155) dX11_part_154 rfl rfl rfl ?_
      refine z_iload_n (q := 156) dX11_part_155 rfl rfl rfl ?_
      refine z_iload_n (q := 157) dX11_part_156 rfl rfl rfl ?_
      refine z_iload (q := 159) dX11_part_157 rfl rfl ?_
      refine z_callVI (rc := 0) (rs := 0) (b := l0) (av := [.int l1, .int l2, .int l4]) (ci := 11) (r := (RX11, TX11, 54)) (q := 162) hF dX11_part_159 ml_X11_355 ok_X11_shareOf in_X11_shareOf se_X11_shareOf rfl rfl g1 rfl (Nat.le_of_ble_eq_true rfl) (by decide) (Nat.le_of_ble_eq_true rfl) rfl rfl rfl rfl (fun x5 h4 hF => ?_)
      refine z_iload (q := 164) dX11_part_162 rfl rfl ?_
      refine z_if_eq (t := 172) (q := 167) dX11_part_164 (by decide) rfl (fun hc => absurd hc (by decide)) (fun _ => ?_)
      refine z_iload (q := 169) dX11_part_167 rfl rfl ?_
      refine z_goto (q := 173) dX11_part_169 (by decide) ?_
      refine z_iadd (q := 174) dX11_part_173 rfl ?_
      exact z_ireturn dX11_part_174 rfl ⟨_, rfl, hF⟩
  · have hF := hF.2 hc
    refine z_iload (q := 105) dX11_part_103 rfl rfl ?_
    refine z_iload_n (q := 106) dX11_part_105 rfl rfl rfl ?_
    refine z_iload (q := 108) dX11_part_106 rfl rfl ?_
    refine z_ishr (q := 109) dX11_part_108 rfl ?_
    refine z_iconst (q := 110) (v := 1) dX11_part_109 (by decide) rfl ?_
    refine z_iand (q := 111) dX11_part_110 rfl ?_
    refine z_iconst (q := 112) (v := 1) dX11_part_111 (by decide) rfl ?_
    refine z_icmp_ne (t := 127) (q := 115) dX11_part_112 (by decide) rfl (fun hc => ?_) (fun hc => ?_)
    · have hF := hF.1 hc
      refine z_iconst (q := 128) (v := 0) dX11_part_127 (by decide) rfl ?_
      refine z_isub (q := 129) dX11_part_128 rfl ?_
      refine z_istore (q := 131) (L' := [some (.ref l0), some (.int l1), some (.int l2), some (.int l3), some (.int l4), some (.int (l5 - 0)), some (.int l6)]) dX11_part_129 (Nat.le_of_ble_eq_true rfl) rfl rfl rfl ?_
      refine z_iinc (q := 134) (v := (l6 + 1)) (L' := [some (.ref l0), some (.int l1), some (.int l2), some (.int l3), some (.int l4), some (.int (l5 - 0)), some (.int (l6 + 1))]) dX11_part_131 rfl rfl (Nat.le_of_ble_eq_true rfl) rfl rfl rfl ?_
      refine z_goto (q := 94) dX11_part_134 (by decide) ?_
      exact hF
    · have hF := hF.2 hc
      refine z_aload_n (q := 116) dX11_part_115 rfl rfl rfl ?_
      refine z_iload_n (q := 117) dX11_part_116 rfl rfl rfl ?_
      refine z_iload (q := 119) dX11_part_117 rfl rfl ?_
      refine z_iload (q := 121) dX11_part_119 rfl rfl ?_
      refine z_callVI (rc := 0) (rs := 0) (b := l0) (av := [.int l1, .int l6, .int l4]) (ci := 11) (r := (RX11, TX11, 54)) (q := 124) hF dX11_part_121 ml_X11_355 ok_X11_shareOf in_X11_shareOf se_X11_shareOf rfl rfl g1 rfl (Nat.le_of_ble_eq_true rfl) (by decide) (Nat.le_of_ble_eq_true rfl) rfl rfl rfl rfl (fun x7 h6 hF => ?_)
      refine z_goto (q := 128) dX11_part_124 (by decide) ?_
      refine z_isub (q := 129) dX11_part_128 rfl ?_
      refine z_istore (q := 131) (L' := [some (.ref l0), some (.int l1), some (.int l2), some (.int l3), some (.int l4), some (.int (l5 - x7)), some (.int l6)]) dX11_part_129 (Nat.le_of_ble_eq_true rfl) rfl rfl rfl ?_
      refine z_iinc (q := 134) (v := (l6 + 1)) (L' := [some (.ref l0), some (.int l1), some (.int l2), some (.int l3), some (.int l4), some (.int (l5 - x7)), some (.int (l6 + 1))]) dX11_part_131 rfl rfl (Nat.le_of_ble_eq_true rfl) rfl rfl rfl ?_
      refine z_goto (q := 94) dX11_part_134 (by decide) ?_
      exact hF
set_option maxRecDepth 100000 in
set_option maxHeartbeats 4000000 in
theorem wX11_part_40 {ψ : Int32 → ZH → Prop} {l0 : Nat} {l1 : Int32} {l2 : Int32} {l3 : Int32} {l4 : Int32} {l5 : Int32} {h : ZH} (hF : (zK h l0 = 12) ∧ (((zI h l0 9) ≤ l5 → ((zR h l0 52) ≠ 0) ∧ (zK h (zR h l0 52) = 20) ∧ (vp_in l1 (zN h (zR h l0 52))) ∧ ∀ v12 : Int32, v12 = (zI h (zR h l0 52) (Int32.toNatClampNeg l1)) → Zt mX11_part (zPI ψ) 0 0 94 [some (.ref l0), some (.int l1), some (.int l2), some (.int l3), some (.int l4), some (.int v12), some (.int 0)] [] h) ∧ (¬ (zI h l0 9) ≤ l5 → ((¬ ((l3 >>> (l5 &&& 31)) &&& 1) = 1 → Zt mX11_part (zPI ψ) 0 0 40 [some (.ref l0), some (.int l1), some (.int l2), some (.int l3), some (.int (l4 + 0)), some (.int (l5 + 1)), none] [] h) ∧ (((l3 >>> (l5 &&& 31)) &&& 1) = 1 → ((zR h l0 4) ≠ 0) ∧ (zK h (zR h l0 4) = 20) ∧ (vp_in l5 (zN h (zR h l0 4))) ∧ ∀ v17 : Int32, v17 = (l4 + ((zI h (zR h l0 4) (Int32.toNatClampNeg l5)) + 1)) → Zt mX11_part (zPI ψ) 0 0 40 [some (.ref l0), some (.int l1), some (.int l2), some (.int l3), some (.int v17), some (.int (l5 + 1)), none] [] h))))) : Zt mX11_part (zPI ψ) 0 0 40 [some (.ref l0), some (.int l1), some (.int l2), some (.int l3), some (.int l4), some (.int l5), none] [] h := by
  refine z_iload (q := 42) dX11_part_40 rfl rfl ?_
  refine z_aload_n (q := 43) dX11_part_42 rfl rfl rfl ?_
  obtain ⟨g8, hF⟩ := hF
  refine z_getI (c := 11) (k := 9) (r := (RX11, TX11, 54)) (q := 46) dX11_part_43 rfl (by decide) fl_X11_144 rfl g8 rfl ?_
  refine z_icmp_ge (t := 83) (q := 49) dX11_part_46 (by decide) rfl (fun hc => ?_) (fun hc => ?_)
  · have hF := hF.1 hc
    refine z_aload_n (q := 84) dX11_part_83 rfl rfl rfl ?_
    obtain ⟨g9, hF⟩ := hF
    refine z_getR (c := 11) (k := 52) (r := (RX11, TX11, 54)) (q := 87) dX11_part_84 rfl (by decide) fl_X11_135 rfl g8 g9 rfl ?_
    refine z_iload_n (q := 88) dX11_part_87 rfl rfl rfl ?_
    obtain ⟨g10, hF⟩ := hF
    obtain ⟨g11, hF⟩ := hF
    refine y_iald (j := (Int32.toNatClampNeg l1)) (q := 89) dX11_part_88 (Or.inl g10) g11 rfl rfl ?_
    refine z_nameI (fun v12 ev13 => ?_)
    have hF := hF v12 ev13
    refine z_istore (q := 91) (L' := [some (.ref l0), some (.int l1), some (.int l2), some (.int l3), some (.int l4), some (.int v12), none]) dX11_part_89 (Nat.le_of_ble_eq_true rfl) rfl rfl rfl ?_
    refine z_iconst (q := 92) (v := 0) dX11_part_91 (by decide) rfl ?_
    refine z_istore (q := 94) (L' := [some (.ref l0), some (.int l1), some (.int l2), some (.int l3), some (.int l4), some (.int v12), some (.int 0)]) dX11_part_92 (Nat.le_of_ble_eq_true rfl) rfl rfl rfl ?_
    exact hF
  · have hF := hF.2 hc
    refine z_iload (q := 51) dX11_part_49 rfl rfl ?_
    refine z_iload_n (q := 52) dX11_part_51 rfl rfl rfl ?_
    refine z_iload (q := 54) dX11_part_52 rfl rfl ?_
    refine z_ishr (q := 55) dX11_part_54 rfl ?_
    refine z_iconst (q := 56) (v := 1) dX11_part_55 (by decide) rfl ?_
    refine z_iand (q := 57) dX11_part_56 rfl ?_
    refine z_iconst (q := 58) (v := 1) dX11_part_57 (by decide) rfl ?_
    refine z_icmp_ne (t := 73) (q := 61) dX11_part_58 (by decide) rfl (fun hc => ?_) (fun hc => ?_)
    · have hF := hF.1 hc
      refine z_iconst (q := 74) (v := 0) dX11_part_73 (by decide) rfl ?_
      refine z_iadd (q := 75) dX11_part_74 rfl ?_
      refine z_istore (q := 77) (L' := [some (.ref l0), some (.int l1), some (.int l2), some (.int l3), some (.int (l4 + 0)), some (.int l5), none]) dX11_part_75 (Nat.le_of_ble_eq_true rfl) rfl rfl rfl ?_
      refine z_iinc (q := 80) (v := (l5 + 1)) (L' := [some (.ref l0), some (.int l1), some (.int l2), some (.int l3), some (.int (l4 + 0)), some (.int (l5 + 1)), none]) dX11_part_77 rfl rfl (Nat.le_of_ble_eq_true rfl) rfl rfl rfl ?_
      refine z_goto (q := 40) dX11_part_80 (by decide) ?_
      exact hF
    · have hF := hF.2 hc
      refine z_aload_n (q := 62) dX11_part_61 rfl rfl rfl ?_
      obtain ⟨g14, hF⟩ := hF
      refine z_getR (c := 11) (k := 4) (r := (RX11, TX11, 54)) (q := 65) dX11_part_62 rfl (by decide) fl_X11_22 rfl g8 g14 rfl ?_
      refine z_iload (q := 67) dX11_part_65 rfl rfl ?_
      obtain ⟨g15, hF⟩ := hF
      obtain ⟨g16, hF⟩ := hF
      refine y_iald (j := (Int32.toNatClampNeg l5)) (q := 68) dX11_part_67 (Or.inl g15) g16 rfl rfl ?_
      refine z_iconst (q := 69) (v := 1) dX11_part_68 (by decide) rfl ?_
      refine z_iadd (q := 70) dX11_part_69 rfl ?_
      refine z_goto (q := 74) dX11_part_70 (by decide) ?_
      refine z_iadd (q := 75) dX11_part_74 rfl ?_
      refine z_nameI (fun v17 ev18 => ?_)
      have hF := hF v17 ev18
      refine z_istore (q := 77) (L' := [some (.ref l0), some (.int l1), some (.int l2), some (.int l3), some (.int v17), some (.int l5), none]) dX11_part_75 (Nat.le_of_ble_eq_true rfl) rfl rfl rfl ?_
      refine z_iinc (q := 80) (v := (l5 + 1)) (L' := [some (.ref l0), some (.int l1), some (.int l2), some (.int l3), some (.int v17), some (.int (l5 + 1)), none]) dX11_part_77 rfl rfl (Nat.le_of_ble_eq_true rfl) rfl rfl rfl ?_
      refine z_goto (q := 40) dX11_part_80 (by decide) ?_
      exact hF
set_option maxRecDepth 100000 in
set_option maxHeartbeats 4000000 in
theorem wX11_part {ψ : Int32 → ZH → Prop} {l0 : Nat} {l1 : Int32} {l2 : Int32} {h : ZH} (hF : (zK h l0 = 12) ∧ ZcI mX11_isHarm [.ref l0, .int l1] h (fun x21 h19 => ((x21 = 0 → ψ (-1) h19) ∧ (¬ x21 = 0 → (zK h19 l0 = 12) ∧ ZcI mX11_isPit [.ref l0, .int l2] h19 (fun x24 h22 => ((¬ x24 = 0 → (zK h22 l0 = 12) ∧ ZcI mX11_whoseOf [.ref l0, .int l1] h22 (fun x27 h25 => ((¬ ((x27 >>> (l2 &&& 31)) &&& 1) = 0 → Zt mX11_part (zPI ψ) 0 0 40 [some (.ref l0), some (.int l1), some (.int l2), some (.int x27), some (.int 0), some (.int 0), none] [] h25) ∧ (((x27 >>> (l2 &&& 31)) &&& 1) = 0 → ψ 0 h25)))) ∧ (x24 = 0 → ψ (-1) h22))))))) : ZcI mX11_part [.ref l0, .int l1, .int l2] h ψ := by
  refine Zc.intro (L := [some (.ref l0), some (.int l1), some (.int l2), none, none, none, none]) (show plainName RX11 = true by decide) rfl (Nat.le_of_ble_eq_true rfl) ?_
  show Zt _ _ 0 0 _ _ _ _
  refine z_aload_n (q := 1) dX11_part_0 rfl rfl rfl ?_
  refine z_iload_n (q := 2) dX11_part_1 rfl rfl rfl ?_
  obtain ⟨g20, hF⟩ := hF
  refine z_callVI (rc := 0) (rs := 0) (b := l0) (av := [.int l1]) (ci := 11) (r := (RX11, TX11, 54)) (q := 5) hF dX11_part_2 ml_X11_349 ok_X11_isHarm in_X11_isHarm se_X11_isHarm rfl rfl g20 rfl (Nat.le_of_ble_eq_true rfl) (by decide) (Nat.le_of_ble_eq_true rfl) rfl rfl rfl rfl (fun x21 h19 hF => ?_)
  refine z_if_eq (t := 16) (q := 8) dX11_part_5 (by decide) rfl (fun hc => ?_) (fun hc => ?_)
  · have hF := hF.1 hc
    refine z_iconst (q := 17) (v := (-1)) dX11_part_16 (by decide) rfl ?_
    exact z_ireturn dX11_part_17 rfl ⟨_, rfl, hF⟩
  · have hF := hF.2 hc
    refine z_aload_n (q := 9) dX11_part_8 rfl rfl rfl ?_
    refine z_iload_n (q := 10) dX11_part_9 rfl rfl rfl ?_
    obtain ⟨g23, hF⟩ := hF
    refine z_callVI (rc := 0) (rs := 0) (b := l0) (av := [.int l2]) (ci := 11) (r := (RX11, TX11, 54)) (q := 13) hF dX11_part_10 ml_X11_169 ok_X11_isPit in_X11_isPit se_X11_isPit rfl rfl g23 rfl (Nat.le_of_ble_eq_true rfl) (by decide) (Nat.le_of_ble_eq_true rfl) rfl rfl rfl rfl (fun x24 h22 hF => ?_)
    refine z_if_ne (t := 18) (q := 16) dX11_part_13 (by decide) rfl (fun hc => ?_) (fun hc => ?_)
    · have hF := hF.1 hc
      refine z_aload_n (q := 19) dX11_part_18 rfl rfl rfl ?_
      refine z_iload_n (q := 20) dX11_part_19 rfl rfl rfl ?_
      obtain ⟨g26, hF⟩ := hF
      refine z_callVI (rc := 0) (rs := 0) (b := l0) (av := [.int l1]) (ci := 11) (r := (RX11, TX11, 54)) (q := 23) hF dX11_part_20 ml_X11_352 ok_X11_whoseOf in_X11_whoseOf se_X11_whoseOf rfl rfl g26 rfl (Nat.le_of_ble_eq_true rfl) (by decide) (Nat.le_of_ble_eq_true rfl) rfl rfl rfl rfl (fun x27 h25 hF => ?_)
      refine z_istore_n (q := 24) (L' := [some (.ref l0), some (.int l1), some (.int l2), some (.int x27), none, none, none]) dX11_part_23 rfl (Nat.le_of_ble_eq_true rfl) rfl rfl rfl ?_
      refine z_iload_n (q := 25) dX11_part_24 rfl rfl rfl ?_
      refine z_iload_n (q := 26) dX11_part_25 rfl rfl rfl ?_
      refine z_ishr (q := 27) dX11_part_26 rfl ?_
      refine z_iconst (q := 28) (v := 1) dX11_part_27 (by decide) rfl ?_
      refine z_iand (q := 29) dX11_part_28 rfl ?_
      refine z_if_ne (t := 34) (q := 32) dX11_part_29 (by decide) rfl (fun hc => ?_) (fun hc => ?_)
      · have hF := hF.1 hc
        refine z_iconst (q := 35) (v := 0) dX11_part_34 (by decide) rfl ?_
        refine z_istore (q := 37) (L' := [some (.ref l0), some (.int l1), some (.int l2), some (.int x27), some (.int 0), none, none]) dX11_part_35 (Nat.le_of_ble_eq_true rfl) rfl rfl rfl ?_
        refine z_iconst (q := 38) (v := 0) dX11_part_37 (by decide) rfl ?_
        refine z_istore (q := 40) (L' := [some (.ref l0), some (.int l1), some (.int l2), some (.int x27), some (.int 0), some (.int 0), none]) dX11_part_38 (Nat.le_of_ble_eq_true rfl) rfl rfl rfl ?_
        exact hF
      · have hF := hF.2 hc
        refine z_iconst (q := 33) (v := 0) dX11_part_32 (by decide) rfl ?_
        exact z_ireturn dX11_part_33 rfl ⟨_, rfl, hF⟩
    · have hF := hF.2 hc
      refine z_iconst (q := 17) (v := (-1)) dX11_part_16 (by decide) rfl ?_
      exact z_ireturn dX11_part_17 rfl ⟨_, rfl, hF⟩
set_option maxRecDepth 100000 in
set_option maxHeartbeats 4000000 in
theorem wX11_pitsOf_4 {ψ : Int32 → ZH → Prop} {l0 : Nat} {l1 : Int32} {l2 : Int32} {l3 : Int32} {h : ZH} (hF : (zK h l0 = 12) ∧ (((zI h l0 17) ≤ l3 → ψ l2 h) ∧ (¬ (zI h l0 17) ≤ l3 → ((zR h l0 13) ≠ 0) ∧ (zK h (zR h l0 13) = 20) ∧ (vp_in l3 (zN h (zR h l0 13))) ∧ ((¬ (zI h (zR h l0 13) (Int32.toNatClampNeg l3)) = l1 → Zt mX11_pitsOf (zPI ψ) 0 0 4 [some (.ref l0), some (.int l1), some (.int (l2 ||| 0)), some (.int (l3 + 1))] [] h) ∧ ((zI h (zR h l0 13) (Int32.toNatClampNeg l3)) = l1 → ((zR h l0 14) ≠ 0) ∧ (zK h (zR h l0 14) = 20) ∧ (vp_in l3 (zN h (zR h l0 14))) ∧ (((zI h (zR h l0 14) (Int32.toNatClampNeg l3)) < 0 → Zt mX11_pitsOf (zPI ψ) 0 0 4 [some (.ref l0), some (.int l1), some (.int (l2 ||| 0)), some (.int (l3 + 1))] [] h) ∧ (¬ (zI h (zR h l0 14) (Int32.toNatClampNeg l3)) < 0 → ∀ v8 : Int32, v8 = (l2 ||| ((1 : Int32) <<< ((zI h (zR h l0 14) (Int32.toNatClampNeg l3)) &&& 31))) → Zt mX11_pitsOf (zPI ψ) 0 0 4 [some (.ref l0), some (.int l1), some (.int v8), some (.int (l3 + 1))] [] h))))))) : Zt mX11_pitsOf (zPI ψ) 0 0 4 [some (.ref l0), some (.int l1), some (.int l2), some (.int l3)] [] h := by
  refine z_iload_n (q := 5) dX11_pitsOf_4 rfl rfl rfl ?_
  refine z_aload_n (q := 6) dX11_pitsOf_5 rfl rfl rfl ?_
  obtain ⟨g1, hF⟩ := hF
  refine z_getI (c := 11) (k := 17) (r := (RX11, TX11, 54)) (q := 9) dX11_pitsOf_6 rfl (by decide) fl_X11_166 rfl g1 rfl ?_
  refine z_icmp_ge (t := 52) (q := 12) dX11_pitsOf_9 (by decide) rfl (fun hc => ?_) (fun hc => ?_)
  · have hF := hF.1 hc
    refine z_iload_n (q := 53) dX11_pitsOf_52 rfl rfl rfl ?_
    exact z_ireturn dX11_pitsOf_53 rfl ⟨_, rfl, hF⟩
  · have hF := hF.2 hc
    refine z_iload_n (q := 13) dX11_pitsOf_12 rfl rfl rfl ?_
    refine z_aload_n (q := 14) dX11_pitsOf_13 rfl rfl rfl ?_
    obtain ⟨g2, hF⟩ := hF
    refine z_getR (c := 11) (k := 13) (r := (RX11, TX11, 54)) (q := 17) dX11_pitsOf_14 rfl (by decide) fl_X11_47 rfl g1 g2 rfl ?_
    refine z_iload_n (q := 18) dX11_pitsOf_17 rfl rfl rfl ?_
    obtain ⟨g3, hF⟩ := hF
    obtain ⟨g4, hF⟩ := hF
    refine y_iald (j := (Int32.toNatClampNeg l3)) (q := 19) dX11_pitsOf_18 (Or.inl g3) g4 rfl rfl ?_
    refine z_iload_n (q := 20) dX11_pitsOf_19 rfl rfl rfl ?_
    refine z_icmp_ne (t := 43) (q := 23) dX11_pitsOf_20 (by decide) rfl (fun hc => ?_) (fun hc => ?_)
    · have hF := hF.1 hc
      refine z_iconst (q := 44) (v := 0) dX11_pitsOf_43 (by decide) rfl ?_
      refine z_ior (q := 45) dX11_pitsOf_44 rfl ?_
      refine z_istore_n (q := 46) (L' := [some (.ref l0), some (.int l1), some (.int (l2 ||| 0)), some (.int l3)]) dX11_pitsOf_45 rfl (Nat.le_of_ble_eq_true rfl) rfl rfl rfl ?_
      refine z_iinc (q := 49) (v := (l3 + 1)) (L' := [some (.ref l0), some (.int l1), some (.int (l2 ||| 0)), some (.int (l3 + 1))]) dX11_pitsOf_46 rfl rfl (Nat.le_of_ble_eq_true rfl) rfl rfl rfl ?_
      refine z_goto (q := 4) dX11_pitsOf_49 (by decide) ?_
      exact hF
    · have hF := hF.2 hc
      refine z_aload_n (q := 24) dX11_pitsOf_23 rfl rfl rfl ?_
      obtain ⟨g5, hF⟩ := hF
      refine z_getR (c := 11) (k := 14) (r := (RX11, TX11, 54)) (q := 27) dX11_pitsOf_24 rfl (by decide) fl_X11_50 rfl g1 g5 rfl ?_
      refine z_iload_n (q := 28) dX11_pitsOf_27 rfl rfl rfl ?_
      obtain ⟨g6, hF⟩ := hF
      obtain ⟨g7, hF⟩ := hF
      refine y_iald (j := (Int32.toNatClampNeg l3)) (q := 29) dX11_pitsOf_28 (Or.inl g6) g7 rfl rfl ?_
      refine z_if_lt (t := 43) (q := 32) dX11_pitsOf_29 (by decide) rfl (fun hc => ?_) (fun hc => ?_)
      · have hF := hF.1 hc
        refine z_iconst (q := 44) (v := 0) dX11_pitsOf_43 (by decide) rfl ?_
        refine z_ior (q := 45) dX11_pitsOf_44 rfl ?_
        refine z_istore_n (q := 46) (L' := [some (.ref l0), some (.int l1), some (.int (l2 ||| 0)), some (.int l3)]) dX11_pitsOf_45 rfl (Nat.le_of_ble_eq_true rfl) rfl rfl rfl ?_
        refine z_iinc (q := 49) (v := (l3 + 1)) (L' := [some (.ref l0), some (.int l1), some (.int (l2 ||| 0)), some (.int (l3 + 1))]) dX11_pitsOf_46 rfl rfl (Nat.le_of_ble_eq_true rfl) rfl rfl rfl ?_
        refine z_goto (q := 4) dX11_pitsOf_49 (by decide) ?_
        exact hF
      · have hF := hF.2 hc
        refine z_iconst (q := 33) (v := 1) dX11_pitsOf_32 (by decide) rfl ?_
        refine z_aload_n (q := 34) dX11_pitsOf_33 rfl rfl rfl ?_
        refine z_getR (c := 11) (k := 14) (r := (RX11, TX11, 54)) (q := 37) dX11_pitsOf_34 rfl (by decide) fl_X11_50 rfl g1 g5 rfl ?_
        refine z_iload_n (q := 38) dX11_pitsOf_37 rfl rfl rfl ?_
        refine y_iald (j := (Int32.toNatClampNeg l3)) (q := 39) dX11_pitsOf_38 (Or.inl g6) g7 rfl rfl ?_
        refine z_ishl (q := 40) dX11_pitsOf_39 rfl ?_
        refine z_goto (q := 44) dX11_pitsOf_40 (by decide) ?_
        refine z_ior (q := 45) dX11_pitsOf_44 rfl ?_
        refine z_nameI (fun v8 ev9 => ?_)
        have hF := hF v8 ev9
        refine z_istore_n (q := 46) (L' := [some (.ref l0), some (.int l1), some (.int v8), some (.int l3)]) dX11_pitsOf_45 rfl (Nat.le_of_ble_eq_true rfl) rfl rfl rfl ?_
        refine z_iinc (q := 49) (v := (l3 + 1)) (L' := [some (.ref l0), some (.int l1), some (.int v8), some (.int (l3 + 1))]) dX11_pitsOf_46 rfl rfl (Nat.le_of_ble_eq_true rfl) rfl rfl rfl ?_
        refine z_goto (q := 4) dX11_pitsOf_49 (by decide) ?_
        exact hF
set_option maxRecDepth 100000 in
set_option maxHeartbeats 4000000 in
theorem wX11_pitsOf {ψ : Int32 → ZH → Prop} {l0 : Nat} {l1 : Int32} {h : ZH} (hF : Zt mX11_pitsOf (zPI ψ) 0 0 4 [some (.ref l0), some (.int l1), some (.int 0), some (.int 0)] [] h) : ZcI mX11_pitsOf [.ref l0, .int l1] h ψ := by
  refine Zc.intro (L := [some (.ref l0), some (.int l1), none, none]) (show plainName RX11 = true by decide) rfl (Nat.le_of_ble_eq_true rfl) ?_
  show Zt _ _ 0 0 _ _ _ _
  refine z_iconst (q := 1) (v := 0) dX11_pitsOf_0 (by decide) rfl ?_
  refine z_istore_n (q := 2) (L' := [some (.ref l0), some (.int l1), some (.int 0), none]) dX11_pitsOf_1 rfl (Nat.le_of_ble_eq_true rfl) rfl rfl rfl ?_
  refine z_iconst (q := 3) (v := 0) dX11_pitsOf_2 (by decide) rfl ?_
  refine z_istore_n (q := 4) (L' := [some (.ref l0), some (.int l1), some (.int 0), some (.int 0)]) dX11_pitsOf_3 rfl (Nat.le_of_ble_eq_true rfl) rfl rfl rfl ?_
  exact hF
set_option maxRecDepth 100000 in
set_option maxHeartbeats 4000000 in
theorem wX11_work_68 {ψ : Int32 → ZH → Prop} {l0 : Nat} {l1 : Int32} {l2 : Int32} {l4 : Int32} {l5 : Int32} {s0 : Int32} {s1 : Int32} {h : ZH} (hF : (zK h l0 = 12) ∧ ((zR h l0 13) ≠ 0) ∧ (zK h (zR h l0 13) = 20) ∧ (vp_in l5 (zN h (zR h l0 13))) ∧ ((¬ (zI h (zR h l0 13) (Int32.toNatClampNeg l5)) = l1 → Zt mX11_work (zPI ψ) 0 0 32 [some (.ref l0), some (.int l1), some (.int l2), some (.int (s1 + s0)), some (.int (l4 + 0)), some (.int (l5 + 1))] [] h) ∧ ((zI h (zR h l0 13) (Int32.toNatClampNeg l5)) = l1 → ((zR h l0 16) ≠ 0) ∧ (zK h (zR h l0 16) = 20) ∧ (vp_in l5 (zN h (zR h l0 16))) ∧ (((zI h (zR h l0 16) (Int32.toNatClampNeg l5)) = 4 → Zt mX11_work (zPI ψ) 0 0 32 [some (.ref l0), some (.int l1), some (.int l2), some (.int (s1 + s0)), some (.int (l4 + 0)), some (.int (l5 + 1))] [] h) ∧ (¬ (zI h (zR h l0 16) (Int32.toNatClampNeg l5)) = 4 → Zt mX11_work (zPI ψ) 0 0 32 [some (.ref l0), some (.int l1), some (.int l2), some (.int (s1 + s0)), some (.int (l4 + 1)), some (.int (l5 + 1))] [] h))))) : Zt mX11_work (zPI ψ) 0 0 68 [some (.ref l0), some (.int l1), some (.int l2), none, some (.int l4), some (.int l5)] [.int s0, .int s1] h := by
  refine z_iadd (q := 69) dX11_work_68 rfl ?_
  refine z_istore_n (q := 70) (L' := [some (.ref l0), some (.int l1), some (.int l2), some (.int (s1 + s0)), some (.int l4), some (.int l5)]) dX11_work_69 rfl (Nat.le_of_ble_eq_true rfl) rfl rfl rfl ?_
  refine z_iload (q := 72) dX11_work_70 rfl rfl ?_
  refine z_aload_n (q := 73) dX11_work_72 rfl rfl rfl ?_
  obtain ⟨g1, hF⟩ := hF
  obtain ⟨g2, hF⟩ := hF
  refine z_getR (c := 11) (k := 13) (r := (RX11, TX11, 54)) (q := 76) dX11_work_73 rfl (by decide) fl_X11_47 rfl g1 g2 rfl ?_
  refine z_iload (q := 78) dX11_work_76 rfl rfl ?_
  obtain ⟨g3, hF⟩ := hF
  obtain ⟨g4, hF⟩ := hF
  refine y_iald (j := (Int32.toNatClampNeg l5)) (q := 79) dX11_work_78 (Or.inl g3) g4 rfl rfl ?_
  refine z_iload_n (q := 80) dX11_work_79 rfl rfl rfl ?_
  refine z_icmp_ne (t := 98) (q := 83) dX11_work_80 (by decide) rfl (fun hc => ?_) (fun hc => ?_)
  · have hF := hF.1 hc
    refine z_iconst (q := 99) (v := 0) dX11_work_98 (by decide) rfl ?_
    refine z_iadd (q := 100) dX11_work_99 rfl ?_
    refine z_istore (q := 102) (L' := [some (.ref l0), some (.int l1), some (.int l2), some (.int (s1 + s0)), some (.int (l4 + 0)), some (.int l5)]) dX11_work_100 (Nat.le_of_ble_eq_true rfl) rfl rfl rfl ?_
    refine z_iinc (q := 105) (v := (l5 + 1)) (L' := [some (.ref l0), some (.int l1), some (.int l2), some (.int (s1 + s0)), some (.int (l4 + 0)), some (.int (l5 + 1))]) dX11_work_102 rfl rfl (Nat.le_of_ble_eq_true rfl) rfl rfl rfl ?_
    refine z_goto (q := 32) dX11_work_105 (by decide) ?_
    exact hF
  · have hF := hF.2 hc
    refine z_aload_n (q := 84) dX11_work_83 rfl rfl rfl ?_
    obtain ⟨g5, hF⟩ := hF
    refine z_getR (c := 11) (k := 16) (r := (RX11, TX11, 54)) (q := 87) dX11_work_84 rfl (by decide) fl_X11_56 rfl g1 g5 rfl ?_
    refine z_iload (q := 89) dX11_work_87 rfl rfl ?_
    obtain ⟨g6, hF⟩ := hF
    obtain ⟨g7, hF⟩ := hF
    refine y_iald (j := (Int32.toNatClampNeg l5)) (q := 90) dX11_work_89 (Or.inl g6) g7 rfl rfl ?_
    refine z_iconst (q := 91) (v := 4) dX11_work_90 (by decide) rfl ?_
    refine z_icmp_eq (t := 98) (q := 94) dX11_work_91 (by decide) rfl (fun hc => ?_) (fun hc => ?_)
    · have hF := hF.1 hc
      refine z_iconst (q := 99) (v := 0) dX11_work_98 (by decide) rfl ?_
      refine z_iadd (q := 100) dX11_work_99 rfl ?_
      refine z_istore (q := 102) (L' := [some (.ref l0), some (.int l1), some (.int l2), some (.int (s1 + s0)), some (.int (l4 + 0)), some (.int l5)]) dX11_work_100 (Nat.le_of_ble_eq_true rfl) rfl rfl rfl ?_
      refine z_iinc (q := 105) (v := (l5 + 1)) (L' := [some (.ref l0), some (.int l1), some (.int l2), some (.int (s1 + s0)), some (.int (l4 + 0)), some (.int (l5 + 1))]) dX11_work_102 rfl rfl (Nat.le_of_ble_eq_true rfl) rfl rfl rfl ?_
      refine z_goto (q := 32) dX11_work_105 (by decide) ?_
      exact hF
    · have hF := hF.2 hc
      refine z_iconst (q := 95) (v := 1) dX11_work_94 (by decide) rfl ?_
      refine z_goto (q := 99) dX11_work_95 (by decide) ?_
      refine z_iadd (q := 100) dX11_work_99 rfl ?_
      refine z_istore (q := 102) (L' := [some (.ref l0), some (.int l1), some (.int l2), some (.int (s1 + s0)), some (.int (l4 + 1)), some (.int l5)]) dX11_work_100 (Nat.le_of_ble_eq_true rfl) rfl rfl rfl ?_
      refine z_iinc (q := 105) (v := (l5 + 1)) (L' := [some (.ref l0), some (.int l1), some (.int l2), some (.int (s1 + s0)), some (.int (l4 + 1)), some (.int (l5 + 1))]) dX11_work_102 rfl rfl (Nat.le_of_ble_eq_true rfl) rfl rfl rfl ?_
      refine z_goto (q := 32) dX11_work_105 (by decide) ?_
      exact hF
set_option maxRecDepth 100000 in
set_option maxHeartbeats 4000000 in
theorem wX11_work_32 {ψ : Int32 → ZH → Prop} {l0 : Nat} {l1 : Int32} {l2 : Int32} {l3 : Int32} {l4 : Int32} {l5 : Int32} {h : ZH} (hF : (zK h l0 = 12) ∧ (((zI h l0 17) ≤ l5 → ((¬ l2 = 0 → ((¬ l2 = 1 → ZcI mX11_pitsOf [.ref l0, .int l1] h (fun x10 h9 => ψ x10 h9)) ∧ (l2 = 1 → ψ l4 h))) ∧ (l2 = 0 → ψ l3 h))) ∧ (¬ (zI h l0 17) ≤ l5 → ((zR h l0 13) ≠ 0) ∧ (zK h (zR h l0 13) = 20) ∧ (vp_in l5 (zN h (zR h l0 13))) ∧ ((¬ (zI h (zR h l0 13) (Int32.toNatClampNeg l5)) = l1 → Zt mX11_work (zPI ψ) 0 0 68 [some (.ref l0), some (.int l1), some (.int l2), none, some (.int l4), some (.int l5)] [.int 0, .int l3] h) ∧ ((zI h (zR h l0 13) (Int32.toNatClampNeg l5)) = l1 → ((zR h l0 14) ≠ 0) ∧ (zK h (zR h l0 14) = 20) ∧ (vp_in l5 (zN h (zR h l0 14))) ∧ (((zI h (zR h l0 14) (Int32.toNatClampNeg l5)) < 0 → Zt mX11_work (zPI ψ) 0 0 68 [some (.ref l0), some (.int l1), some (.int l2), none, some (.int l4), some (.int l5)] [.int 0, .int l3] h) ∧ (¬ (zI h (zR h l0 14) (Int32.toNatClampNeg l5)) < 0 → Zt mX11_work (zPI ψ) 0 0 68 [some (.ref l0), some (.int l1), some (.int l2), none, some (.int l4), some (.int l5)] [.int 1, .int l3] h))))))) : Zt mX11_work (zPI ψ) 0 0 32 [some (.ref l0), some (.int l1), some (.int l2), some (.int l3), some (.int l4), some (.int l5)] [] h := by
  refine z_iload (q := 34) dX11_work_32 rfl rfl ?_
  refine z_aload_n (q := 35) dX11_work_34 rfl rfl rfl ?_
  obtain ⟨g8, hF⟩ := hF
  refine z_getI (c := 11) (k := 17) (r := (RX11, TX11, 54)) (q := 38) dX11_work_35 rfl (by decide) fl_X11_166 rfl g8 rfl ?_
  refine z_icmp_ge (t := 108) (q := 41) dX11_work_38 (by decide) rfl (fun hc => ?_) (fun hc => ?_)
  · have hF := hF.1 hc
    refine z_iload_n (q := 109) dX11_work_108 rfl rfl rfl ?_
    refine z_if_ne (t := 116) (q := 112) dX11_work_109 (by decide) rfl (fun hc => ?_) (fun hc => ?_)
    · have hF := hF.1 hc
      refine z_iload_n (q := 117) dX11_work_116 rfl rfl rfl ?_
      refine z_iconst (q := 118) (v := 1) dX11_work_117 (by decide) rfl ?_
      refine z_icmp_ne (t := 126) (q := 121) dX11_work_118 (by decide) rfl (fun hc => ?_) (fun hc => ?_)
      · have hF := hF.1 hc
        refine z_aload_n (q := 127) dX11_work_126 rfl rfl rfl ?_
        refine z_iload_n (q := 128) dX11_work_127 rfl rfl rfl ?_
        refine z_callVI (rc := 0) (rs := 0) (b := l0) (av := [.int l1]) (ci := 11) (r := (RX11, TX11, 54)) (q := 131) hF dX11_work_128 ml_X11_358 ok_X11_pitsOf in_X11_pitsOf se_X11_pitsOf rfl rfl g8 rfl (Nat.le_of_ble_eq_true rfl) (by decide) (Nat.le_of_ble_eq_true rfl) rfl rfl rfl rfl (fun x10 h9 hF => ?_)
        exact z_ireturn dX11_work_131 rfl ⟨_, rfl, hF⟩
      · have hF := hF.2 hc
        refine z_iload (q := 123) dX11_work_121 rfl rfl ?_
        refine z_goto (q := 131) dX11_work_123 (by decide) ?_
        exact z_ireturn dX11_work_131 rfl ⟨_, rfl, hF⟩
    · have hF := hF.2 hc
      refine z_iload_n (q := 113) dX11_work_112 rfl rfl rfl ?_
      refine z_goto (q := 131) dX11_work_113 (by decide) ?_
      exact z_ireturn dX11_work_131 rfl ⟨_, rfl, hF⟩
  · have hF := hF.2 hc
    refine z_iload_n (q := 42) dX11_work_41 rfl rfl rfl ?_
    refine z_aload_n (q := 43) dX11_work_42 rfl rfl rfl ?_
    obtain ⟨g11, hF⟩ := hF
    refine z_getR (c := 11) (k := 13) (r := (RX11, TX11, 54)) (q := 46) dX11_work_43 rfl (by decide) fl_X11_47 rfl g8 g11 rfl ?_
    refine z_iload (q := 48) dX11_work_46 rfl rfl ?_
    obtain ⟨g12, hF⟩ := hF
    obtain ⟨g13, hF⟩ := hF
    refine y_iald (j := (Int32.toNatClampNeg l5)) (q := 49) dX11_work_48 (Or.inl g12) g13 rfl rfl ?_
    refine z_iload_n (q := 50) dX11_work_49 rfl rfl rfl ?_
    refine z_icmp_ne (t := 67) (q := 53) dX11_work_50 (by decide) rfl (fun hc => ?_) (fun hc => ?_)
    · have hF := hF.1 hc
      refine z_iconst (q := 68) (v := 0) dX11_work_67 (by decide) rfl ?_
      refine Zt.drop (i := 3) (L' := [some (.ref l0), some (.int l1), some (.int l2), none, some (.int l4), some (.int l5)]) rfl ?_
      exact hF
    · have hF := hF.2 hc
      refine z_aload_n (q := 54) dX11_work_53 rfl rfl rfl ?_
      obtain ⟨g14, hF⟩ := hF
      refine z_getR (c := 11) (k := 14) (r := (RX11, TX11, 54)) (q := 57) dX11_work_54 rfl (by decide) fl_X11_50 rfl g8 g14 rfl ?_
      refine z_iload (q := 59) dX11_work_57 rfl rfl ?_
      obtain ⟨g15, hF⟩ := hF
      obtain ⟨g16, hF⟩ := hF
      refine y_iald (j := (Int32.toNatClampNeg l5)) (q := 60) dX11_work_59 (Or.inl g15) g16 rfl rfl ?_
      refine z_if_lt (t := 67) (q := 63) dX11_work_60 (by decide) rfl (fun hc => ?_) (fun hc => ?_)
      · have hF := hF.1 hc
        refine z_iconst (q := 68) (v := 0) dX11_work_67 (by decide) rfl ?_
        refine Zt.drop (i := 3) (L' := [some (.ref l0), some (.int l1), some (.int l2), none, some (.int l4), some (.int l5)]) rfl ?_
        exact hF
      · have hF := hF.2 hc
        refine z_iconst (q := 64) (v := 1) dX11_work_63 (by decide) rfl ?_
        refine z_goto (q := 68) dX11_work_64 (by decide) ?_
        refine Zt.drop (i := 3) (L' := [some (.ref l0), some (.int l1), some (.int l2), none, some (.int l4), some (.int l5)]) rfl ?_
        exact hF
set_option maxRecDepth 100000 in
set_option maxHeartbeats 4000000 in
theorem wX11_work {ψ : Int32 → ZH → Prop} {l0 : Nat} {l1 : Int32} {l2 : Int32} {h : ZH} (hF : ZcI mX11_isTown [.int l1] h (fun x18 h17 => ((¬ x18 = 0 → ZcI mX11_in [.long (Int32.toInt64 l2), .long 0, .long 2] h17 (fun x20 h19 => ((¬ x20 = 0 → Zt mX11_work (zPI ψ) 0 0 32 [some (.ref l0), some (.int l1), some (.int l2), some (.int 0), some (.int 0), some (.int 0)] [] h19) ∧ (x20 = 0 → ψ (-2) h19)))) ∧ (x18 = 0 → ψ (-1) h17)))) : ZcI mX11_work [.ref l0, .int l1, .int l2] h ψ := by
  refine Zc.intro (L := [some (.ref l0), some (.int l1), some (.int l2), none, none, none]) (show plainName RX11 = true by decide) rfl (Nat.le_of_ble_eq_true rfl) ?_
  show Zt _ _ 0 0 _ _ _ _
  refine z_iload_n (q := 1) dX11_work_0 rfl rfl rfl ?_
  refine z_callSI (rc := 0) (rs := 0) (av := [.int l1]) (q := 4) hF dX11_work_1 ml_X11_150 ok_X11_isTown st_X11_isTown rfl (Nat.le_of_ble_eq_true rfl) (by decide) (Nat.le_of_ble_eq_true rfl) rfl rfl rfl rfl (fun x18 h17 hF => ?_)
  refine z_if_ne (t := 9) (q := 7) dX11_work_4 (by decide) rfl (fun hc => ?_) (fun hc => ?_)
  · have hF := hF.1 hc
    refine z_iload_n (q := 10) dX11_work_9 rfl rfl rfl ?_
    refine z_i2l (q := 11) dX11_work_10 rfl ?_
    refine z_lconst (q := 12) (v := 0) dX11_work_11 (by decide) rfl ?_
    refine z_ldc2 (q := 15) (v := 2) dX11_work_12 cw_X11_183 rfl ?_
    refine z_callSI (rc := 0) (rs := 0) (av := [.long (Int32.toInt64 l2), .long 0, .long 2]) (q := 18) hF dX11_work_15 ml_X11_140 ok_X11_in st_X11_in rfl (Nat.le_of_ble_eq_true rfl) (by decide) (Nat.le_of_ble_eq_true rfl) rfl rfl rfl rfl (fun x20 h19 hF => ?_)
    refine z_if_ne (t := 24) (q := 21) dX11_work_18 (by decide) rfl (fun hc => ?_) (fun hc => ?_)
    · have hF := hF.1 hc
      refine z_iconst (q := 25) (v := 0) dX11_work_24 (by decide) rfl ?_
      refine z_istore_n (q := 26) (L' := [some (.ref l0), some (.int l1), some (.int l2), some (.int 0), none, none]) dX11_work_25 rfl (Nat.le_of_ble_eq_true rfl) rfl rfl rfl ?_
      refine z_iconst (q := 27) (v := 0) dX11_work_26 (by decide) rfl ?_
      refine z_istore (q := 29) (L' := [some (.ref l0), some (.int l1), some (.int l2), some (.int 0), some (.int 0), none]) dX11_work_27 (Nat.le_of_ble_eq_true rfl) rfl rfl rfl ?_
      refine z_iconst (q := 30) (v := 0) dX11_work_29 (by decide) rfl ?_
      refine z_istore (q := 32) (L' := [some (.ref l0), some (.int l1), some (.int l2), some (.int 0), some (.int 0), some (.int 0)]) dX11_work_30 (Nat.le_of_ble_eq_true rfl) rfl rfl rfl ?_
      exact hF
    · have hF := hF.2 hc
      refine z_bipush (q := 23) (v := (-2)) dX11_work_21 (by decide) rfl ?_
      exact z_ireturn dX11_work_23 rfl ⟨_, rfl, hF⟩
  · have hF := hF.2 hc
    refine z_iconst (q := 8) (v := (-1)) dX11_work_7 (by decide) rfl ?_
    exact z_ireturn dX11_work_8 rfl ⟨_, rfl, hF⟩
set_option maxRecDepth 100000 in
set_option maxHeartbeats 4000000 in
theorem wX11_lone_4 {ψ : Int32 → ZH → Prop} {l0 : Nat} {l1 : Int32} {l2 : Int32} {h : ZH} (hF : ((6 ≤ l2 → ψ l1 h) ∧ (¬ 6 ≤ l2 → (zK h l0 = 12) ∧ ZcI mX11_pitsOf [.ref l0, .int l2] h (fun x3 h1 => ZcI mX11_ones [.int x3] h1 (fun x5 h4 => ((¬ x5 = 1 → Zt mX11_lone (zPI ψ) 0 0 4 [some (.ref l0), some (.int (l1 ||| 0)), some (.int (l2 + 1))] [] h4) ∧ (x5 = 1 → Zt mX11_lone (zPI ψ) 0 0 4 [some (.ref l0), some (.int (l1 ||| ((1 : Int32) <<< (l2 &&& 31)))), some (.int (l2 + 1))] [] h4))))))) : Zt mX11_lone (zPI ψ) 0 0 4 [some (.ref l0), some (.int l1), some (.int l2)] [] h := by
  refine z_iload_n (q := 5) dX11_lone_4 rfl rfl rfl ?_
  refine z_bipush (q := 7) (v := 6) dX11_lone_5 (by decide) rfl ?_
  refine z_icmp_ge (t := 38) (q := 10) dX11_lone_7 (by decide) rfl (fun hc => ?_) (fun hc => ?_)
  · have hF := hF.1 hc
    refine z_iload_n (q := 39) dX11_lone_38 rfl rfl rfl ?_
    exact z_ireturn dX11_lone_39 rfl ⟨_, rfl, hF⟩
  · have hF := hF.2 hc
    refine z_iload_n (q := 11) dX11_lone_10 rfl rfl rfl ?_
    refine z_aload_n (q := 12) dX11_lone_11 rfl rfl rfl ?_
    refine z_iload_n (q := 13) dX11_lone_12 rfl rfl rfl ?_
    obtain ⟨g2, hF⟩ := hF
    refine z_callVI (rc := 0) (rs := 0) (b := l0) (av := [.int l2]) (ci := 11) (r := (RX11, TX11, 54)) (q := 16) hF dX11_lone_13 ml_X11_358 ok_X11_pitsOf in_X11_pitsOf se_X11_pitsOf rfl rfl g2 rfl (Nat.le_of_ble_eq_true rfl) (by decide) (Nat.le_of_ble_eq_true rfl) rfl rfl rfl rfl (fun x3 h1 hF => ?_)
    refine z_callSI (rc := 0) (rs := 0) (av := [.int x3]) (q := 19) hF dX11_lone_16 ml_X11_361 ok_X11_ones st_X11_ones rfl (Nat.le_of_ble_eq_true rfl) (by decide) (Nat.le_of_ble_eq_true rfl) rfl rfl rfl rfl (fun x5 h4 hF => ?_)
    refine z_iconst (q := 20) (v := 1) dX11_lone_19 (by decide) rfl ?_
    refine z_icmp_ne (t := 29) (q := 23) dX11_lone_20 (by decide) rfl (fun hc => ?_) (fun hc => ?_)
    · have hF := hF.1 hc
      refine z_iconst (q := 30) (v := 0) dX11_lone_29 (by decide) rfl ?_
      refine z_ior (q := 31) dX11_lone_30 rfl ?_
      refine z_istore_n (q := 32) (L' := [some (.ref l0), some (.int (l1 ||| 0)), some (.int l2)]) dX11_lone_31 rfl (Nat.le_of_ble_eq_true rfl) rfl rfl rfl ?_
      refine z_iinc (q := 35) (v := (l2 + 1)) (L' := [some (.ref l0), some (.int (l1 ||| 0)), some (.int (l2 + 1))]) dX11_lone_32 rfl rfl (Nat.le_of_ble_eq_true rfl) rfl rfl rfl ?_
      refine z_goto (q := 4) dX11_lone_35 (by decide) ?_
      exact hF
    · have hF := hF.2 hc
      refine z_iconst (q := 24) (v := 1) dX11_lone_23 (by decide) rfl ?_
      refine z_iload_n (q := 25) dX11_lone_24 rfl rfl rfl ?_
      refine z_ishl (q := 26) dX11_lone_25 rfl ?_
      refine z_goto (q := 30) dX11_lone_26 (by decide) ?_
      refine z_ior (q := 31) dX11_lone_30 rfl ?_
      refine z_istore_n (q := 32) (L' := [some (.ref l0), some (.int (l1 ||| ((1 : Int32) <<< (l2 &&& 31)))), some (.int l2)]) dX11_lone_31 rfl (Nat.le_of_ble_eq_true rfl) rfl rfl rfl ?_
      refine z_iinc (q := 35) (v := (l2 + 1)) (L' := [some (.ref l0), some (.int (l1 ||| ((1 : Int32) <<< (l2 &&& 31)))), some (.int (l2 + 1))]) dX11_lone_32 rfl rfl (Nat.le_of_ble_eq_true rfl) rfl rfl rfl ?_
      refine z_goto (q := 4) dX11_lone_35 (by decide) ?_
      exact hF
set_option maxRecDepth 100000 in
set_option maxHeartbeats 4000000 in
theorem wX11_lone {ψ : Int32 → ZH → Prop} {l0 : Nat} {h : ZH} (hF : Zt mX11_lone (zPI ψ) 0 0 4 [some (.ref l0), some (.int 0), some (.int 0)] [] h) : ZcI mX11_lone [.ref l0] h ψ := by
  refine Zc.intro (L := [some (.ref l0), none, none]) (show plainName RX11 = true by decide) rfl (Nat.le_of_ble_eq_true rfl) ?_
  show Zt _ _ 0 0 _ _ _ _
  refine z_iconst (q := 1) (v := 0) dX11_lone_0 (by decide) rfl ?_
  refine z_istore_n (q := 2) (L' := [some (.ref l0), some (.int 0), none]) dX11_lone_1 rfl (Nat.le_of_ble_eq_true rfl) rfl rfl rfl ?_
  refine z_iconst (q := 3) (v := 0) dX11_lone_2 (by decide) rfl ?_
  refine z_istore_n (q := 4) (L' := [some (.ref l0), some (.int 0), some (.int 0)]) dX11_lone_3 rfl (Nat.le_of_ble_eq_true rfl) rfl rfl rfl ?_
  exact hF
set_option maxRecDepth 100000 in
set_option maxHeartbeats 4000000 in
theorem wX11_told_81 {ψ : Int32 → ZH → Prop} {l0 : Nat} {l1 : Int32} {l2 : Int32} {l3 : Int32} {h : ZH} (hF : (zK h l0 = 12) ∧ (((zI h l0 9) ≤ l3 → ((l1 = 0 → ψ (zI h l0 9) h) ∧ (l1 = 1 → ψ (zI h l0 17) h) ∧ (l1 = 2 → ((zR h l0 20) ≠ 0) ∧ (zK h (zR h l0 20) = 20) ∧ (3 < zN h (zR h l0 20)) ∧ ψ (zI h (zR h l0 20) 3) h) ∧ (l1 = 3 → ψ (zI h l0 39) h) ∧ (l1 = 4 → ψ (zI h l0 53) h) ∧ (l1 = 5 → ψ (zI h l0 40) h) ∧ (l1 = 6 → ψ (zI h l0 41) h) ∧ (l1 = 7 → ψ (zI h l0 42) h) ∧ (l1 = 8 → ψ l2 h) ∧ (¬ l1 = 0 → ¬ l1 = 1 → ¬ l1 = 2 → ¬ l1 = 3 → ¬ l1 = 4 → ¬ l1 = 5 → ¬ l1 = 6 → ¬ l1 = 7 → ¬ l1 = 8 → ψ (-2) h))) ∧ (¬ (zI h l0 9) ≤ l3 → ((zR h l0 7) ≠ 0) ∧ (zK h (zR h l0 7) = 21) ∧ (vp_in l3 (zN h (zR h l0 7))) ∧ (((zI h (zR h l0 7) (Int32.toNatClampNeg l3)) = 0 → Zt mX11_told (zPI ψ) 0 0 81 [some (.ref l0), some (.int l1), some (.int (l2 ||| 0)), some (.int (l3 + 1))] [] h) ∧ (¬ (zI h (zR h l0 7) (Int32.toNatClampNeg l3)) = 0 → Zt mX11_told (zPI ψ) 0 0 81 [some (.ref l0), some (.int l1), some (.int (l2 ||| ((1 : Int32) <<< (l3 &&& 31)))), some (.int (l3 + 1))] [] h))))) : Zt mX11_told (zPI ψ) 0 0 81 [some (.ref l0), some (.int l1), some (.int l2), some (.int l3)] [] h := by
  refine z_iload_n (q := 82) dX11_told_81 rfl rfl rfl ?_
  refine z_aload_n (q := 83) dX11_told_82 rfl rfl rfl ?_
  obtain ⟨g1, hF⟩ := hF
  refine z_getI (c := 11) (k := 9) (r := (RX11, TX11, 54)) (q := 86) dX11_told_83 rfl (by decide) fl_X11_144 rfl g1 rfl ?_
  refine z_icmp_ge (t := 114) (q := 89) dX11_told_86 (by decide) rfl (fun hc => ?_) (fun hc => ?_)
  · have hF := hF.1 hc
    refine z_iload_n (q := 115) dX11_told_114 rfl rfl rfl ?_
    by_cases e2 : l1 = 0
    · refine z_tableIn (q := 164) (off := 49) dX11_told_115 (by rw [e2]; decide) (by rw [e2]; decide) (by rw [e2]; decide) (by decide) ?_
      have hF := hF.1 e2
      refine z_aload_n (q := 165) dX11_told_164 rfl rfl rfl ?_
      refine z_getI (c := 11) (k := 9) (r := (RX11, TX11, 54)) (q := 168) dX11_told_165 rfl (by decide) fl_X11_144 rfl g1 rfl ?_
      exact z_ireturn dX11_told_168 rfl ⟨_, rfl, hF⟩
    by_cases e3 : l1 = 1
    · refine z_tableIn (q := 169) (off := 54) dX11_told_115 (by rw [e3]; decide) (by rw [e3]; decide) (by rw [e3]; decide) (by decide) ?_
      have hF := hF.2.1 e3
      refine z_aload_n (q := 170) dX11_told_169 rfl rfl rfl ?_
      refine z_getI (c := 11) (k := 17) (r := (RX11, TX11, 54)) (q := 173) dX11_told_170 rfl (by decide) fl_X11_166 rfl g1 rfl ?_
      exact z_ireturn dX11_told_173 rfl ⟨_, rfl, hF⟩
    by_cases e4 : l1 = 2
    · refine z_tableIn (q := 174) (off := 59) dX11_told_115 (by rw [e4]; decide) (by rw [e4]; decide) (by rw [e4]; decide) (by decide) ?_
      have hF := hF.2.2.1 e4
      refine z_aload_n (q := 175) dX11_told_174 rfl rfl rfl ?_
      obtain ⟨g11, hF⟩ := hF
      refine z_getR (c := 11) (k := 20) (r := (RX11, TX11, 54)) (q := 178) dX11_told_175 rfl (by decide) fl_X11_65 rfl g1 g11 rfl ?_
      refine z_iconst (q := 179) (v := 3) dX11_told_178 (by decide) rfl ?_
      obtain ⟨g12, hF⟩ := hF
      obtain ⟨g13, hF⟩ := hF
      refine y_iald (j := 3) (q := 180) dX11_told_179 (Or.inl g12) (zvin (by decide) (by decide) g13) (by decide) rfl ?_
      exact z_ireturn dX11_told_180 rfl ⟨_, rfl, hF⟩
    by_cases e5 : l1 = 3
    · refine z_tableIn (q := 181) (off := 66) dX11_told_115 (by rw [e5]; decide) (by rw [e5]; decide) (by rw [e5]; decide) (by decide) ?_
      have hF := hF.2.2.2.1 e5
      refine z_aload_n (q := 182) dX11_told_181 rfl rfl rfl ?_
      refine z_getI (c := 11) (k := 39) (r := (RX11, TX11, 54)) (q := 185) dX11_told_182 rfl (by decide) fl_X11_293 rfl g1 rfl ?_
      exact z_ireturn dX11_told_185 rfl ⟨_, rfl, hF⟩
    by_cases e6 : l1 = 4
    · refine z_tableIn (q := 186) (off := 71) dX11_told_115 (by rw [e6]; decide) (by rw [e6]; decide) (by rw [e6]; decide) (by decide) ?_
      have hF := hF.2.2.2.2.1 e6
      refine z_aload_n (q := 187) dX11_told_186 rfl rfl rfl ?_
      refine z_getI (c := 11) (k := 53) (r := (RX11, TX11, 54)) (q := 190) dX11_told_187 rfl (by decide) fl_X11_343 rfl g1 rfl ?_
      exact z_ireturn dX11_told_190 rfl ⟨_, rfl, hF⟩
    by_cases e7 : l1 = 5
    · refine z_tableIn (q := 191) (off := 76) dX11_told_115 (by rw [e7]; decide) (by rw [e7]; decide) (by rw [e7]; decide) (by decide) ?_
      have hF := hF.2.2.2.2.2.1 e7
      refine z_aload_n (q := 192) dX11_told_191 rfl rfl rfl ?_
      refine z_getI (c := 11) (k := 40) (r := (RX11, TX11, 54)) (q := 195) dX11_told_192 rfl (by decide) fl_X11_314 rfl g1 rfl ?_
      exact z_ireturn dX11_told_195 rfl ⟨_, rfl, hF⟩
    by_cases e8 : l1 = 6
    · refine z_tableIn (q := 196) (off := 81) dX11_told_115 (by rw [e8]; decide) (by rw [e8]; decide) (by rw [e8]; decide) (by decide) ?_
      have hF := hF.2.2.2.2.2.2.1 e8
      refine z_aload_n (q := 197) dX11_told_196 rfl rfl rfl ?_
      refine z_getI (c := 11) (k := 41) (r := (RX11, TX11, 54)) (q := 200) dX11_told_197 rfl (by decide) fl_X11_300 rfl g1 rfl ?_
      exact z_ireturn dX11_told_200 rfl ⟨_, rfl, hF⟩
    by_cases e9 : l1 = 7
    · refine z_tableIn (q := 201) (off := 86) dX11_told_115 (by rw [e9]; decide) (by rw [e9]; decide) (by rw [e9]; decide) (by decide) ?_
      have hF := hF.2.2.2.2.2.2.2.1 e9
      refine z_aload_n (q := 202) dX11_told_201 rfl rfl rfl ?_
      refine z_getI (c := 11) (k := 42) (r := (RX11, TX11, 54)) (q := 205) dX11_told_202 rfl (by decide) fl_X11_303 rfl g1 rfl ?_
      exact z_ireturn dX11_told_205 rfl ⟨_, rfl, hF⟩
    by_cases e10 : l1 = 8
    · refine z_tableIn (q := 206) (off := 91) dX11_told_115 (by rw [e10]; decide) (by rw [e10]; decide) (by rw [e10]; decide) (by decide) ?_
      have hF := hF.2.2.2.2.2.2.2.2.1 e10
      refine z_iload_n (q := 207) dX11_told_206 rfl rfl rfl ?_
      exact z_ireturn dX11_told_207 rfl ⟨_, rfl, hF⟩
    refine z_tableOut (q := 208) dX11_told_115 (by
      have k0 := zsw_ne (k := 0) e2 (by decide)
      have k1 := zsw_ne (k := 1) e3 (by decide)
      have k2 := zsw_ne (k := 2) e4 (by decide)
      have k3 := zsw_ne (k := 3) e5 (by decide)
      have k4 := zsw_ne (k := 4) e6 (by decide)
      have k5 := zsw_ne (k := 5) e7 (by decide)
      have k6 := zsw_ne (k := 6) e8 (by decide)
      have k7 := zsw_ne (k := 7) e9 (by decide)
      have k8 := zsw_ne (k := 8) e10 (by decide)
      omega) (by decide) ?_
    have hF := hF.2.2.2.2.2.2.2.2.2 e2 e3 e4 e5 e6 e7 e8 e9 e10
    refine z_bipush (q := 210) (v := (-2)) dX11_told_208 (by decide) rfl ?_
    exact z_ireturn dX11_told_210 rfl ⟨_, rfl, hF⟩
  · have hF := hF.2 hc
    refine z_iload_n (q := 90) dX11_told_89 rfl rfl rfl ?_
    refine z_aload_n (q := 91) dX11_told_90 rfl rfl rfl ?_
    obtain ⟨g14, hF⟩ := hF
    refine z_getR (c := 11) (k := 7) (r := (RX11, TX11, 54)) (q := 94) dX11_told_91 rfl (by decide) fl_X11_31 rfl g1 g14 rfl ?_
    refine z_iload_n (q := 95) dX11_told_94 rfl rfl rfl ?_
    obtain ⟨g15, hF⟩ := hF
    obtain ⟨g16, hF⟩ := hF
    refine y_bald (j := (Int32.toNatClampNeg l3)) (q := 96) dX11_told_95 g15 g16 rfl rfl ?_
    refine z_if_eq (t := 105) (q := 99) dX11_told_96 (by decide) rfl (fun hc => ?_) (fun hc => ?_)
    · have hF := hF.1 hc
      refine z_iconst (q := 106) (v := 0) dX11_told_105 (by decide) rfl ?_
      refine z_ior (q := 107) dX11_told_106 rfl ?_
      refine z_istore_n (q := 108) (L' := [some (.ref l0), some (.int l1), some (.int (l2 ||| 0)), some (.int l3)]) dX11_told_107 rfl (Nat.le_of_ble_eq_true rfl) rfl rfl rfl ?_
      refine z_iinc (q := 111) (v := (l3 + 1)) (L' := [some (.ref l0), some (.int l1), some (.int (l2 ||| 0)), some (.int (l3 + 1))]) dX11_told_108 rfl rfl (Nat.le_of_ble_eq_true rfl) rfl rfl rfl ?_
      refine z_goto (q := 81) dX11_told_111 (by decide) ?_
      exact hF
    · have hF := hF.2 hc
      refine z_iconst (q := 100) (v := 1) dX11_told_99 (by decide) rfl ?_
      refine z_iload_n (q := 101) dX11_told_100 rfl rfl rfl ?_
      refine z_ishl (q := 102) dX11_told_101 rfl ?_
      refine z_goto (q := 106) dX11_told_102 (by decide) ?_
      refine z_ior (q := 107) dX11_told_106 rfl ?_
      refine z_istore_n (q := 108) (L' := [some (.ref l0), some (.int l1), some (.int (l2 ||| ((1 : Int32) <<< (l3 &&& 31)))), some (.int l3)]) dX11_told_107 rfl (Nat.le_of_ble_eq_true rfl) rfl rfl rfl ?_
      refine z_iinc (q := 111) (v := (l3 + 1)) (L' := [some (.ref l0), some (.int l1), some (.int (l2 ||| ((1 : Int32) <<< (l3 &&& 31)))), some (.int (l3 + 1))]) dX11_told_108 rfl rfl (Nat.le_of_ble_eq_true rfl) rfl rfl rfl ?_
      refine z_goto (q := 81) dX11_told_111 (by decide) ?_
      exact hF
set_option maxRecDepth 100000 in
set_option maxHeartbeats 4000000 in
theorem wX11_told_42 {ψ : Int32 → ZH → Prop} {l0 : Nat} {l1 : Int32} {l2 : Int32} {l3 : Int32} {h : ZH} (hF : (zK h l0 = 12) ∧ (((zI h l0 17) ≤ l3 → ψ l2 h) ∧ (¬ (zI h l0 17) ≤ l3 → ((zR h l0 16) ≠ 0) ∧ (zK h (zR h l0 16) = 20) ∧ (vp_in l3 (zN h (zR h l0 16))) ∧ ((¬ (zI h (zR h l0 16) (Int32.toNatClampNeg l3)) = (l1 - 10) → Zt mX11_told (zPI ψ) 0 0 42 [some (.ref l0), some (.int l1), some (.int (l2 + 0)), some (.int (l3 + 1))] [] h) ∧ ((zI h (zR h l0 16) (Int32.toNatClampNeg l3)) = (l1 - 10) → Zt mX11_told (zPI ψ) 0 0 42 [some (.ref l0), some (.int l1), some (.int (l2 + 1)), some (.int (l3 + 1))] [] h))))) : Zt mX11_told (zPI ψ) 0 0 42 [some (.ref l0), some (.int l1), some (.int l2), some (.int l3)] [] h := by
  refine z_iload_n (q := 43) dX11_told_42 rfl rfl rfl ?_
  refine z_aload_n (q := 44) dX11_told_43 rfl rfl rfl ?_
  obtain ⟨g17, hF⟩ := hF
  refine z_getI (c := 11) (k := 17) (r := (RX11, TX11, 54)) (q := 47) dX11_told_44 rfl (by decide) fl_X11_166 rfl g17 rfl ?_
  refine z_icmp_ge (t := 77) (q := 50) dX11_told_47 (by decide) rfl (fun hc => ?_) (fun hc => ?_)
  · have hF := hF.1 hc
    refine z_iload_n (q := 78) dX11_told_77 rfl rfl rfl ?_
    exact z_ireturn dX11_told_78 rfl ⟨_, rfl, hF⟩
  · have hF := hF.2 hc
    refine z_iload_n (q := 51) dX11_told_50 rfl rfl rfl ?_
    refine z_aload_n (q := 52) dX11_told_51 rfl rfl rfl ?_
    obtain ⟨g18, hF⟩ := hF
    refine z_getR (c := 11) (k := 16) (r := (RX11, TX11, 54)) (q := 55) dX11_told_52 rfl (by decide) fl_X11_56 rfl g17 g18 rfl ?_
    refine z_iload_n (q := 56) dX11_told_55 rfl rfl rfl ?_
    obtain ⟨g19, hF⟩ := hF
    obtain ⟨g20, hF⟩ := hF
    refine y_iald (j := (Int32.toNatClampNeg l3)) (q := 57) dX11_told_56 (Or.inl g19) g20 rfl rfl ?_
    refine z_iload_n (q := 58) dX11_told_57 rfl rfl rfl ?_
    refine z_bipush (q := 60) (v := 10) dX11_told_58 (by decide) rfl ?_
    refine z_isub (q := 61) dX11_told_60 rfl ?_
    refine z_icmp_ne (t := 68) (q := 64) dX11_told_61 (by decide) rfl (fun hc => ?_) (fun hc => ?_)
    · have hF := hF.1 hc
      refine z_iconst (q := 69) (v := 0) dX11_told_68 (by decide) rfl ?_
      refine z_iadd (q := 70) dX11_told_69 rfl ?_
      refine z_istore_n (q := 71) (L' := [some (.ref l0), some (.int l1), some (.int (l2 + 0)), some (.int l3)]) dX11_told_70 rfl (Nat.le_of_ble_eq_true rfl) rfl rfl rfl ?_
      refine z_iinc (q := 74) (v := (l3 + 1)) (L' := [some (.ref l0), some (.int l1), some (.int (l2 + 0)), some (.int (l3 + 1))]) dX11_told_71 rfl rfl (Nat.le_of_ble_eq_true rfl) rfl rfl rfl ?_
      refine z_goto (q := 42) dX11_told_74 (by decide) ?_
      exact hF
    · have hF := hF.2 hc
      refine z_iconst (q := 65) (v := 1) dX11_told_64 (by decide) rfl ?_
      refine z_goto (q := 69) dX11_told_65 (by decide) ?_
      refine z_iadd (q := 70) dX11_told_69 rfl ?_
      refine z_istore_n (q := 71) (L' := [some (.ref l0), some (.int l1), some (.int (l2 + 1)), some (.int l3)]) dX11_told_70 rfl (Nat.le_of_ble_eq_true rfl) rfl rfl rfl ?_
      refine z_iinc (q := 74) (v := (l3 + 1)) (L' := [some (.ref l0), some (.int l1), some (.int (l2 + 1)), some (.int (l3 + 1))]) dX11_told_71 rfl rfl (Nat.le_of_ble_eq_true rfl) rfl rfl rfl ?_
      refine z_goto (q := 42) dX11_told_74 (by decide) ?_
      exact hF
set_option maxRecDepth 100000 in
set_option maxHeartbeats 4000000 in
theorem wX11_told {ψ : Int32 → ZH → Prop} {l0 : Nat} {l1 : Int32} {h : ZH} (hF : ZcI mX11_in [.long (Int32.toInt64 l1), .long 20, .long 26] h (fun x22 h21 => ((x22 = 0 → ZcI mX11_in [.long (Int32.toInt64 l1), .long 10, .long 14] h21 (fun x24 h23 => ((x24 = 0 → Zt mX11_told (zPI ψ) 0 0 81 [some (.ref l0), some (.int l1), some (.int 0), some (.int 0)] [] h23) ∧ (¬ x24 = 0 → Zt mX11_told (zPI ψ) 0 0 42 [some (.ref l0), some (.int l1), some (.int 0), some (.int 0)] [] h23)))) ∧ (¬ x22 = 0 → (zK h21 l0 = 12) ∧ ((zR h21 l0 18) ≠ 0) ∧ (zK h21 (zR h21 l0 18) = 20) ∧ (vp_in (l1 - 20) (zN h21 (zR h21 l0 18))) ∧ ψ (zI h21 (zR h21 l0 18) (Int32.toNatClampNeg (l1 - 20))) h21)))) : ZcI mX11_told [.ref l0, .int l1] h ψ := by
  refine Zc.intro (L := [some (.ref l0), some (.int l1), none, none]) (show plainName RX11 = true by decide) rfl (Nat.le_of_ble_eq_true rfl) ?_
  show Zt _ _ 0 0 _ _ _ _
  refine z_iload_n (q := 1) dX11_told_0 rfl rfl rfl ?_
  refine z_i2l (q := 2) dX11_told_1 rfl ?_
  refine z_ldc2 (q := 5) (v := 20) dX11_told_2 cw_X11_364 rfl ?_
  refine z_ldc2 (q := 8) (v := 26) dX11_told_5 cw_X11_366 rfl ?_
  refine z_callSI (rc := 0) (rs := 0) (av := [.long (Int32.toInt64 l1), .long 20, .long 26]) (q := 11) hF dX11_told_8 ml_X11_140 ok_X11_in st_X11_in rfl (Nat.le_of_ble_eq_true rfl) (by decide) (Nat.le_of_ble_eq_true rfl) rfl rfl rfl rfl (fun x22 h21 hF => ?_)
  refine z_if_eq (t := 24) (q := 14) dX11_told_11 (by decide) rfl (fun hc => ?_) (fun hc => ?_)
  · have hF := hF.1 hc
    refine z_iconst (q := 25) (v := 0) dX11_told_24 (by decide) rfl ?_
    refine z_istore_n (q := 26) (L' := [some (.ref l0), some (.int l1), some (.int 0), none]) dX11_told_25 rfl (Nat.le_of_ble_eq_true rfl) rfl rfl rfl ?_
    refine z_iload_n (q := 27) dX11_told_26 rfl rfl rfl ?_
    refine z_i2l (q := 28) dX11_told_27 rfl ?_
    refine z_ldc2 (q := 31) (v := 10) dX11_told_28 cw_X11_175 rfl ?_
    refine z_ldc2 (q := 34) (v := 14) dX11_told_31 cw_X11_179 rfl ?_
    refine z_callSI (rc := 0) (rs := 0) (av := [.long (Int32.toInt64 l1), .long 10, .long 14]) (q := 37) hF dX11_told_34 ml_X11_140 ok_X11_in st_X11_in rfl (Nat.le_of_ble_eq_true rfl) (by decide) (Nat.le_of_ble_eq_true rfl) rfl rfl rfl rfl (fun x24 h23 hF => ?_)
    refine z_if_eq (t := 79) (q := 40) dX11_told_37 (by decide) rfl (fun hc => ?_) (fun hc => ?_)
    · have hF := hF.1 hc
      refine z_iconst (q := 80) (v := 0) dX11_told_79 (by decide) rfl ?_
      refine z_istore_n (q := 81) (L' := [some (.ref l0), some (.int l1), some (.int 0), some (.int 0)]) dX11_told_80 rfl (Nat.le_of_ble_eq_true rfl) rfl rfl rfl ?_
      exact hF
    · have hF := hF.2 hc
      refine z_iconst (q := 41) (v := 0) dX11_told_40 (by decide) rfl ?_
      refine z_istore_n (q := 42) (L' := [some (.ref l0), some (.int l1), some (.int 0), some (.int 0)]) dX11_told_41 rfl (Nat.le_of_ble_eq_true rfl) rfl rfl rfl ?_
      exact hF
  · have hF := hF.2 hc
    refine z_aload_n (q := 15) dX11_told_14 rfl rfl rfl ?_
    obtain ⟨g25, hF⟩ := hF
    obtain ⟨g26, hF⟩ := hF
    refine z_getR (c := 11) (k := 18) (r := (RX11, TX11, 54)) (q := 18) dX11_told_15 rfl (by decide) fl_X11_59 rfl g25 g26 rfl ?_
    refine z_iload_n (q := 19) dX11_told_18 rfl rfl rfl ?_
    refine z_bipush (q := 21) (v := 20) dX11_told_19 (by decide) rfl ?_
    refine z_isub (q := 22) dX11_told_21 rfl ?_
    obtain ⟨g27, hF⟩ := hF
    obtain ⟨g28, hF⟩ := hF
    refine y_iald (j := (Int32.toNatClampNeg (l1 - 20))) (q := 23) dX11_told_22 (Or.inl g27) g28 rfl rfl ?_
    exact z_ireturn dX11_told_23 rfl ⟨_, rfl, hF⟩
