theorem zin {ws : List Cond} (ps : List Nat) (hp : ws = ps.filterMap (fun i => tables_1[i]?)) (h : ws.all goodWord = true) : ∀ w ∈ ws, w ∈ zgood := by
  intro w hw
  have h1 := List.all_eq_true.mp h w hw
  rw [hp] at hw
  obtain ⟨i, -, hi⟩ := List.mem_filterMap.mp hw
  exact zgood_t i hi h1
set_option maxRecDepth 100000 in
theorem zinX0 : ∀ w ∈ u_ws RX0 TX0 3, w ∈ zgood := zin [820, 822, 824] (by decide +kernel) (by decide +kernel)
set_option maxRecDepth 100000 in
theorem zinX1 : ∀ w ∈ u_ws RX1 TX1 7, w ∈ zgood := zin [431, 433, 435, 437, 439, 441, 443] (by decide +kernel) (by decide +kernel)
set_option maxRecDepth 100000 in
theorem zinX2 : ∀ w ∈ u_ws RX2 TX2 8, w ∈ zgood := zin [88, 90, 92, 94, 96, 98, 100, 102] (by decide +kernel) (by decide +kernel)
set_option maxRecDepth 100000 in
theorem zinX3 : ∀ w ∈ u_ws RX3 TX3 2, w ∈ zgood := zin [60, 62] (by decide +kernel) (by decide +kernel)
set_option maxRecDepth 100000 in
theorem zinX4 : ∀ w ∈ u_ws RX4 TX4 8, w ∈ zgood := zin [365, 367, 369, 371, 373, 375, 377, 379] (by decide +kernel) (by decide +kernel)
set_option maxRecDepth 100000 in
theorem zinX5 : ∀ w ∈ u_ws RX5 TX5 2, w ∈ zgood := zin [271, 273] (by decide +kernel) (by decide +kernel)
set_option maxRecDepth 100000 in
theorem zinX6 : ∀ w ∈ u_ws RX6 TX6 15, w ∈ zgood := zin [231, 233, 235, 237, 239, 241, 243, 245, 247, 249, 251, 253, 255, 257, 259] (by decide +kernel) (by decide +kernel)
set_option maxRecDepth 100000 in
theorem zinX7 : ∀ w ∈ u_ws RX7 TX7 11, w ∈ zgood := zin [128, 130, 132, 134, 136, 138, 140, 142, 144, 146, 148] (by decide +kernel) (by decide +kernel)
set_option maxRecDepth 100000 in
theorem zinX8 : ∀ w ∈ u_ws RX8 TX8 2, w ∈ zgood := zin [45, 47] (by decide +kernel) (by decide +kernel)
set_option maxRecDepth 100000 in
theorem zinX9 : ∀ w ∈ u_ws RX9 TX9 13, w ∈ zgood := zin [178, 180, 182, 184, 186, 188, 190, 192, 194, 196, 198, 200, 202] (by decide +kernel) (by decide +kernel)
set_option maxRecDepth 100000 in
theorem zinX10 : ∀ w ∈ u_ws RX10 TX10 15, w ∈ zgood := zin [294, 296, 298, 300, 302, 304, 306, 308, 310, 312, 314, 316, 318, 320, 322] (by decide +kernel) (by decide +kernel)
set_option maxRecDepth 100000 in
theorem zinX11 : ∀ w ∈ u_ws RX11 TX11 54, w ∈ zgood := zin [949, 951, 953, 955, 957, 959, 961, 963, 965, 967, 969, 971, 973, 975, 977, 979, 981, 983, 985, 987, 989, 991, 993, 995, 997, 999, 1001, 1003, 1005, 1007, 1009, 1011, 1013, 1015, 1017, 1019, 1021, 1023, 1025, 1027, 1029, 1031, 1033, 1035, 1037, 1039, 1041, 1043, 1045, 1047, 1049, 1051, 1053, 1055] (by decide +kernel) (by decide +kernel)
theorem zcl_lt {c : Nat} {r : vw_C} (h : vwCl[c]? = some r) : c < 12 := (List.getElem?_eq_some_iff.mp h).1
theorem zcls {c : Nat} {r : vw_C} (h : vwCl[c]? = some r) : (∀ k, k < r.2.2 → parseFieldDescriptor (r.2.1 k).2.2.1 = some (zty c k)) ∧ (∀ a, a < r.2.2 → ∀ b, b < r.2.2 → a ≠ b → (r.2.1 a).2.1 ≠ (r.2.1 b).2.1) ∧ ∀ w ∈ u_ws r.1 r.2.1 r.2.2, w ∈ zgood := by
  have hl := zcl_lt h
  match c, hl, h with
  | 0, _, h => cases h; exact ⟨tyX0_ok, nmX0, zinX0⟩
  | 1, _, h => cases h; exact ⟨tyX1_ok, nmX1, zinX1⟩
  | 2, _, h => cases h; exact ⟨tyX2_ok, nmX2, zinX2⟩
  | 3, _, h => cases h; exact ⟨tyX3_ok, nmX3, zinX3⟩
  | 4, _, h => cases h; exact ⟨tyX4_ok, nmX4, zinX4⟩
  | 5, _, h => cases h; exact ⟨tyX5_ok, nmX5, zinX5⟩
  | 6, _, h => cases h; exact ⟨tyX6_ok, nmX6, zinX6⟩
  | 7, _, h => cases h; exact ⟨tyX7_ok, nmX7, zinX7⟩
  | 8, _, h => cases h; exact ⟨tyX8_ok, nmX8, zinX8⟩
  | 9, _, h => cases h; exact ⟨tyX9_ok, nmX9, zinX9⟩
  | 10, _, h => cases h; exact ⟨tyX10_ok, nmX10, zinX10⟩
  | 11, _, h => cases h; exact ⟨tyX11_ok, nmX11, zinX11⟩
