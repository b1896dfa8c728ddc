def lD : List Nat := (253 :: (252 :: (251 :: (250 :: (249 :: (248 :: (246 :: (245 :: (244 :: (239 :: (238 :: (237 :: (236 :: (235 :: (234 :: (233 :: (232 :: (231 :: (230 :: (228 :: (227 :: (224 :: (222 :: (221 :: (220 :: (219 :: (217 :: (216 :: (215 :: (214 :: (213 :: (212 :: (211 :: (209 :: (208 :: (207 :: (206 :: (205 :: (204 :: (203 :: (202 :: (201 :: (200 :: lC)))))))))))))))))))))))))))))))))))))))))))
def eD : List (Nat × Nat) := ((200, 52) :: ((200, 51) :: ((200, 50) :: ((200, 49) :: ((200, 48) :: ((200, 47) :: ((200, 45) :: ((200, 44) :: ((200, 43) :: ((200, 38) :: ((200, 37) :: ((200, 36) :: ((200, 35) :: ((200, 34) :: ((200, 33) :: ((200, 32) :: ((200, 31) :: ((200, 30) :: ((200, 29) :: ((200, 27) :: ((200, 26) :: ((200, 23) :: ((200, 21) :: ((200, 20) :: ((200, 19) :: ((200, 18) :: ((200, 16) :: ((200, 15) :: ((200, 14) :: ((200, 13) :: ((200, 12) :: ((200, 11) :: ((200, 10) :: ((200, 8) :: ((200, 7) :: ((200, 6) :: ((200, 5) :: ((200, 4) :: ((200, 3) :: ((200, 2) :: ((200, 1) :: ((200, 0) :: eC))))))))))))))))))))))))))))))))))))))))))

def Fz2 (f : Nat → Nat → Int32) : Nat → Nat → Int32 := fun b j => if b = 23 ∧ j < 7 then f 1 j else Fz1 f b j
theorem Fz2_0 {f : Nat → Nat → Int32} {b : Nat} (h : 5 ≤ b) (h2 : b < 90 ∨ 92 < b) (h3 : b ≠ 23) (j : Nat) : Fz2 f b j = 0 := by
  unfold Fz2
  rw [if_neg (fun z => h3 z.1), Fz1_0 h h2]
section CTOR11
variable {M : Nat} {h : ZH} {f : Nat → Nat → Int32}
set_option maxRecDepth 100000 in
set_option maxHeartbeats 8000000 in
theorem s_X11_init {ψ : ZH → Prop} (S0 : ST M (200 :: lC) eC (Fz2 f) h) (k : ∀ H, ST M lD eD (Fz2 f) H → Zt mX11_init (zPV ψ) 0 0 382 [some (.ref 200), some (.int 0)] [] (zsI (zsI (zsI (zsI (zsI H 219 0 60) 219 1 30) 219 4 8) 219 5 3) 219 6 10)) : ZcV mX11_init [.ref 200] h ψ := by
  refine wX11_init ?_
  refine ⟨201, by decide, S0.zz (by decide) (by decide), fun H1 e1 => ?_⟩
  have S1 := S0.mk (a := 201) (k := 20) (n := 6) (by decide) (by decide) (by decide) (by decide) (Fz2_0 (by decide) (by decide) (by decide))
  rw [← e1] at S1
  clear e1 S0
  refine ⟨(S1.kd (b := 200) (by decide) (by decide)).trans (by decide), ?_⟩
  refine ⟨202, by decide, S1.zz (by decide) (by decide), fun H2 e2 => ?_⟩
  have S2 := (S1.sR (a := 200) (k := 0) (v := 201) (by decide) (by decide)).mk (a := 202) (k := 20) (n := 6) (by decide) (by decide) (by decide) (by decide) (Fz2_0 (by decide) (by decide) (by decide))
  rw [← e2] at S2
  clear e2 S1
  refine ⟨(S2.kd (b := 200) (by decide) (by decide)).trans (by decide), ?_⟩
  refine ⟨203, by decide, S2.zz (by decide) (by decide), fun H3 e3 => ?_⟩
  have S3 := (S2.sR (a := 200) (k := 1) (v := 202) (by decide) (by decide)).mk (a := 203) (k := 20) (n := 8) (by decide) (by decide) (by decide) (by decide) (Fz2_0 (by decide) (by decide) (by decide))
  rw [← e3] at S3
  clear e3 S2
  refine ⟨(S3.kd (b := 200) (by decide) (by decide)).trans (by decide), ?_⟩
  refine ⟨204, by decide, S3.zz (by decide) (by decide), fun H4 e4 => ?_⟩
  have S4 := (S3.sR (a := 200) (k := 2) (v := 203) (by decide) (by decide)).mk (a := 204) (k := 20) (n := 8) (by decide) (by decide) (by decide) (by decide) (Fz2_0 (by decide) (by decide) (by decide))
  rw [← e4] at S4
  clear e4 S3
  refine ⟨(S4.kd (b := 200) (by decide) (by decide)).trans (by decide), ?_⟩
  refine ⟨205, by decide, S4.zz (by decide) (by decide), fun H5 e5 => ?_⟩
  have S5 := (S4.sR (a := 200) (k := 3) (v := 204) (by decide) (by decide)).mk (a := 205) (k := 20) (n := 8) (by decide) (by decide) (by decide) (by decide) (Fz2_0 (by decide) (by decide) (by decide))
  rw [← e5] at S5
  clear e5 S4
  refine ⟨(S5.kd (b := 200) (by decide) (by decide)).trans (by decide), ?_⟩
  refine ⟨206, by decide, S5.zz (by decide) (by decide), fun H6 e6 => ?_⟩
  have S6 := (S5.sR (a := 200) (k := 4) (v := 205) (by decide) (by decide)).mk (a := 206) (k := 20) (n := 8) (by decide) (by decide) (by decide) (by decide) (Fz2_0 (by decide) (by decide) (by decide))
  rw [← e6] at S6
  clear e6 S5
  refine ⟨(S6.kd (b := 200) (by decide) (by decide)).trans (by decide), ?_⟩
  refine ⟨207, by decide, S6.zz (by decide) (by decide), fun H7 e7 => ?_⟩
  have S7 := (S6.sR (a := 200) (k := 5) (v := 206) (by decide) (by decide)).mk (a := 207) (k := 20) (n := 8) (by decide) (by decide) (by decide) (by decide) (Fz2_0 (by decide) (by decide) (by decide))
  rw [← e7] at S7
  clear e7 S6
  refine ⟨(S7.kd (b := 200) (by decide) (by decide)).trans (by decide), ?_⟩
  refine ⟨208, by decide, S7.zz (by decide) (by decide), fun H8 e8 => ?_⟩
  have S8 := (S7.sR (a := 200) (k := 6) (v := 207) (by decide) (by decide)).mk (a := 208) (k := 21) (n := 8) (by decide) (by decide) (by decide) (by decide) (Fz2_0 (by decide) (by decide) (by decide))
  rw [← e8] at S8
  clear e8 S7
  refine ⟨(S8.kd (b := 200) (by decide) (by decide)).trans (by decide), ?_⟩
  refine ⟨209, by decide, S8.zz (by decide) (by decide), fun H9 e9 => ?_⟩
  have S9 := (S8.sR (a := 200) (k := 7) (v := 208) (by decide) (by decide)).mk (a := 209) (k := 20) (n := 24) (by decide) (by decide) (by decide) (by decide) (Fz2_0 (by decide) (by decide) (by decide))
  rw [← e9] at S9
  clear e9 S8
  refine ⟨(S9.kd (b := 200) (by decide) (by decide)).trans (by decide), ?_⟩
  refine ⟨211, by decide, S9.zz (by decide) (by decide), fun H10 e10 => ?_⟩
  have S10 := (S9.sR (a := 200) (k := 8) (v := 209) (by decide) (by decide)).mk (a := 211) (k := 20) (n := 24) (by decide) (by decide) (by decide) (by decide) (Fz2_0 (by decide) (by decide) (by decide))
  rw [← e10] at S10
  clear e10 S9
  refine ⟨(S10.kd (b := 200) (by decide) (by decide)).trans (by decide), ?_⟩
  refine ⟨212, by decide, S10.zz (by decide) (by decide), fun H11 e11 => ?_⟩
  have S11 := (S10.sR (a := 200) (k := 10) (v := 211) (by decide) (by decide)).mk (a := 212) (k := 20) (n := 24) (by decide) (by decide) (by decide) (by decide) (Fz2_0 (by decide) (by decide) (by decide))
  rw [← e11] at S11
  clear e11 S10
  refine ⟨(S11.kd (b := 200) (by decide) (by decide)).trans (by decide), ?_⟩
  refine ⟨213, by decide, S11.zz (by decide) (by decide), fun H12 e12 => ?_⟩
  have S12 := (S11.sR (a := 200) (k := 11) (v := 212) (by decide) (by decide)).mk (a := 213) (k := 20) (n := 24) (by decide) (by decide) (by decide) (by decide) (Fz2_0 (by decide) (by decide) (by decide))
  rw [← e12] at S12
  clear e12 S11
  refine ⟨(S12.kd (b := 200) (by decide) (by decide)).trans (by decide), ?_⟩
  refine ⟨214, by decide, S12.zz (by decide) (by decide), fun H13 e13 => ?_⟩
  have S13 := (S12.sR (a := 200) (k := 12) (v := 213) (by decide) (by decide)).mk (a := 214) (k := 20) (n := 24) (by decide) (by decide) (by decide) (by decide) (Fz2_0 (by decide) (by decide) (by decide))
  rw [← e13] at S13
  clear e13 S12
  refine ⟨(S13.kd (b := 200) (by decide) (by decide)).trans (by decide), ?_⟩
  refine ⟨215, by decide, S13.zz (by decide) (by decide), fun H14 e14 => ?_⟩
  have S14 := (S13.sR (a := 200) (k := 13) (v := 214) (by decide) (by decide)).mk (a := 215) (k := 20) (n := 24) (by decide) (by decide) (by decide) (by decide) (Fz2_0 (by decide) (by decide) (by decide))
  rw [← e14] at S14
  clear e14 S13
  refine ⟨(S14.kd (b := 200) (by decide) (by decide)).trans (by decide), ?_⟩
  refine ⟨216, by decide, S14.zz (by decide) (by decide), fun H15 e15 => ?_⟩
  have S15 := (S14.sR (a := 200) (k := 14) (v := 215) (by decide) (by decide)).mk (a := 216) (k := 21) (n := 24) (by decide) (by decide) (by decide) (by decide) (Fz2_0 (by decide) (by decide) (by decide))
  rw [← e15] at S15
  clear e15 S14
  refine ⟨(S15.kd (b := 200) (by decide) (by decide)).trans (by decide), ?_⟩
  refine ⟨217, by decide, S15.zz (by decide) (by decide), fun H16 e16 => ?_⟩
  have S16 := (S15.sR (a := 200) (k := 15) (v := 216) (by decide) (by decide)).mk (a := 217) (k := 20) (n := 24) (by decide) (by decide) (by decide) (by decide) (Fz2_0 (by decide) (by decide) (by decide))
  rw [← e16] at S16
  clear e16 S15
  refine ⟨(S16.kd (b := 200) (by decide) (by decide)).trans (by decide), ?_⟩
  refine ⟨219, by decide, S16.zz (by decide) (by decide), fun H17 e17 => ?_⟩
  have S17 := (S16.sR (a := 200) (k := 16) (v := 217) (by decide) (by decide)).mk (a := 219) (k := 20) (n := 7) (by decide) (by decide) (by decide) (by decide) (Fz2_0 (by decide) (by decide) (by decide))
  rw [← e17] at S17
  clear e17 S16
  refine ⟨(S17.kd (b := 200) (by decide) (by decide)).trans (by decide), ?_⟩
  refine ⟨220, by decide, S17.zz (by decide) (by decide), fun H18 e18 => ?_⟩
  have S18 := (S17.sR (a := 200) (k := 18) (v := 219) (by decide) (by decide)).mk (a := 220) (k := 20) (n := 160) (by decide) (by decide) (by decide) (by decide) (Fz2_0 (by decide) (by decide) (by decide))
  rw [← e18] at S18
  clear e18 S17
  refine ⟨(S18.kd (b := 200) (by decide) (by decide)).trans (by decide), ?_⟩
  refine ⟨221, by decide, S18.zz (by decide) (by decide), fun H19 e19 => ?_⟩
  have S19 := (S18.sR (a := 200) (k := 19) (v := 220) (by decide) (by decide)).mk (a := 221) (k := 20) (n := 4) (by decide) (by decide) (by decide) (by decide) (Fz2_0 (by decide) (by decide) (by decide))
  rw [← e19] at S19
  clear e19 S18
  refine ⟨(S19.kd (b := 200) (by decide) (by decide)).trans (by decide), ?_⟩
  refine ⟨222, by decide, S19.zz (by decide) (by decide), fun H20 e20 => ?_⟩
  have S20 := (S19.sR (a := 200) (k := 20) (v := 221) (by decide) (by decide)).mk (a := 222) (k := 20) (n := 6) (by decide) (by decide) (by decide) (by decide) (Fz2_0 (by decide) (by decide) (by decide))
  rw [← e20] at S20
  clear e20 S19
  refine ⟨(S20.kd (b := 200) (by decide) (by decide)).trans (by decide), ?_⟩
  refine ⟨224, by decide, S20.zz (by decide) (by decide), fun H21 e21 => ?_⟩
  have S21 := (S20.sR (a := 200) (k := 21) (v := 222) (by decide) (by decide)).mk (a := 224) (k := 20) (n := 24) (by decide) (by decide) (by decide) (by decide) (Fz2_0 (by decide) (by decide) (by decide))
  rw [← e21] at S21
  clear e21 S20
  refine ⟨(S21.kd (b := 200) (by decide) (by decide)).trans (by decide), ?_⟩
  refine ⟨227, by decide, S21.zz (by decide) (by decide), fun H22 e22 => ?_⟩
  have S22 := (S21.sR (a := 200) (k := 23) (v := 224) (by decide) (by decide)).mk (a := 227) (k := 20) (n := 12) (by decide) (by decide) (by decide) (by decide) (Fz2_0 (by decide) (by decide) (by decide))
  rw [← e22] at S22
  clear e22 S21
  refine ⟨(S22.kd (b := 200) (by decide) (by decide)).trans (by decide), ?_⟩
  refine ⟨228, by decide, S22.zz (by decide) (by decide), fun H23 e23 => ?_⟩
  have S23 := (S22.sR (a := 200) (k := 26) (v := 227) (by decide) (by decide)).mk (a := 228) (k := 20) (n := 12) (by decide) (by decide) (by decide) (by decide) (Fz2_0 (by decide) (by decide) (by decide))
  rw [← e23] at S23
  clear e23 S22
  refine ⟨(S23.kd (b := 200) (by decide) (by decide)).trans (by decide), ?_⟩
  refine ⟨230, by decide, S23.zz (by decide) (by decide), fun H24 e24 => ?_⟩
  have S24 := (S23.sR (a := 200) (k := 27) (v := 228) (by decide) (by decide)).mk (a := 230) (k := 20) (n := 40960) (by decide) (by decide) (by decide) (by decide) (Fz2_0 (by decide) (by decide) (by decide))
  rw [← e24] at S24
  clear e24 S23
  refine ⟨(S24.kd (b := 200) (by decide) (by decide)).trans (by decide), ?_⟩
  refine ⟨231, by decide, S24.zz (by decide) (by decide), fun H25 e25 => ?_⟩
  have S25 := (S24.sR (a := 200) (k := 29) (v := 230) (by decide) (by decide)).mk (a := 231) (k := 20) (n := 9) (by decide) (by decide) (by decide) (by decide) (Fz2_0 (by decide) (by decide) (by decide))
  rw [← e25] at S25
  clear e25 S24
  refine ⟨(S25.kd (b := 200) (by decide) (by decide)).trans (by decide), ?_⟩
  refine ⟨232, by decide, S25.zz (by decide) (by decide), fun H26 e26 => ?_⟩
  have S26 := (S25.sR (a := 200) (k := 30) (v := 231) (by decide) (by decide)).mk (a := 232) (k := 21) (n := 9) (by decide) (by decide) (by decide) (by decide) (Fz2_0 (by decide) (by decide) (by decide))
  rw [← e26] at S26
  clear e26 S25
  refine ⟨(S26.kd (b := 200) (by decide) (by decide)).trans (by decide), ?_⟩
  refine ⟨233, by decide, S26.zz (by decide) (by decide), fun H27 e27 => ?_⟩
  have S27 := (S26.sR (a := 200) (k := 31) (v := 232) (by decide) (by decide)).mk (a := 233) (k := 20) (n := 8) (by decide) (by decide) (by decide) (by decide) (Fz2_0 (by decide) (by decide) (by decide))
  rw [← e27] at S27
  clear e27 S26
  refine ⟨(S27.kd (b := 200) (by decide) (by decide)).trans (by decide), ?_⟩
  refine ⟨234, by decide, S27.zz (by decide) (by decide), fun H28 e28 => ?_⟩
  have S28 := (S27.sR (a := 200) (k := 32) (v := 233) (by decide) (by decide)).mk (a := 234) (k := 20) (n := 8) (by decide) (by decide) (by decide) (by decide) (Fz2_0 (by decide) (by decide) (by decide))
  rw [← e28] at S28
  clear e28 S27
  refine ⟨(S28.kd (b := 200) (by decide) (by decide)).trans (by decide), ?_⟩
  refine ⟨235, by decide, S28.zz (by decide) (by decide), fun H29 e29 => ?_⟩
  have S29 := (S28.sR (a := 200) (k := 33) (v := 234) (by decide) (by decide)).mk (a := 235) (k := 21) (n := 8) (by decide) (by decide) (by decide) (by decide) (Fz2_0 (by decide) (by decide) (by decide))
  rw [← e29] at S29
  clear e29 S28
  refine ⟨(S29.kd (b := 200) (by decide) (by decide)).trans (by decide), ?_⟩
  refine ⟨236, by decide, S29.zz (by decide) (by decide), fun H30 e30 => ?_⟩
  have S30 := (S29.sR (a := 200) (k := 34) (v := 235) (by decide) (by decide)).mk (a := 236) (k := 20) (n := 8) (by decide) (by decide) (by decide) (by decide) (Fz2_0 (by decide) (by decide) (by decide))
  rw [← e30] at S30
  clear e30 S29
  refine ⟨(S30.kd (b := 200) (by decide) (by decide)).trans (by decide), ?_⟩
  refine ⟨237, by decide, S30.zz (by decide) (by decide), fun H31 e31 => ?_⟩
  have S31 := (S30.sR (a := 200) (k := 35) (v := 236) (by decide) (by decide)).mk (a := 237) (k := 20) (n := 12) (by decide) (by decide) (by decide) (by decide) (Fz2_0 (by decide) (by decide) (by decide))
  rw [← e31] at S31
  clear e31 S30
  refine ⟨(S31.kd (b := 200) (by decide) (by decide)).trans (by decide), ?_⟩
  refine ⟨238, by decide, S31.zz (by decide) (by decide), fun H32 e32 => ?_⟩
  have S32 := (S31.sR (a := 200) (k := 36) (v := 237) (by decide) (by decide)).mk (a := 238) (k := 20) (n := 12) (by decide) (by decide) (by decide) (by decide) (Fz2_0 (by decide) (by decide) (by decide))
  rw [← e32] at S32
  clear e32 S31
  refine ⟨(S32.kd (b := 200) (by decide) (by decide)).trans (by decide), ?_⟩
  refine ⟨239, by decide, S32.zz (by decide) (by decide), fun H33 e33 => ?_⟩
  have S33 := (S32.sR (a := 200) (k := 37) (v := 238) (by decide) (by decide)).mk (a := 239) (k := 20) (n := 12) (by decide) (by decide) (by decide) (by decide) (Fz2_0 (by decide) (by decide) (by decide))
  rw [← e33] at S33
  clear e33 S32
  refine ⟨(S33.kd (b := 200) (by decide) (by decide)).trans (by decide), ?_⟩
  refine ⟨244, by decide, S33.zz (by decide) (by decide), fun H34 e34 => ?_⟩
  have S34 := (S33.sR (a := 200) (k := 38) (v := 239) (by decide) (by decide)).mk (a := 244) (k := 20) (n := 8) (by decide) (by decide) (by decide) (by decide) (Fz2_0 (by decide) (by decide) (by decide))
  rw [← e34] at S34
  clear e34 S33
  refine ⟨(S34.kd (b := 200) (by decide) (by decide)).trans (by decide), ?_⟩
  refine ⟨245, by decide, S34.zz (by decide) (by decide), fun H35 e35 => ?_⟩
  have S35 := (S34.sR (a := 200) (k := 43) (v := 244) (by decide) (by decide)).mk (a := 245) (k := 20) (n := 15) (by decide) (by decide) (by decide) (by decide) (Fz2_0 (by decide) (by decide) (by decide))
  rw [← e35] at S35
  clear e35 S34
  refine ⟨(S35.kd (b := 200) (by decide) (by decide)).trans (by decide), ?_⟩
  refine ⟨246, by decide, S35.zz (by decide) (by decide), fun H36 e36 => ?_⟩
  have S36 := (S35.sR (a := 200) (k := 44) (v := 245) (by decide) (by decide)).mk (a := 246) (k := 20) (n := 8) (by decide) (by decide) (by decide) (by decide) (Fz2_0 (by decide) (by decide) (by decide))
  rw [← e36] at S36
  clear e36 S35
  refine ⟨(S36.kd (b := 200) (by decide) (by decide)).trans (by decide), ?_⟩
  refine ⟨248, by decide, S36.zz (by decide) (by decide), fun H37 e37 => ?_⟩
  have S37 := (S36.sR (a := 200) (k := 45) (v := 246) (by decide) (by decide)).mk (a := 248) (k := 20) (n := 8) (by decide) (by decide) (by decide) (by decide) (Fz2_0 (by decide) (by decide) (by decide))
  rw [← e37] at S37
  clear e37 S36
  refine ⟨(S37.kd (b := 200) (by decide) (by decide)).trans (by decide), ?_⟩
  refine ⟨249, by decide, S37.zz (by decide) (by decide), fun H38 e38 => ?_⟩
  have S38 := (S37.sR (a := 200) (k := 47) (v := 248) (by decide) (by decide)).mk (a := 249) (k := 20) (n := 8) (by decide) (by decide) (by decide) (by decide) (Fz2_0 (by decide) (by decide) (by decide))
  rw [← e38] at S38
  clear e38 S37
  refine ⟨(S38.kd (b := 200) (by decide) (by decide)).trans (by decide), ?_⟩
  refine ⟨250, by decide, S38.zz (by decide) (by decide), fun H39 e39 => ?_⟩
  have S39 := (S38.sR (a := 200) (k := 48) (v := 249) (by decide) (by decide)).mk (a := 250) (k := 20) (n := 10) (by decide) (by decide) (by decide) (by decide) (Fz2_0 (by decide) (by decide) (by decide))
  rw [← e39] at S39
  clear e39 S38
  refine ⟨(S39.kd (b := 200) (by decide) (by decide)).trans (by decide), ?_⟩
  refine ⟨251, by decide, S39.zz (by decide) (by decide), fun H40 e40 => ?_⟩
  have S40 := (S39.sR (a := 200) (k := 49) (v := 250) (by decide) (by decide)).mk (a := 251) (k := 20) (n := 10) (by decide) (by decide) (by decide) (by decide) (Fz2_0 (by decide) (by decide) (by decide))
  rw [← e40] at S40
  clear e40 S39
  refine ⟨(S40.kd (b := 200) (by decide) (by decide)).trans (by decide), ?_⟩
  refine ⟨252, by decide, S40.zz (by decide) (by decide), fun H41 e41 => ?_⟩
  have S41 := (S40.sR (a := 200) (k := 50) (v := 251) (by decide) (by decide)).mk (a := 252) (k := 20) (n := 10) (by decide) (by decide) (by decide) (by decide) (Fz2_0 (by decide) (by decide) (by decide))
  rw [← e41] at S41
  clear e41 S40
  refine ⟨(S41.kd (b := 200) (by decide) (by decide)).trans (by decide), ?_⟩
  refine ⟨253, by decide, S41.zz (by decide) (by decide), fun H42 e42 => ?_⟩
  have S42 := (S41.sR (a := 200) (k := 51) (v := 252) (by decide) (by decide)).mk (a := 253) (k := 20) (n := 10) (by decide) (by decide) (by decide) (by decide) (Fz2_0 (by decide) (by decide) (by decide))
  rw [← e42] at S42
  clear e42 S41
  refine ⟨(S42.kd (b := 200) (by decide) (by decide)).trans (by decide), ?_⟩
  intro H43 e43
  have S43 := (S42.sR (a := 200) (k := 52) (v := 253) (by decide) (by decide))
  rw [← e43] at S43
  clear e43 S42
  rw [S43.rf (a := 200) (k := 18) (by decide), show cR 200 18 = 219 by decide, S43.ln (b := 219) (by decide) (by decide) (by decide), show cN 219 = 7 by decide]
  refine ⟨(S43.kd (b := 200) (by decide) (by decide)).trans (by decide), by decide, (S43.kd (b := 219) (by decide) (by decide)).trans (by decide), by decide, by decide, by decide, by decide, by decide, ?_⟩
  exact k _ S43
end CTOR11
