theorem zmt_in : Cond.initialized "java/lang/Math" ∈ zgood := zgood_t 13 (by decide +kernel) (by decide +kernel)
section ZMATH
variable {y : ZM} {Φ : Option Value → ZH → Prop} {rc rs pc q : Nat} {L : List (Option Value)} {S : List Value} {h : ZH}
theorem zmt_st_mmax : Cond.static Lib.Math.max.name ∈ zgood := zgood_t 693 (by decide +kernel) (by decide +kernel)
theorem zmt_cd_mmax : Cond.code Lib.Math.max.name Lib.Math.max.code 2 (some .int) ∈ zgood := zgood_t 694 (by decide +kernel) (by decide +kernel)
theorem z_mmax {a b : Int32} {i : Nat} (hd : decode (zm_c y) pc = .ok (.invokestatic i, 3)) (hlk : Cond.methodLink (zm_x y).cls i Lib.Math.max.name ∈ zgood) (hw : (S.map fun v => v.category).sum ≤ 8) (hdp : 1 ≤ zm_d y) (hq : pc + 3 = q) (k : Zt y Φ rc rs q L (.int (if a < b then b else a) :: S) h) : Zt y Φ rc rs pc L (.int b :: .int a :: S) h := by
  subst hq
  intro l D dA b0 tr0 h0 p e s m args below meth c X tr H locs cells slots ls hH hE hS hL hF hl hc hs
  obtain ⟨hx, hb, hr0, hmlx, hown, hts, hlkx, hnm, hK, hN, hbx⟩ := id X
  exact va_mmax hx hb (by rw [hmlx]; exact hl.1.symm) hown (hts _ hlk) (hts _ zmt_st_mmax) (hts _ zmt_in) (hts _ zmt_cd_mmax) (by show 1 ≤ zm_d y; exact hdp) (by rw [zcatsum]; show _ + 13 ≤ 64 * zm_d y; omega) (by show cells ≤ zm_k y; omega) (by show slots ≤ zm_s y; omega) hd (k l D dA b0 tr0 h0 p e s m args below meth c X tr H locs cells slots ls hH hE ⟨trivial, hS.2.2⟩ hL hF hl hc hs)
theorem zmt_st_mmin : Cond.static Lib.Math.min.name ∈ zgood := zgood_t 483 (by decide +kernel) (by decide +kernel)
theorem zmt_cd_mmin : Cond.code Lib.Math.min.name Lib.Math.min.code 2 (some .int) ∈ zgood := zgood_t 484 (by decide +kernel) (by decide +kernel)
theorem z_mmin {a b : Int32} {i : Nat} (hd : decode (zm_c y) pc = .ok (.invokestatic i, 3)) (hlk : Cond.methodLink (zm_x y).cls i Lib.Math.min.name ∈ zgood) (hw : (S.map fun v => v.category).sum ≤ 8) (hdp : 1 ≤ zm_d y) (hq : pc + 3 = q) (k : Zt y Φ rc rs q L (.int (if b < a then b else a) :: S) h) : Zt y Φ rc rs pc L (.int b :: .int a :: S) h := by
  subst hq
  intro l D dA b0 tr0 h0 p e s m args below meth c X tr H locs cells slots ls hH hE hS hL hF hl hc hs
  obtain ⟨hx, hb, hr0, hmlx, hown, hts, hlkx, hnm, hK, hN, hbx⟩ := id X
  exact va_mmin hx hb (by rw [hmlx]; exact hl.1.symm) hown (hts _ hlk) (hts _ zmt_st_mmin) (hts _ zmt_in) (hts _ zmt_cd_mmin) (by show 1 ≤ zm_d y; exact hdp) (by rw [zcatsum]; show _ + 13 ≤ 64 * zm_d y; omega) (by show cells ≤ zm_k y; omega) (by show slots ≤ zm_s y; omega) hd (k l D dA b0 tr0 h0 p e s m args below meth c X tr H locs cells slots ls hH hE ⟨trivial, hS.2.2⟩ hL hF hl hc hs)
theorem zmt_st_mabs : Cond.static Lib.Math.abs.name ∈ zgood := zgood_t 544 (by decide +kernel) (by decide +kernel)
theorem zmt_cd_mabs : Cond.code Lib.Math.abs.name Lib.Math.abs.code 1 (some .int) ∈ zgood := zgood_t 545 (by decide +kernel) (by decide +kernel)
theorem z_mabs {a : Int32} {i : Nat} (hd : decode (zm_c y) pc = .ok (.invokestatic i, 3)) (hlk : Cond.methodLink (zm_x y).cls i Lib.Math.abs.name ∈ zgood) (hw : (S.map fun v => v.category).sum ≤ 8) (hdp : 1 ≤ zm_d y) (hq : pc + 3 = q) (k : Zt y Φ rc rs q L (.int (if 0 ≤ a then a else 0 - a) :: S) h) : Zt y Φ rc rs pc L (.int a :: S) h := by
  subst hq
  intro l D dA b0 tr0 h0 p e s m args below meth c X tr H locs cells slots ls hH hE hS hL hF hl hc hs
  obtain ⟨hx, hb, hr0, hmlx, hown, hts, hlkx, hnm, hK, hN, hbx⟩ := id X
  exact va_mabs hx hb (by rw [hmlx]; exact hl.1.symm) hown (hts _ hlk) (hts _ zmt_st_mabs) (hts _ zmt_in) (hts _ zmt_cd_mabs) (by show 1 ≤ zm_d y; exact hdp) (by rw [zcatsum]; show _ + 13 ≤ 64 * zm_d y; omega) (by show cells ≤ zm_k y; omega) (by show slots ≤ zm_s y; omega) hd (k l D dA b0 tr0 h0 p e s m args below meth c X tr H locs cells slots ls hH hE ⟨trivial, hS.2⟩ hL hF hl hc hs)
theorem zmt_st_lmax : Cond.static Lib.MathLoose.max_long.x ∈ zgood := zgood_t 574 (by decide +kernel) (by decide +kernel)
theorem zmt_cd_lmax : Cond.code Lib.MathLoose.max_long.x Lib.MathLoose.max_long.code 4 (some .long) ∈ zgood := zgood_t 575 (by decide +kernel) (by decide +kernel)
theorem z_lmax {a b : Int64} {i : Nat} (hd : decode (zm_c y) pc = .ok (.invokestatic i, 3)) (hlk : Cond.methodLink (zm_x y).cls i Lib.MathLoose.max_long.x ∈ zgood) (hw : (S.map fun v => v.category).sum ≤ 8) (hdp : 1 ≤ zm_d y) (hq : pc + 3 = q) (k : Zt y Φ rc rs q L (.long (if b < a then a else b) :: S) h) : Zt y Φ rc rs pc L (.long b :: .long a :: S) h := by
  subst hq
  intro l D dA b0 tr0 h0 p e s m args below meth c X tr H locs cells slots ls hH hE hS hL hF hl hc hs
  obtain ⟨hx, hb, hr0, hmlx, hown, hts, hlkx, hnm, hK, hN, hbx⟩ := id X
  exact va_mmax_long hx hb (by rw [hmlx]; exact hl.1.symm) hown (hts _ hlk) (hts _ zmt_st_lmax) (hts _ zmt_in) (hts _ zmt_cd_lmax) (by show 1 ≤ zm_d y; exact hdp) (by rw [zcatsum]; show _ + 15 ≤ 64 * zm_d y; omega) (by show cells ≤ zm_k y; omega) (by show slots ≤ zm_s y; omega) hd (k l D dA b0 tr0 h0 p e s m args below meth c X tr H locs cells slots ls hH hE ⟨trivial, hS.2.2⟩ hL hF hl hc hs)
theorem zmt_st_lmin : Cond.static Lib.MathLoose.min_long.x ∈ zgood := zgood_t 571 (by decide +kernel) (by decide +kernel)
theorem zmt_cd_lmin : Cond.code Lib.MathLoose.min_long.x Lib.MathLoose.min_long.code 4 (some .long) ∈ zgood := zgood_t 572 (by decide +kernel) (by decide +kernel)
theorem z_lmin {a b : Int64} {i : Nat} (hd : decode (zm_c y) pc = .ok (.invokestatic i, 3)) (hlk : Cond.methodLink (zm_x y).cls i Lib.MathLoose.min_long.x ∈ zgood) (hw : (S.map fun v => v.category).sum ≤ 8) (hdp : 1 ≤ zm_d y) (hq : pc + 3 = q) (k : Zt y Φ rc rs q L (.long (if b < a then b else a) :: S) h) : Zt y Φ rc rs pc L (.long b :: .long a :: S) h := by
  subst hq
  intro l D dA b0 tr0 h0 p e s m args below meth c X tr H locs cells slots ls hH hE hS hL hF hl hc hs
  obtain ⟨hx, hb, hr0, hmlx, hown, hts, hlkx, hnm, hK, hN, hbx⟩ := id X
  exact va_mmin_long hx hb (by rw [hmlx]; exact hl.1.symm) hown (hts _ hlk) (hts _ zmt_st_lmin) (hts _ zmt_in) (hts _ zmt_cd_lmin) (by show 1 ≤ zm_d y; exact hdp) (by rw [zcatsum]; show _ + 15 ≤ 64 * zm_d y; omega) (by show cells ≤ zm_k y; omega) (by show slots ≤ zm_s y; omega) hd (k l D dA b0 tr0 h0 p e s m args below meth c X tr H locs cells slots ls hH hE ⟨trivial, hS.2.2⟩ hL hF hl hc hs)
end ZMATH
