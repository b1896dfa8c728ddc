theorem wL_law0 {ψ : Int32 → ZH → Prop} {l0 : Nat} {h : ZH} (hF : ∃ a410 : Nat, a410 ≠ 0 ∧ zK h a410 = 0 ∧ ∀ h413 : ZH, h413 = (zmk h a410 11 0) → ZcV mX10_init [.ref a410] h413 (fun h415 => ∃ a416 : Nat, a416 ≠ 0 ∧ zK h415 a416 = 0 ∧ ∀ h419 : ZH, h419 = (zmk h415 a416 12 0) → ZcV mX11_init [.ref a416] h419 (fun h421 => Zt mL_law (zPI ψ) 599816 7259442 18 [some (.ref l0), some (.ref a410), some (.ref a416), some (.int 0)] [] h421))) : Zt mL_law (zPI ψ) 600000 7302250 0 [some (.ref l0), none, none, none] [] h := by
  obtain ⟨a410, g411, g412, hF⟩ := hF
  refine z_new (rc := 599999) (rs := 7302235) (a := a410) (c := 10) (r := (RX10, TX10, 15)) (q := 3) dL_law_0 rfl cl_L_7 ni_X10 ii_X10 g411 g412 rfl ?_
  refine z_nameH (fun h413 eh414 => ?_)
  have hF := hF h413 eh414
  refine z_dup (q := 4) dL_law_3 rfl rfl ?_
  refine z_callCV (rc := 599859) (rs := 7301106) (b := a410) (av := []) (q := 7) hF dL_law_4 ml_L_9 ok_X10_init rfl in_X10_init rfl rfl (Nat.le_of_ble_eq_true rfl) (by decide) (Nat.le_of_ble_eq_true rfl) rfl rfl rfl rfl (fun h415 hF => ?_)
  refine z_astore_n (q := 8) (L' := [some (.ref l0), some (.ref a410), none, none]) dL_law_7 rfl (Nat.le_of_ble_eq_true rfl) rfl rfl rfl ?_
  obtain ⟨a416, g417, g418, hF⟩ := hF
  refine z_new (rc := 599858) (rs := 7301052) (a := a416) (c := 11) (r := (RX11, TX11, 54)) (q := 11) dL_law_8 rfl cl_L_10 ni_X11 ii_X11 g417 g418 rfl ?_
  refine z_nameH (fun h419 eh420 => ?_)
  have hF := hF h419 eh420
  refine z_dup (q := 12) dL_law_11 rfl rfl ?_
  refine z_callCV (rc := 599816) (rs := 7259442) (b := a416) (av := []) (q := 15) hF dL_law_12 ml_L_12 ok_X11_init rfl in_X11_init rfl rfl (Nat.le_of_ble_eq_true rfl) (by decide) (Nat.le_of_ble_eq_true rfl) rfl rfl rfl rfl (fun h421 hF => ?_)
  refine z_astore_n (q := 16) (L' := [some (.ref l0), some (.ref a410), some (.ref a416), none]) dL_law_15 rfl (Nat.le_of_ble_eq_true rfl) rfl rfl rfl ?_
  refine z_iconst (q := 17) (v := 0) dL_law_16 (by decide) rfl ?_
  refine z_istore_n (q := 18) (L' := [some (.ref l0), some (.ref a410), some (.ref a416), some (.int 0)]) dL_law_17 rfl (Nat.le_of_ble_eq_true rfl) rfl rfl rfl ?_
  exact hF

section LAW0
variable {M : Nat} {h : ZH} {f : Nat → Nat → Int32}
set_option maxRecDepth 100000 in
theorem law_start (S : ST M [4, 3, 2, 1] [] (Fz0 f) h) (hM : M ≤ 3584) (f1 : ∀ k, k < 7 → f 1 k = atF k) (f2 : ∀ k, k < 7 → f 2 k = sLo k) (f3 : ∀ k, k < 7 → f 3 k = sHi k) : Zt mL_law (zPI (fun v _ => v = 1)) 600000 7302250 0 [some (.ref 4), none, none, none] [] h := by
  refine wL_law0 ⟨10, by decide, S.zz (by decide) (by decide), fun h1 e1 => ?_⟩
  have S1 := S.mk (a := 10) (k := 11) (n := 0) (by decide) (by decide) (by decide) (by decide) (Fz0_0 (by decide))
  rw [← e1] at S1
  clear e1 S
  refine s_X10_init S1 (fun H SH h9 e9 => ?_)
  have S9 : ST M lC eC (Fz2 f) h9 := by
    refine SH.re (by rw [e9]; rfl) (by rw [e9]; rfl) (by rw [e9]; rfl) (fun b hb j => ?_)
    rw [e9]
    unfold Fz2
    by_cases c : b = 23 ∧ j < 7
    · rw [if_pos c, c.1, zI_cps c.2, SH.2.2.2.1 1 (by decide) j]
      unfold Fz1 Fz0
      rw [if_neg (by omega), if_pos (by decide)]
    · rw [if_neg c]
      by_cases d : b = 23
      · subst d
        show (if 23 = 23 ∧ 0 ≤ j ∧ j < 0 + 7 then zI H 1 (0 + (j - 0)) else zI H 23 j) = _
        rw [if_neg (by omega)]
        exact SH.2.2.2.1 23 hb j
      · rw [zI_cpn d]; exact SH.2.2.2.1 b hb j
  clear e9 SH S1
  refine ⟨200, by decide, S9.zz (by decide) (by decide), fun h10 e10 => ?_⟩
  have S10 := S9.mk (a := 200) (k := 12) (n := 0) (by decide) (by decide) (by decide) (by decide) (Fz2_0 (by decide) (by decide) (by decide))
  rw [← e10] at S10
  clear e10 S9
  exact s_X11_init S10 (fun H2 S2 => s_X11_rest S2 (fun H3 S3 => law_loop hM 512 0 599816 7259442 H3 (by omega) (Jx0 S3 f1 f2 f3) (by omega) (by omega)))
/-- the picture at the law's entry -/
def hS (L : Nat) (xs : Nat → Int32) : ZH := (fun a => if 1 ≤ a ∧ a ≤ 4 then 30 else 0, fun a => if a = 4 then L else if 1 ≤ a ∧ a ≤ 3 then 7 else 0, fun a j => if a = 1 then atF j else if a = 2 then sLo j else if a = 3 then sHi j else xs j, fun _ _ => 0, fun _ _ => 0)
theorem c4 {b : Nat} : ([4, 3, 2, 1] : List Nat).contains b = true ↔ 1 ≤ b ∧ b ≤ 4 := by
  rw [cons_c, cons_c, cons_c, cons_c]
  constructor
  · rintro (h | h | h | h | h)
    · omega
    · omega
    · omega
    · omega
    · exact absurd h (by simp)
  · intro h
    have : b = 4 ∨ b = 3 ∨ b = 2 ∨ b = 1 := by omega
    rcases this with h | h | h | h
    · exact Or.inl h
    · exact Or.inr (Or.inl h)
    · exact Or.inr (Or.inr (Or.inl h))
    · exact Or.inr (Or.inr (Or.inr (Or.inl h)))
theorem law_first {L : Nat} {xs : Nat → Int32} (hL : L ≤ 3584) : Zt mL_law (zPI (fun v _ => v = 1)) 600000 7302250 0 [some (.ref 4), none, none, none] [] (hS L xs) := by
  refine law_start (M := L) (f := fun a j => if a = 1 then atF j else if a = 2 then sLo j else if a = 3 then sHi j else xs j) ⟨fun b hb => ?_, fun b hb b4 => ?_, fun x y hx => absurd hx (by simp), fun b hb j => ?_, rfl⟩ hL (fun k _ => rfl) (fun k _ => rfl) (fun k _ => rfl)
  · show (if 1 ≤ b ∧ b ≤ 4 then 30 else 0) = _
    by_cases c : 1 ≤ b ∧ b ≤ 4
    · rw [if_pos c, if_pos (c4.mpr c)]
      have t : ∀ b, b < 5 → 1 ≤ b → (30 : Nat) = cK b := by decide
      exact t b (by omega) c.1
    · rw [if_neg c, if_neg (fun z => c (c4.mp z))]
  · show (if b = 4 then L else if 1 ≤ b ∧ b ≤ 3 then 7 else 0) = _
    rw [if_neg b4]
    by_cases c : 1 ≤ b ∧ b ≤ 3
    · rw [if_pos c, if_pos (c4.mpr ⟨c.1, by omega⟩)]
      have t : ∀ b, b < 4 → 1 ≤ b → (7 : Nat) = cN b := by decide
      exact t b (by omega) c.1
    · rw [if_neg c, if_neg (fun z => by have := c4.mp z; omega)]
  · unfold Fz0
    have := c4.mp hb
    rw [if_pos (by omega)]
    rfl
end LAW0
