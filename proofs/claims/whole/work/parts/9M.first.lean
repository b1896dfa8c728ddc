def atF (k : Nat) : Int32 := ([60, 30, 0, 0, 8, 3, 10] : List Int32).getD k 0
def Fz3 (f : Nat → Nat → Int32) : Nat → Nat → Int32 := fun b j => if b = 219 then atF j else if b = 245 ∧ j < 15 then 100 else if b = 221 ∧ j < 3 then -6 else Fz2 f b j
section FIRST
variable {M : Nat} {h : ZH} {f : Nat → Nat → Int32}
theorem atF_7 {j : Nat} (h : 7 ≤ j) : atF j = 0 := by
  unfold atF
  rw [List.getD_eq_getElem?_getD, List.getElem?_eq_none (by simpa using h)]
  rfl
set_option maxRecDepth 100000 in
set_option maxHeartbeats 2000000 in
theorem s_X11_rest {ψ : ZH → Prop} (S : ST M lD eD (Fz2 f) h) (k : ∀ H, ST M lD eD (Fz3 f) H → ψ H) : Zt mX11_init (zPV ψ) 0 0 382 [some (.ref 200), some (.int 0)] [] (zsI (zsI (zsI (zsI (zsI h 219 0 60) 219 1 30) 219 4 8) 219 5 3) 219 6 10) := by
  have k200 : zK h 200 = 12 := (S.kd (b := 200) (by decide) (by decide)).trans (by decide)
  have k245 : zK h 245 = 20 := (S.kd (b := 245) (by decide) (by decide)).trans (by decide)
  have k221 : zK h 221 = 20 := (S.kd (b := 221) (by decide) (by decide)).trans (by decide)
  have n245 : zN h 245 = 15 := (S.ln (b := 245) (by decide) (by decide) (by decide)).trans (by decide)
  have n221 : zN h 221 = 4 := (S.ln (b := 221) (by decide) (by decide) (by decide)).trans (by decide)
  have r44 : zR h 200 44 = 245 := (S.rf (a := 200) (k := 44) (by decide)).trans (by decide)
  have r20 : zR h 200 20 = 221 := (S.rf (a := 200) (k := 20) (by decide)).trans (by decide)
  have i219 : ∀ j, zI (zsI (zsI (zsI (zsI (zsI h 219 0 60) 219 1 30) 219 4 8) 219 5 3) 219 6 10) 219 j = atF j := fun j => by
    have z : ∀ j, zI h 219 j = 0 := fun j => by rw [S.2.2.2.1 219 (by decide) j]; exact Fz2_0 (by decide) (by decide) (by decide) j
    by_cases c6 : j = 6
    · subst c6; rw [zI_sIs]; decide
    · rw [zI_sIj c6]
      by_cases c5 : j = 5
      · subst c5; rw [zI_sIs]; decide
      · rw [zI_sIj c5]
        by_cases c4 : j = 4
        · subst c4; rw [zI_sIs]; decide
        · rw [zI_sIj c4]
          by_cases c1 : j = 1
          · subst c1; rw [zI_sIs]; decide
          · rw [zI_sIj c1]
            by_cases c0 : j = 0
            · subst c0; rw [zI_sIs]; decide
            · rw [zI_sIj c0, z]
              by_cases c7 : j < 7
              · have : j = 2 ∨ j = 3 := by omega
                rcases this with e | e <;> (subst e; decide)
              · rw [atF_7 (by omega)]
  have E0 : ∀ a j, a ≠ 219 → zI (zsI (zsI (zsI (zsI (zsI h 219 0 60) 219 1 30) 219 4 8) 219 5 3) 219 6 10) a j = zI h a j := fun a j q => by rw [zI_sIa q, zI_sIa q, zI_sIa q, zI_sIa q, zI_sIa q]
  have K0 : zK (zsI (zsI (zsI (zsI (zsI h 219 0 60) 219 1 30) 219 4 8) 219 5 3) 219 6 10) = zK h ∧ zN (zsI (zsI (zsI (zsI (zsI h 219 0 60) 219 1 30) 219 4 8) 219 5 3) 219 6 10) = zN h ∧ zR (zsI (zsI (zsI (zsI (zsI h 219 0 60) 219 1 30) 219 4 8) 219 5 3) 219 6 10) = zR h := ⟨rfl, rfl, rfl⟩
  generalize zsI (zsI (zsI (zsI (zsI h 219 0 60) 219 1 30) 219 4 8) 219 5 3) 219 6 10 = h1 at i219 E0 K0
  have second : ∀ H, zK H = zK h → zN H = zN h → zR H = zR h → (∀ a j, ¬ (a = 245 ∧ j < 15) → zI H a j = zI h1 a j) → (∀ j, j < 15 → zI H 245 j = 100) → Zt mX11_init (zPV ψ) 0 0 404 [some (.ref 200), some (.int 0)] [] H := by
    intro H kk kn kr E g
    have main := down (n := 3) (I := fun r => ∀ H2, zK H2 = zK h → zN H2 = zN h → zR H2 = zR h → (∀ a j, ¬ (a = 245 ∧ j < 15) → ¬ (a = 221 ∧ j < r) → zI H2 a j = zI h1 a j) → (∀ j, j < 15 → zI H2 245 j = 100) → (∀ j, j < r → zI H2 221 j = -6) → Zt mX11_init (zPV ψ) 0 0 404 [some (.ref 200), some (.int (nI r))] [] H2) ?_ ?_
    · exact main H kk kn kr (fun a j q _ => E a j q) g (fun j hj => absurd hj (by omega))
    · intro H2 kk2 kn2 kr2 E2 g2 g3
      refine wX11_init_404 ⟨fun _ => k H2 (S.re kk2 kn2 kr2 (fun b hb j => ?_)), fun z => absurd (by decide) z⟩
      unfold Fz3
      by_cases c1 : b = 219
      · subst c1; rw [if_pos rfl, E2 _ _ (by omega) (by omega)]; exact i219 j
      · rw [if_neg c1]
        by_cases c2 : b = 245 ∧ j < 15
        · rw [if_pos c2, c2.1]; exact g2 j c2.2
        · rw [if_neg c2]
          by_cases c3 : b = 221 ∧ j < 3
          · rw [if_pos c3, c3.1]; exact g3 j c3.2
          · rw [if_neg c3, E2 b j c2 c3, E0 b j c1]; exact S.2.2.2.1 b hb j
    · intro r hr ih H2 kk2 kn2 kr2 E2 g2 g3
      have er := nI_clamp (n := r) (by omega)
      have vr : vp_in (nI r) 4 := vp_in_nI (by omega) (by omega)
      refine wX11_init_404 ⟨fun z => absurd z (cnt_le (n := 3) (by omega) hr), fun _ => ?_⟩
      rw [kk2, kn2, kr2, r20, k200, k221, n221, er, nI_1]
      refine ⟨rfl, by decide, rfl, vr, ih _ kk2 kn2 kr2 (fun a j q1 q2 => ?_) (fun j hj => ?_) (fun j hj => ?_)⟩
      · rw [zI_sIn (by omega)]; exact E2 a j q1 (by omega)
      · rw [zI_sIa (by decide)]; exact g2 j hj
      · by_cases c : j = r
        · subst c; rw [zI_sIs]
        · rw [zI_sIj c]; exact g3 j (by omega)
  have first := down (n := 15) (I := fun r => ∀ H, zK H = zK h → zN H = zN h → zR H = zR h → (∀ a j, ¬ (a = 245 ∧ j < r) → zI H a j = zI h1 a j) → (∀ j, j < r → zI H 245 j = 100) → Zt mX11_init (zPV ψ) 0 0 382 [some (.ref 200), some (.int (nI r))] [] H) ?_ ?_
  · exact first h1 K0.1 K0.2.1 K0.2.2 (fun _ _ _ => rfl) (fun j hj => absurd hj (by omega))
  · intro H kk kn kr E g
    exact wX11_init_382 ⟨fun _ => second H kk kn kr E g, fun z => absurd (by decide) z⟩
  · intro r hr ih H kk kn kr E g
    have er := nI_clamp (n := r) (by omega)
    have vr : vp_in (nI r) 15 := vp_in_nI (by omega) (by omega)
    refine wX11_init_382 ⟨fun z => absurd z (cnt_le (n := 15) (by omega) hr), fun _ => ?_⟩
    rw [kk, kn, kr, r44, k200, k245, n245, er, nI_1]
    refine ⟨rfl, by decide, rfl, vr, ih _ kk kn kr (fun a j q => ?_) (fun j hj => ?_)⟩
    · rw [zI_sIn (by omega)]; exact E a j (by omega)
    · by_cases c : j = r
      · subst c; rw [zI_sIs]
      · rw [zI_sIj c]; exact g j (by omega)
theorem lD_1 : ∀ a, a < 300 → lD.contains a = true ∨ (cK a = 0 ∧ cN a = 0) := by decide +kernel
theorem lD_2 : ∀ d, d < 220 → lD.contains (300 + d) = false := by decide +kernel
theorem eD_1 : ∀ a, a < 300 → ∀ k, k < 60 → cR a k ≠ 0 → eD.contains (a, k) = true := by decide +kernel
theorem cR_lt2 {a k : Nat} (q : cR a k ≠ 0) : a < 300 ∧ k < 60 := by
  refine Classical.not_not.mp (fun z => q ?_)
  by_cases hk : k < 60
  · have ha : 300 ≤ a := by omega
    unfold cR
    split <;> first | (exfalso; omega) | rfl
  · unfold cR
    split <;> first | rfl | (rw [List.getD_eq_getElem?_getD, List.getElem?_eq_none (by simp only [List.length_cons, List.length_nil]; omega)]; rfl) | (rw [if_neg (by omega)])
end FIRST
