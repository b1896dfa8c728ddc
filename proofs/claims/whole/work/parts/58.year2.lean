section YEAR2
variable {h : ZH} {i L : Nat} {xs : Nat → Int32}
/-- the model's men, k of them a year older -/
def yM (h H : ZH) (k : Nat) : Prop := zK H = zK h ∧ zN H = zN h ∧ zR H = zR h ∧ (∀ a j, ¬ ((a = 211 ∨ a = 213 ∨ a = 215 ∨ a = 217) ∧ j < k) → zI H a j = zI h a j) ∧ ∀ m, m < k →
  zI H 211 m = yAge (zI h 211 m) (zI h 217 m) ∧ zI H 213 m = yYrs (zI h 213 m) (zI h 217 m) ∧ zI H 215 m = (if yPen (zI h 211 m) (zI h 217 m) (zI h 219 0) then -6 else zI h 215 m) ∧ zI H 217 m = (if yPen (zI h 211 m) (zI h 217 m) (zI h 219 0) then 2 else zI h 217 m)
theorem s_X11_year {ψ : Int32 → ZH → Prop} {np nm nh : Nat} (S : Sh h np nm nh) (c : zI h 200 17 = nI nm) (hn : nm ≤ 24) (rA : ∀ m, m < nm → rg (zI h 211 m) 14 70) (rY : ∀ m, m < nm → rg (zI h 213 m) 0 50) (q : ∀ H, yM h H nm → ψ (fold (fYr h) nm) H) : ZcI mX11_year [.ref 200] h ψ := by
  refine wX11_year ?_
  refine down (I := fun k => ∀ H, yM h H k → Zt mX11_year (zPI ψ) 0 0 4 [some (.ref 200), some (.int (fold (fYr h) k)), some (.int (nI k))] [] H) (n := nm) (fun H Y => ?_) (fun m hm ih H Y => ?_) h ⟨rfl, rfl, rfl, fun _ _ _ => rfl, fun m hm => absurd hm (by omega)⟩
  · refine wX11_year_4 ⟨by rw [Y.1]; exact (shM S).1, fun _ => q H Y, fun z => absurd ?_ z⟩
    rw [Y.2.2.2.1 200 17 (by omega), c]
    exact Int32.le_refl _
  · obtain ⟨y1, y2, y3, y4, y5⟩ := id Y
    have S' : Sh H np nm nh := S.same y1 y2 y3
    have e1 := nI_clamp (n := m) (by omega)
    have v1 : vp_in (nI m) 24 := vp_in_nI (by omega) (by omega)
    have c' : zI H 200 17 = nI nm := by rw [y4 200 17 (by omega)]; exact c
    have o11 : zI H 211 m = zI h 211 m := y4 _ _ (by omega)
    have o13 : zI H 213 m = zI h 213 m := y4 _ _ (by omega)
    have o15 : zI H 215 m = zI h 215 m := y4 _ _ (by omega)
    have o17 : zI H 217 m = zI h 217 m := y4 _ _ (by omega)
    have o19 : zI H 219 0 = zI h 219 0 := y4 _ _ (by omega)
    have ef : fold (fYr h) (m + 1) = if yPen (zI h 211 m) (zI h 217 m) (zI h 219 0) then fold (fYr h) m + 1 else fold (fYr h) m := rfl
    have step : ∀ H' : ZH, zK H' = zK H → zN H' = zN H → zR H' = zR H → (∀ a j, ¬ ((a = 211 ∨ a = 213 ∨ a = 215 ∨ a = 217) ∧ j = m) → zI H' a j = zI H a j) → zI H' 211 m = yAge (zI h 211 m) (zI h 217 m) → zI H' 213 m = yYrs (zI h 213 m) (zI h 217 m) → zI H' 215 m = (if yPen (zI h 211 m) (zI h 217 m) (zI h 219 0) then -6 else zI h 215 m) → zI H' 217 m = (if yPen (zI h 211 m) (zI h 217 m) (zI h 219 0) then 2 else zI h 217 m) → yM h H' (m + 1) := by
      intro H' g1 g2 g3 g4 g5 g6 g7 g8
      refine ⟨g1.trans y1, g2.trans y2, g3.trans y3, fun a j z => by rw [g4 a j (by omega)]; exact y4 a j (by omega), fun m' hm' => ?_⟩
      by_cases e : m' = m
      · subst e
        exact ⟨g5, g6, g7, g8⟩
      · rw [g4 211 m' (by omega), g4 213 m' (by omega), g4 215 m' (by omega), g4 217 m' (by omega)]
        exact y5 m' (by omega)
    refine wX11_year_4 ?_
    refine ⟨(shM S').1, fun z => absurd z (by rw [c']; exact cnt_le (by omega) hm), fun _ => ?_⟩
    simp only [shM S', e1, v1, o17, ne_eq, nI_1]
    refine ⟨by decide, trivial, trivial, fun z => ?_, fun z => ?_⟩
    · have Y' : yM h H (m + 1) := by
        refine step H rfl rfl rfl (fun _ _ _ => rfl) ?_ ?_ ?_ ?_
        · rw [o11]; unfold yAge; rw [if_pos z]
        · rw [o13]; unfold yYrs; rw [if_neg (show ¬ zI h 217 m = 0 by rw [z]; decide)]
        · rw [o15, if_neg (fun x => x.1 z)]
        · rw [o17, if_neg (fun x => x.1 z)]
      have := ih H Y'
      rw [ef, if_neg (fun x => x.1 z)] at this
      exact this
    -- he isn't gone: his age first
    have mid : ∀ (h25 : ZH) (s0 : Int32), zK h25 = zK H → zN h25 = zN H → zR h25 = zR H → (∀ a j, ¬ (a = 211 ∧ j = m) → zI h25 a j = zI H a j) → zI h25 211 m = yAge (zI h 211 m) (zI h 217 m) → zI h 213 m + s0 = yYrs (zI h 213 m) (zI h 217 m) →
        Zt mX11_year (zPI ψ) 0 0 84 [some (.ref 200), some (.int (fold (fYr h) m)), some (.int (nI m))] [.int s0, .int (zI h 213 m), .int (nI m), .ref 213] h25 := by
      intro h25 s0 k1 k2 k3 k4 k5 k6
      have S25 : Sh h25 np nm nh := S'.same k1 k2 k3
      refine wX11_year_84 ?_
      simp only [shM S25, e1, v1, ne_eq]
      refine ⟨trivial, trivial, trivial, by decide, ?_⟩
      intro h5 e5
      rw [k6] at e5
      have S5 : Sh h5 np nm nh := S25.same (by rw [e5, zK_sI]) (by rw [e5, zN_sI]) (by rw [e5, zR_sI])
      have a17 : zI h5 217 m = zI h 217 m := by rw [e5, zI_sIa (by decide), k4 217 m (by omega)]; exact o17
      have a11 : zI h5 211 m = yAge (zI h 211 m) (zI h 217 m) := by rw [e5, zI_sIa (by decide)]; exact k5
      have a13 : zI h5 213 m = yYrs (zI h 213 m) (zI h 217 m) := by rw [e5, zI_sIs]
      have a15 : zI h5 215 m = zI h 215 m := by rw [e5, zI_sIa (by decide), k4 215 m (by omega)]; exact o15
      have a19 : zI h5 219 0 = zI h 219 0 := by rw [e5, zI_sIa (by decide), k4 219 0 (by omega)]; exact o19
      have a4 : ∀ a j, ¬ ((a = 211 ∨ a = 213) ∧ j = m) → zI h5 a j = zI H a j := fun a j x => by rw [e5, zI_sIn (by omega)]; exact k4 a j (by omega)
      have aK : zK h5 = zK H := by rw [e5, zK_sI]; exact k1
      have aN : zN h5 = zN H := by rw [e5, zN_sI]; exact k2
      have aR : zR h5 = zR H := by rw [e5, zR_sI]; exact k3
      clear e5
      simp only [shM S5, e1, v1, a17, a11, a19, ne_eq, nI_1]
      have stay : ¬ yPen (zI h 211 m) (zI h 217 m) (zI h 219 0) → Zt mX11_year (zPI ψ) 0 0 4 [some (.ref 200), some (.int (fold (fYr h) m)), some (.int (nI (m + 1)))] [] h5 := fun np' => by
        have := ih h5 (step h5 aK aN aR (fun a j x => a4 a j (by omega)) a11 a13 (by rw [a15, if_neg np']) (by rw [a17, if_neg np']))
        rw [ef, if_neg np'] at this
        exact this
      refine ⟨trivial, trivial, fun y => stay (fun x => x.2.1 y), fun y => ⟨trivial, by decide, trivial, trivial, by decide, trivial, by decide, fun w => stay (fun x => Int32.not_lt.mpr x.2.2 w), fun w => ?_⟩⟩
      have yp : yPen (zI h 211 m) (zI h 217 m) (zI h 219 0) := ⟨z, y, Int32.not_lt.mp w⟩
      refine s_become S5 (by omega) ?_
      have := ih _ (step (zsI (zsI h5 217 m 2) 215 m (-6)) (by rw [zK_sI, zK_sI, aK]) (by rw [zN_sI, zN_sI, aN]) (by rw [zR_sI, zR_sI, aR]) (fun a j x => by rw [zI_sIn (by omega), zI_sIn (by omega)]; exact a4 a j (by omega)) (by rw [zI_sIa (by decide), zI_sIa (by decide)]; exact a11) (by rw [zI_sIa (by decide), zI_sIa (by decide)]; exact a13) (by rw [zI_sIs, if_pos yp]) (by rw [zI_sIa (by decide), zI_sIs, if_pos yp]))
      rw [ef, if_pos yp] at this
      exact this
    have eA : yAge (zI h 211 m) (zI h 217 m) = if 70 ≤ zI h 211 m then 70 else zI h 211 m + 1 := by
      unfold yAge
      rw [if_neg z]
      exact (yAge_eq (rA m hm)).1
    have eY := (yYrs_eq (rY m hm)).1
    -- the years
    have yrs : ∀ h25 : ZH, zK h25 = zK H → zN h25 = zN H → zR h25 = zR H → (∀ a j, ¬ (a = 211 ∧ j = m) → zI h25 a j = zI H a j) → zI h25 211 m = yAge (zI h 211 m) (zI h 217 m) →
        (¬ zI h 217 m = 0 → Zt mX11_year (zPI ψ) 0 0 84 [some (.ref 200), some (.int (fold (fYr h) m)), some (.int (nI m))] [.int 0, .int (zI h 213 m), .int (nI m), .ref 213] h25) ∧ (zI h 217 m = 0 → ((50 ≤ zI h 213 m → Zt mX11_year (zPI ψ) 0 0 84 [some (.ref 200), some (.int (fold (fYr h) m)), some (.int (nI m))] [.int 0, .int (zI h 213 m), .int (nI m), .ref 213] h25) ∧ (¬ 50 ≤ zI h 213 m → Zt mX11_year (zPI ψ) 0 0 84 [some (.ref 200), some (.int (fold (fYr h) m)), some (.int (nI m))] [.int 1, .int (zI h 213 m), .int (nI m), .ref 213] h25))) := by
      intro h25 k1 k2 k3 k4 k5
      refine ⟨fun y => mid h25 0 k1 k2 k3 k4 k5 ?_, fun y => ⟨fun w => mid h25 0 k1 k2 k3 k4 k5 ?_, fun w => mid h25 1 k1 k2 k3 k4 k5 ?_⟩⟩
      · unfold yYrs; rw [if_neg y, i_add0]
      · unfold yYrs; rw [if_pos y, eY, if_pos w]
      · unfold yYrs; rw [if_pos y, eY, if_neg w]
    simp only [o11]
    refine ⟨by decide, trivial, trivial, fun y => ⟨by decide, ?_⟩, fun y => ⟨by decide, ?_⟩⟩
    · intro h25 e25
      have S25 : Sh h25 np nm nh := S'.same (by rw [e25, zK_sI]) (by rw [e25, zN_sI]) (by rw [e25, zR_sI])
      have a13 : zI h25 213 m = zI h 213 m := by rw [e25, zI_sIa (by decide)]; exact o13
      have a17 : zI h25 217 m = zI h 217 m := by rw [e25, zI_sIa (by decide)]; exact o17
      have r := yrs h25 (by rw [e25, zK_sI]) (by rw [e25, zN_sI]) (by rw [e25, zR_sI]) (fun a j x => by rw [e25, zI_sIn (by omega)]) (by rw [e25, zI_sIs, eA, if_pos y])
      simp only [shM S25, e1, v1, a13, a17, ne_eq]
      exact ⟨trivial, trivial, trivial, by decide, trivial, trivial, r.1, fun w => ⟨by decide, trivial, trivial, (r.2 w).1, (r.2 w).2⟩⟩
    · intro h25 e25
      have S25 : Sh h25 np nm nh := S'.same (by rw [e25, zK_sI]) (by rw [e25, zN_sI]) (by rw [e25, zR_sI])
      have a13 : zI h25 213 m = zI h 213 m := by rw [e25, zI_sIa (by decide)]; exact o13
      have a17 : zI h25 217 m = zI h 217 m := by rw [e25, zI_sIa (by decide)]; exact o17
      have r := yrs h25 (by rw [e25, zK_sI]) (by rw [e25, zN_sI]) (by rw [e25, zR_sI]) (fun a j x => by rw [e25, zI_sIn (by omega)]) (by rw [e25, zI_sIs, eA, if_neg y])
      simp only [shM S25, e1, v1, a13, a17, ne_eq]
      exact ⟨trivial, trivial, trivial, by decide, trivial, trivial, r.1, fun w => ⟨by decide, trivial, trivial, (r.2 w).1, (r.2 w).2⟩⟩
set_option maxHeartbeats 4000000 in
theorem op_year (J : Jx h i L xs) : ZcI mX10_year [.ref 10] h (fun v h1 => ZcI mX11_year [.ref 200] h1 (fun v' h2 => v = v' ∧ Jx h2 (i + 1) L xs)) := by
  have J0 := J
  obtain ⟨np, nm, nh, nw, ns, mo, ⟨S, C, T, P, M, St, G, R, W, V, X⟩, q1, q2⟩ := J
  have kX : zK h 10 = 11 := (shX S).1
  have kM : zK h 200 = 12 := (shM S).1
  have cp := C.1
  have cm := C.2.1
  have ch := C.2.2.1
  have cw := C.2.2.2.1
  have cs := C.2.2.2.2.1
  have b1 : np < 2 ^ 31 := by omega
  have b2 : nm < 2 ^ 31 := by omega
  have b3 : nh < 2 ^ 31 := by omega
  refine s_X10_year S cm.2.1 cm.2.2 M St (fun H1 Y => ?_)
  obtain ⟨y1, y2, y3, y4, y5⟩ := Y
  have S1 : Sh H1 np nm nh := S.same y1 y2 y3
  have eF : fold (fYr H1) nm = fold (fYr h) nm := fold_congr (fun k hk a => by
    unfold fYr
    rw [y4 211 k (by omega), y4 217 k (by omega), y4 219 0 (by omega)])
  refine s_X11_year S1 (by rw [y4 200 17 (by omega)]; exact cm.1) cm.2.2 (fun m hm => by rw [y4 211 m (by omega)]; exact (M m hm).2.2.2.2.2.2.2.1) (fun m hm => by rw [y4 213 m (by omega)]; exact (M m hm).2.2.2.2.2.2.2.2.2.1) (fun H2 Z => ?_)
  obtain ⟨z1, z2, z3, z4, z5⟩ := Z
  refine ⟨eF.symm, ?_⟩
  have E : ∀ a j, ¬ ((400 ≤ a ∧ a < 400 + nm) ∨ ((a = 211 ∨ a = 213 ∨ a = 215 ∨ a = 217) ∧ j < nm)) → zI H2 a j = zI h a j := fun a j q => (z4 a j (by omega)).trans (y4 a j (by omega))
  have M2 : JM H2 np nm := fun m hm => by
    have Mm := M m hm
    have Ym := y5 m hm
    have Zm := z5 m hm
    rw [y4 211 m (by omega), y4 217 m (by omega), y4 213 m (by omega), y4 215 m (by omega), y4 219 0 (by omega)] at Zm
    rw [z4 (400 + m) 0 (by omega), z4 (400 + m) 1 (by omega), z4 (400 + m) 2 (by omega), z4 (400 + m) 3 (by omega), z4 (400 + m) 4 (by omega), z4 (400 + m) 5 (by omega), z4 (400 + m) 6 (by omega), Ym.1, Ym.2.1, Ym.2.2.1, Ym.2.2.2.1, Ym.2.2.2.2.1, Ym.2.2.2.2.2.1, Ym.2.2.2.2.2.2, Zm.1, Zm.2.1, Zm.2.2.1, Zm.2.2.2, E 212 m (by omega), E 214 m (by omega), E 216 m (by omega)]
    refine ⟨rfl, rfl, rfl, rfl, rfl, rfl, rfl, ?_, Mm.2.2.2.2.2.2.2.2.1, ?_, Mm.2.2.2.2.2.2.2.2.2.2.1, Mm.2.2.2.2.2.2.2.2.2.2.2.1, ?_, ?_⟩
    · unfold yAge
      by_cases c : zI h 217 m = 4
      · rw [if_pos c]; exact Mm.2.2.2.2.2.2.2.1
      · rw [if_neg c]; exact (yAge_eq Mm.2.2.2.2.2.2.2.1).2
    · unfold yYrs
      by_cases c : zI h 217 m = 0
      · rw [if_pos c]; exact (yYrs_eq Mm.2.2.2.2.2.2.2.2.2.1).2
      · rw [if_neg c]; exact Mm.2.2.2.2.2.2.2.2.2.1
    · by_cases c : yPen (zI h 211 m) (zI h 217 m) (zI h 219 0)
      · rw [if_pos c]; exact ⟨by decide, by decide⟩
      · rw [if_neg c]; exact Mm.2.2.2.2.2.2.2.2.2.2.2.2.1
    · by_cases c : yPen (zI h 211 m) (zI h 217 m) (zI h 219 0)
      · rw [if_pos c, if_pos c]; exact Or.inr ⟨by decide, rfl⟩
      · rw [if_neg c, if_neg c]; exact Mm.2.2.2.2.2.2.2.2.2.2.2.2.2
  exact ⟨np, nm, nh, nw, ns, mo, ⟨S1.same z1 z2 z3, C.up.congr (fun a j q => E a j (by omega)), T.congr (fun a j q => E a j (by omega)), P.congr (fun a j q => E a j (by omega)) cp.2.2.2, M2, St.congr (fun a j q => E a j (by omega)), G.congr (fun a j q => E a j (by omega)), R.congr (fun a j q => E a j (by omega)), W.congr (fun a j q => E a j (by omega)), V.congr (fun a j q => E a j (by omega)), X.congr (fun a j q => E a j (by omega)) ch.2.2⟩, by rw [z2, y2]; exact q1, fun j hj => by rw [E 4 j (by omega)]; exact q2 j hj⟩
end YEAR2
