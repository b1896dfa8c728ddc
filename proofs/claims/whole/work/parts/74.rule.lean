section RULE
variable {h : ZH} {np nm nh : Nat} {i L : Nat} {xs : Nat → Int32}
theorem fo_end {F : Nat → Int32} : ∀ {r k m d : Nat}, trun F k = some (m, d) → (fo F r k m d = -6 ∧ okT F (k + r)) ∨ ∃ j, j ≤ k + r ∧ fo F r k m d = nI j
  | 0, k, m, d, e => by
    unfold fo
    by_cases q : m = 1 ∧ d = 0
    · rw [if_pos q]
      refine Or.inl ⟨rfl, ?_⟩
      unfold okT
      rw [Nat.add_zero, e, q.1, q.2]
    · rw [if_neg q]
      exact Or.inr ⟨k, by omega, rfl⟩
  | r + 1, k, m, d, e => by
    unfold fo
    cases es : stp m d (F k) with
    | none => exact Or.inr ⟨k, by omega, rfl⟩
    | some s =>
      have e2 : trun F (k + 1) = some (s.1, s.2) := by
        show (trun F k).bind _ = _
        rw [e]
        exact es
      have := fo_end (r := r) e2
      rw [show k + (r + 1) = k + 1 + r by omega]
      exact this
/-- what the class's part of rule has done -/
def RU (h H : ZH) (r ns : Nat) : Prop := zK H = zK h ∧ zN H = zN h ∧ zR H = zR h ∧ (∀ a j, ¬ (a = 28 + 2 * r) → ¬ (a = 27 + 2 * r ∧ j = 1) → ¬ (a = 24 ∧ j = 1) → zI H a j = zI h a j) ∧ (∀ j, j < 40 → zI H (28 + 2 * r) j = zI h 25 j) ∧ zI H (27 + 2 * r) 1 = nI ns ∧ zI H 24 1 = 0
theorem s_X8_copy {ψ : ZH → Prop} {r ns : Nat} (S : Sh h np nm nh) (hr : r < 3) (c : zI h 24 1 = nI ns) (k : ∀ H, RU h (zsI H 24 1 0) r ns → zK H = zK h → zR H = zR h → ψ H) : ZcV mX8_copyFrom [.ref (27 + 2 * r), .ref 24] h ψ := by
  refine wX8_copyFrom ?_
  simp only [shX S, shRule S hr, ne_eq]
  refine ⟨trivial, by decide, trivial, Nat.ne_of_gt (by omega), trivial, trivial, by omega, by decide, by decide, fun a1 e1 => ?_⟩
  have K1 : zK a1 = zK h := by rw [e1, zK_cp]
  have N1 : zN a1 = zN h := by rw [e1, zN_cp]
  have R1 : zR a1 = zR h := by rw [e1, zR_cp]
  have F1 : ∀ a j, a ≠ 28 + 2 * r → zI a1 a j = zI h a j := fun a j q => by rw [e1, zI_cpn q]
  have G1 : ∀ j, j < 40 → zI a1 (28 + 2 * r) j = zI h 25 j := fun j q => by rw [e1, zI_cps q]
  clear e1
  rw [K1]
  refine ⟨(shX S).2.2.2.2.2.2.2.2.2.2.2.2.2.2.2.2.2.2.2.2.2.1, (shRule S hr).2.1, k _ ⟨?_, ?_, ?_, fun a j q1 q2 q3 => ?_, fun j hj => ?_, ?_, ?_⟩ ?_ ?_⟩
  · rw [zK_sI, zK_sI, K1]
  · rw [zN_sI, zN_sI, N1]
  · rw [zR_sI, zR_sI, R1]
  · rw [zI_sIn (by omega), zI_sIn (by omega), F1 a j q1]
  · rw [zI_sIn (by omega), zI_sIn (by omega), G1 j hj]
  · rw [zI_sIn (by omega), zI_sIs, F1 24 1 (by omega), c]
  · rw [zI_sIs]
  · rw [zK_sI, K1]
  · rw [zR_sI, R1]
/-- the model's part, k signs laid -/
def RV (h H : ZH) (r k : Nat) : Prop := zK H = zK h ∧ zN H = zN h ∧ zR H = zR h ∧ (∀ a j, ¬ (a = 220 ∧ 40 * r ≤ j ∧ j < 40 * r + k) → zI H a j = zI h a j) ∧ ∀ j, j < k → zI H 220 (40 * r + j) = zI h 220 (120 + j)
set_option maxHeartbeats 4000000 in
theorem s_X11_rule42 {ψ : Int32 → ZH → Prop} {r ns : Nat} {b : Int32} (S : Sh h np nm nh) (hr : r < 3) (c : zI h 221 3 = nI ns) (hns : ns ≤ 40) (k : ∀ H, RV h H r ns → ψ (if b = 0 then 1 else 0) (zsI (zsI H 221 r (nI ns)) 221 3 0)) :
    Zt mX11_rule (zPI ψ) 0 0 42 [some (.ref 200), some (.int (nI r)), some (.int b), some (.int 0)] [] h := by
  have e1 := nI_clamp (n := r) (by omega)
  have v1 : vp_in (nI r) 4 := vp_in_nI (by omega) (by omega)
  have := down (n := ns) (I := fun k => ∀ H, RV h H r k → Zt mX11_rule (zPI ψ) 0 0 42 [some (.ref 200), some (.int (nI r)), some (.int b), some (.int (nI k))] [] H) ?_ ?_
  · exact this h ⟨rfl, rfl, rfl, fun _ _ _ => rfl, fun j hj => absurd hj (by omega)⟩
  · intro H R
    have k' := k H R
    refine wX11_rule_42 ?_
    have cH : zI H 221 3 = nI ns := by rw [R.2.2.2.1 221 3 (by omega), c]
    simp only [R.1, R.2.1, R.2.2.1, shM S, cH, e1, v1, ne_eq]
    refine ⟨trivial, by decide, trivial, by decide, fun _ => ⟨trivial, fun z => ?_, fun z => ?_⟩, fun q => absurd (Int32.le_refl _) q⟩
    · rw [if_pos z] at k'; exact k'
    · rw [if_neg z] at k'; exact k'
  · intro j hj ih H R
    refine wX11_rule_42 ?_
    have cH : zI H 221 3 = nI ns := by rw [R.2.2.2.1 221 3 (by omega), c]
    have e2 : (40 * nI r + nI j) = nI (40 * r + j) := by rw [show (40 : Int32) = nI 40 from rfl, nI_mul, nI_add]
    have e3 : (120 + nI j) = nI (120 + j) := by rw [show (120 : Int32) = nI 120 from rfl, nI_add]
    have v2 : vp_in (nI (40 * r + j)) 160 := vp_in_nI (by omega) (by omega)
    have v3 : vp_in (nI (120 + j)) 160 := vp_in_nI (by omega) (by omega)
    have c2 := nI_clamp (n := 40 * r + j) (by omega)
    have c3 := nI_clamp (n := 120 + j) (by omega)
    simp only [R.1, R.2.1, R.2.2.1, shM S, cH, e2, e3, c2, c3, v2, v3, ne_eq, nI_1]
    refine ⟨trivial, by decide, trivial, by decide, Bf (cnt_le (by omega) hj) ⟨by decide, trivial, trivial, trivial, ih _ ?_⟩⟩
    refine ⟨by rw [zK_sI, R.1], by rw [zN_sI, R.2.1], by rw [zR_sI, R.2.2.1], fun a q hq => ?_, fun q hq => ?_⟩
    · rw [zI_sIn (by omega), R.2.2.2.1 a q (by omega)]
    · by_cases e : q = j
      · subst e
        rw [zI_sIs, R.2.2.2.1 220 _ (by omega)]
      · rw [zI_sIj (by omega), R.2.2.2.2 q (by omega)]
set_option maxHeartbeats 4000000 in
theorem op_rule {l1 : Int32} (J : Jx h i L xs) : ZcI mX10_rule [.ref 10, .int l1] h (fun v h1 => ZcI mX11_rule [.ref 200, .int l1] h1 (fun v' h2 => v = v' ∧ Jx h2 (i + 1) L xs)) := by
  have J0 := J
  obtain ⟨np, nm, nh, nw, ns, mo, ⟨S, C, T, P, M, St, G, R, W, V, X⟩, q1, q2⟩ := J
  have kX : zK h 10 = 11 := (shX S).1
  have kM : zK h 200 = 12 := (shM S).1
  have cp := C.1
  have cm := C.2.1
  have ch := C.2.2.1
  have cw := C.2.2.2.1
  have cs := C.2.2.2.2.1
  have b1 : np < 2 ^ 31 := by omega
  have b2 : nm < 2 ^ 31 := by omega
  have b3 : nh < 2 ^ 31 := by omega
  by_cases c1 : 0 ≤ l1 ∧ l1 ≤ 2
  rotate_left
  · exact wX10_rule (X10_rule_f c1 (N0 (wX11_rule (X11_in_f c1 rfl rfl (N0 ⟨rfl, J0.up⟩)))))
  obtain ⟨r, hr, rfl⟩ := in_nI (n := 2) (by decide) c1
  have hr3 : r < 3 := by omega
  have e1 := nI_clamp (n := r) (by omega)
  have v1 : vp_in (nI r) 3 := vp_in_nI (by omega) (by omega)
  have v4 : vp_in (nI r) 4 := vp_in_nI (by omega) (by omega)
  have X24 := tx24 S cs.2.1 cs.2.2 G
  rcases fo_end (F := fun j => zI h 220 (120 + j)) (r := ns) (k := 0) (m := 0) (d := 0) rfl with ⟨ef, ok⟩ | ⟨j, hj, ef⟩
  rotate_left
  · refine wX10_rule (X10_rule_t c1 (N1 ?_))
    simp only [shX S, ne_eq]
    refine ⟨trivial, by decide, trivial, s_X8_firstFault X24 ?_⟩
    rw [ef]
    refine Bf (nI_ne6 (by omega)) (wX11_rule (X11_in_t c1 rfl rfl (N1 ⟨kM, s_X11_fault S cs.1 cs.2.2 ?_⟩)))
    rw [ef]
    exact Bf (nI_pos (by omega)) ⟨rfl, J0.up⟩
  rw [Nat.zero_add] at ok
  have n1 : 1 ≤ ns := by
    cases ns with
    | zero => exact absurd ok (by unfold okT trun; decide)
    | succ n => omega
  have Rr := R r hr3
  obtain ⟨b, hb, hm, hc⟩ : ∃ b : Int32, (b = 0 ∨ b = 1) ∧ (((zI h 221 r) < 0 → b = 0) ∧ (¬ (zI h 221 r) < 0 → b = 1)) ∧ ((zI h (27 + 2 * r) 1 = 0 → b = 0) ∧ (¬ zI h (27 + 2 * r) 1 = 0 → b = 1)) := by
    rcases Rr with ⟨x1, x2⟩ | ⟨c, y1, y2, y3, y4, y5⟩
    · refine ⟨0, Or.inl rfl, ⟨fun _ => rfl, fun q => absurd ?_ q⟩, fun _ => rfl, fun q => absurd x2 q⟩
      rw [x1]; decide
    · refine ⟨1, Or.inr rfl, ⟨fun q => absurd q ?_, fun _ => rfl⟩, fun q => absurd q ?_, fun _ => rfl⟩
      · rw [y3]; exact nI_pos (by omega)
      · rw [y4]
        intro q
        have := nI_inj' (b := 0) (by omega) (by omega) q
        omega
  have fin : ∀ v H, (v = if b = 0 then (1 : Int32) else 0) → RU h (zsI H 24 1 0) r ns → ZcI mX11_rule [.ref 200, .int (nI r)] (zsI H 24 1 0) (fun v' h2 => v = v' ∧ Jx h2 (i + 1) L xs) := fun v H ev U => by
    revert U
    generalize zsI H 24 1 0 = H1
    intro U
    have S1 := S.same U.1 U.2.1 U.2.2.1
    have E1 := U.2.2.2.1
    have c3 : zI H1 221 3 = nI ns := by rw [E1 221 3 (by omega) (by omega) (by omega), cs.1]
    refine wX11_rule (X11_in_t c1 rfl rfl (N1 ⟨(shM S1).1, s_X11_fault S1 c3 cs.2.2 ?_⟩))
    have eF : (fun j => zI H1 220 (120 + j)) = (fun j => zI h 220 (120 + j)) := funext fun j => E1 _ _ (by omega) (by omega) (by omega)
    rw [eF, ef]
    refine Bt (by decide) ?_
    have e2 : zI H1 221 r = zI h 221 r := E1 _ _ (by omega) (by omega) (by omega)
    simp only [shM S1, e1, v4, e2, ne_eq]
    have go : Zt mX11_rule (zPI (fun v' h2 => v = v' ∧ Jx h2 (i + 1) L xs)) 0 0 42 [some (.ref 200), some (.int (nI r)), some (.int b), some (.int 0)] [] H1 := by
      refine s_X11_rule42 S1 hr3 c3 cs.2.2 (fun H2 VV => ⟨ev, ?_⟩)
      refine Jx.nm (fun H3 eH => ?_)
      have eK : zK H3 = zK h := by rw [eH, zK_sI, zK_sI, VV.1, U.1]
      have eN : zN H3 = zN h := by rw [eH, zN_sI, zN_sI, VV.2.1, U.2.1]
      have eR : zR H3 = zR h := by rw [eH, zR_sI, zR_sI, VV.2.2.1, U.2.2.1]
      have E : ∀ a j, ¬ (a = 28 + 2 * r ∨ (a = 27 + 2 * r ∧ j = 1) ∨ (a = 24 ∧ j = 1) ∨ (a = 220 ∧ 40 * r ≤ j ∧ j < 40 * r + ns) ∨ (a = 221 ∧ (j = r ∨ j = 3))) → zI H3 a j = zI h a j := fun a j q => by
        rw [eH, zI_sIn (by omega), zI_sIn (by omega), VV.2.2.2.1 a j (by omega), E1 a j (by omega) (by omega) (by omega)]
      have g1 : zI H3 221 3 = nI 0 := by rw [eH, zI_sIs]; rfl
      have g2 : zI H3 24 1 = nI 0 := by rw [eH, zI_sIa (by omega), zI_sIa (by omega), VV.2.2.2.1 _ _ (by omega), U.2.2.2.2.2.2]; rfl
      have g3 : zI H3 221 r = nI ns := by rw [eH, zI_sIj (by omega), zI_sIs]
      have g4 : zI H3 (27 + 2 * r) 1 = nI ns := by rw [eH, zI_sIa (by omega), zI_sIa (by omega), VV.2.2.2.1 _ _ (by omega), U.2.2.2.2.2.1]
      have g5 : ∀ j, j < ns → zI H3 220 (40 * r + j) = zI h 220 (120 + j) := fun j hj => by
        rw [eH, zI_sIa (by omega), zI_sIa (by omega), VV.2.2.2.2 j hj, E1 _ _ (by omega) (by omega) (by omega)]
      have g6 : ∀ j, j < ns → zI H3 (28 + 2 * r) j = zI h 220 (120 + j) := fun j hj => by
        rw [eH, zI_sIa (by omega), zI_sIa (by omega), VV.2.2.2.1 _ _ (by omega), U.2.2.2.2.1 j (by omega), (G j hj).1]
      clear eH
      have E' : ∀ a j, ¬ ((27 ≤ a ∧ a ≤ 32) ∨ (a = 24 ∧ j = 1) ∨ (a = 220 ∧ j < 120 + ns) ∨ a = 221) → zI H3 a j = zI h a j := fun a j q => E a j (by omega)
      refine ⟨np, nm, nh, nw, 0, mo, ⟨S.same eK eN eR, ?_, T.congr (fun a j q => E' a j (by omega)), P.congr (fun a j q => E' a j (by omega)) cp.2.2.2, M.congr (fun a j q => E' a j (by omega)) cm.2.2, St.congr (fun a j q => E' a j (by omega)), fun j hj => absurd hj (by omega), ?_, W.congr (fun a j q => E' a j (by omega)), V.congr (fun a j q => E' a j (by omega)), X.congr (fun a j q => E' a j (by omega)) ch.2.2⟩, by rw [eN]; exact q1, fun j hj => by rw [E' 4 j (by omega)]; exact q2 j hj⟩
      · have C' := C.up
        unfold JC at C' ⊢
        rw [E' 200 9 (by omega), E' 10 12 (by omega), E' 60 5 (by omega), E' 200 17 (by omega), E' 10 13 (by omega), E' 200 53 (by omega), E' 10 14 (by omega), E' 200 39 (by omega), E' 60 9 (by omega), g1, g2, E' 200 40 (by omega), E' 60 10 (by omega), E' 60 11 (by omega), E' 200 41 (by omega), E' 60 12 (by omega), E' 200 42 (by omega)]
        exact ⟨C'.1, C'.2.1, C'.2.2.1, C'.2.2.2.1, ⟨rfl, rfl, by omega⟩, C'.2.2.2.2.2⟩
      · intro r' hr'
        by_cases e : r' = r
        · subst e
          refine Or.inr ⟨ns, n1, cs.2.2, g3, g4, fun j hj => by rw [g6 j hj, g5 j hj], ?_⟩
          exact (okT_congr g5).mpr ok
        · have f1 : zI H3 221 r' = zI h 221 r' := E _ _ (by omega)
          have f2 : zI H3 (27 + 2 * r') 1 = zI h (27 + 2 * r') 1 := E _ _ (by omega)
          have f3 : ∀ j, j < 40 → zI H3 (28 + 2 * r') j = zI h (28 + 2 * r') j := fun j hj => E _ _ (by omega)
          have f4 : ∀ j, j < 40 → zI H3 220 (40 * r' + j) = zI h 220 (40 * r' + j) := fun j hj => E _ _ (by omega)
          rcases R r' hr' with ⟨x1, x2⟩ | ⟨c, y1, y2, y3, y4, y5, y6⟩
          · exact Or.inl ⟨by rw [f1, x1], by rw [f2, x2]⟩
          · refine Or.inr ⟨c, y1, y2, by rw [f1, y3], by rw [f2, y4], fun j hj => by rw [f3 j (by omega), f4 j (by omega), y5 j hj], ?_⟩
            exact (okT_congr (fun j hj => f4 j (by omega))).mpr y6
    refine ⟨trivial, by decide, trivial, trivial, fun q => ?_, fun q => ?_⟩
    · have := hm.1 q
      subst this
      exact go
    · have := hm.2 q
      subst this
      exact go
  refine wX10_rule (X10_rule_t c1 (N1 ?_))
  simp only [shX S, ne_eq]
  refine ⟨trivial, by decide, trivial, s_X8_firstFault X24 ?_⟩
  rw [ef]
  refine Bt rfl ?_
  simp only [shX S, shRule S hr3, e1, v1, ne_eq]
  refine ⟨trivial, by decide, trivial, trivial, Nat.ne_of_gt (by omega), trivial, fun q => s_X10_asOne (Or.inl rfl) ?_, fun q => s_X10_asOne (Or.inr rfl) ?_⟩
  · simp only [shX S, shRule S hr3, e1, v1, ne_eq]
    refine ⟨trivial, by decide, trivial, trivial, Nat.ne_of_gt (by omega), by decide, trivial, s_X8_copy S hr3 cs.2.1 (fun H U kH rH => ?_)⟩
    simp only [kH, rH, shX S, ne_eq]
    have := hc.2 q
    exact ⟨trivial, by decide, trivial, fin _ H (by rw [this]; rfl) U⟩
  · simp only [shX S, shRule S hr3, e1, v1, ne_eq]
    refine ⟨trivial, by decide, trivial, trivial, Nat.ne_of_gt (by omega), by decide, trivial, s_X8_copy S hr3 cs.2.1 (fun H U kH rH => ?_)⟩
    simp only [kH, rH, shX S, ne_eq]
    have := hc.1 q
    exact ⟨trivial, by decide, trivial, fin _ H (by rw [this]; rfl) U⟩
end RULE
