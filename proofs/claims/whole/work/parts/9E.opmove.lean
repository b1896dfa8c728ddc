section OPMOVE
variable {g h : ZH} {np nm nh : Nat} {i L : Nat} {xs : Nat → Int32}
theorem cM_lt {al : Nat → Nat → Bool} {cs : Nat → Nat → Nat} {S n k : Nat} (hS : S ≤ 12) (c : cM al cs S n k ≠ 12) : cM al cs S n k < S := (fsS_n hS c).1
theorem s_X7_index {ψ : Int32 → ZH → Prop} {H : ZH} {mv : MVt} {m : Nat} (S : Sh H np nm nh) (c4 : zI H 35 4 = nI mv.1) (n9 : mv.1 ≤ 9) (cl : ∀ j, j < mv.1 → zI H 38 j = nI (mv.2.1 j) ∧ mv.2.1 j < 24) (hm : m < 24) (k1 : ∀ j, j < mv.1 → mv.2.1 j = m → ψ (nI j) H) (k0 : (∀ j, j < mv.1 → mv.2.1 j ≠ m) → ψ (-6) H) : ZcI mX7_indexOf [.ref 35, .int (nI m)] H ψ := by
  have main := down (n := mv.1) (I := fun j => (∀ j', j' < j → mv.2.1 j' ≠ m) → Zt mX7_indexOf (zPI ψ) 0 0 2 [some (.ref 35), some (.int (nI m)), some (.int (nI j))] [] H) (fun g => ?_) (fun j hj ih g => ?_)
  · exact wX7_indexOf (main (fun j' hj' => absurd hj' (by omega)))
  · exact wX7_indexOf_2 ⟨(shRe S).1, fun _ => k0 g, fun z => absurd (by rw [c4]; exact Int32.le_refl _) z⟩
  · have ej := nI_clamp (n := j) (by omega)
    have vj : vp_in (nI j) 9 := vp_in_nI (by omega) (by omega)
    have cj := cl j hj
    refine wX7_indexOf_2 ?_
    simp only [shRe S, c4, ej, vj, cj.1, nI_1, ne_eq]
    refine ⟨trivial, Bf (cnt_le (by omega) hj) ⟨by decide, trivial, trivial, fun z => ih (fun j' hj' e => ?_), fun z => k1 j hj (nI_inj' (by omega) (by omega) z)⟩⟩
    by_cases ee : j' = j
    · subst ee; exact z (by rw [e])
    · exact g j' (by omega) e
theorem s_X7_newPit {ψ : Int32 → ZH → Prop} {H : ZH} {sl : SLt} {mv : MVt} {m : Nat} (S0 : Sh h np nm nh) (C : C4 h H sl mv) (hl : ∀ j, j < mv.1 → mv.2.1 j < 24) (hm : m < 24) (k1 : ∀ j, j < mv.1 → mv.2.1 j = m → ψ (if cM (alD h sl mv) (csD h sl mv) sl.1 mv.1 j = 12 then -6 else nI (sl.2.1 (cM (alD h sl mv) (csD h sl mv) sl.1 mv.1 j))) H) (k0 : (∀ j, j < mv.1 → mv.2.1 j ≠ m) → ψ (-6) H) : ZcI mX7_newPitOf [.ref 35, .int (nI m)] H ψ := by
  obtain ⟨e, SS, c4, n9, cl, c7, c39, _⟩ := C
  have S := e.Sh S0
  refine wX7_newPitOf ⟨(shRe S).1, s_X7_index S c4 n9 (fun j hj => ⟨cl j hj, hl j hj⟩) hm (fun j hj ej => ⟨fun z => absurd z (nI_ne6 (by omega)), fun _ => ?_⟩) (fun g => ⟨fun _ => k0 g, fun z => absurd rfl z⟩)⟩
  have q := k1 j hj ej
  have ejc := nI_clamp (n := j) (by omega)
  have vj : vp_in (nI j) 9 := vp_in_nI (by omega) (by omega)
  have cj : zI H 39 j = if cM (alD h sl mv) (csD h sl mv) sl.1 mv.1 j = 12 then -6 else nI (cM (alD h sl mv) (csD h sl mv) sl.1 mv.1 j) := c39 j hj
  have h12 := SS.2.1
  simp only [shRe S, ejc, vj, ne_eq]
  refine ⟨trivial, by decide, trivial, trivial, ?_⟩
  rw [cj]
  by_cases c : cM (alD h sl mv) (csD h sl mv) sl.1 mv.1 j = 12
  · rw [if_pos c] at q ⊢
    exact ⟨fun z => absurd rfl z, fun _ => q⟩
  · rw [if_neg c] at q ⊢
    have w := cM_lt h12 c
    refine ⟨fun _ => ⟨by decide, trivial, vp_in_nI (by omega) (by omega), ?_⟩, fun z => absurd z (nI_ne6 (by omega))⟩
    rw [nI_clamp (by omega), (SS.2.2 _ w).1]
    exact q
theorem s_X11_newPit {ψ : Int32 → ZH → Prop} {H : ZH} {sl : SLt} {mv : MVt} {m : Nat} (S0 : Sh h np nm nh) (C : C5 g h H sl mv) (n9 : mv.1 ≤ 9) (hl : ∀ j, j < mv.1 → mv.2.1 j < 24) (hm : m < 24) (k1 : ∀ j, j < mv.1 → mv.2.1 j = m → ψ (if cM (alD h sl mv) (csD h sl mv) sl.1 mv.1 j = 12 then -6 else nI (sl.2.1 (cM (alD h sl mv) (csD h sl mv) sl.1 mv.1 j))) H) (k0 : (∀ j, j < mv.1 → mv.2.1 j ≠ m) → ψ (-6) H) : ZcI mX11_newPit [.ref 200, .int (nI m)] H ψ := by
  obtain ⟨e, SS, MM, c31, _⟩ := C
  have S := e.Sh S0
  have h12 := SS.2.1
  have main := down (n := mv.1) (I := fun j => (∀ j', j' < j → mv.2.1 j' ≠ m) → Zt mX11_newPit (zPI ψ) 0 0 2 [some (.ref 200), some (.int (nI m)), some (.int (nI j))] [] H) (fun g => ?_) (fun j hj ih g => ?_)
  · exact wX11_newPit (main (fun j' hj' => absurd hj' (by omega)))
  · exact wX11_newPit_2 ⟨(shM S).1, fun _ => k0 g, fun z => absurd (by rw [MM.1]; exact Int32.le_refl _) z⟩
  · have ej := nI_clamp (n := j) (by omega)
    have vj : vp_in (nI j) 24 := vp_in_nI (by omega) (by omega)
    have vj9 : vp_in (nI j) 9 := vp_in_nI (by omega) (by omega)
    have hlj := hl j hj
    refine wX11_newPit_2 ?_
    simp only [shM S, MM.1, ej, vj, vj9, MM.2.1 j hj, nI_1, ne_eq]
    refine ⟨trivial, Bf (cnt_le (by omega) hj) ⟨by decide, trivial, trivial, fun z => ih (fun j' hj' e => ?_), fun z => ⟨by decide, trivial, trivial, ?_⟩⟩⟩
    · by_cases ee : j' = j
      · subst ee; exact z (by rw [e])
      · exact g j' (by omega) e
    · have q := k1 j hj (nI_inj' (by omega) (by omega) z)
      rw [c31 j hj]
      by_cases c : cM (alD h sl mv) (csD h sl mv) sl.1 mv.1 j = 12
      · rw [if_pos c] at q ⊢
        exact ⟨fun z => absurd z (by decide), fun _ => q⟩
      · rw [if_neg c] at q ⊢
        have w := cM_lt h12 c
        refine ⟨fun _ => ⟨by decide, trivial, vp_in_nI (by omega) (by omega), ?_⟩, fun z => absurd (nI_pos' (by omega)) z⟩
        rw [nI_clamp (by omega), (SS.2.2 _ w).1]
        exact q
theorem LfD {a b x v : Nat} (ha : a ≤ 9) (hb : b ≤ 9) (hx : x ≤ 1782) (e : v = 10000000 * a + 100000 * b + x) : nI v / 10000000 = nI a ∧ nI v / 100000 - nI v / 100000 / 100 * 100 = nI b ∧ nI v - nI v / 100000 * 100000 = nI x := by
  have vb : v < 2 ^ 31 := by omega
  refine ⟨?_, ?_, ?_⟩
  · rw [nI_div (k := 10000000) vb (by decide) (by omega)]; congr 1; omega
  · rw [nI_div (k := 100000) vb (by decide) (by omega), nI_div (k := 100) (by omega) (by decide) (by omega), show (100 : Int32) = nI 100 from rfl, nI_mod]; congr 1; omega
  · rw [nI_div (k := 100000) vb (by decide) (by omega), show (100000 : Int32) = nI 100000 from rfl, nI_mod]; congr 1; omega
set_option maxHeartbeats 4000000 in
theorem op_move {l1 l2 : Int32} (J : Jx h i L xs) : ZcI mX10_move [.ref 10, .int l1, .int l2] h (fun v h1 => ZcI mX11_move [.ref 200, .int l1, .int l2] h1 (fun v' h2 => v = v' ∧ Jx h2 (i + 1) L xs)) := by
  have J0 := J
  obtain ⟨np, nm, nh, nw, ns, mo, ⟨S, C, T, P, M, St, G, R, W, V, X⟩, q1, q2⟩ := J
  have kX : zK h 10 = 11 := (shX S).1
  have kM : zK h 200 = 12 := (shM S).1
  have cp := C.1
  have cm := C.2.1
  have ch := C.2.2.1
  have cw := C.2.2.2.1
  have cs := C.2.2.2.2.1
  have b1 : np < 2 ^ 31 := by omega
  have b2 : nm < 2 ^ 31 := by omega
  have b3 : nh < 2 ^ 31 := by omega
  have Q : MQ' h np nm nh := MQ'.of ⟨S, C, T, P, M, St, G, R, W, V, X⟩
  -- the model's test of who is asked for
  have knT : ∀ (H : ZH) (Φ : Int32 → ZH → Prop), zsame h H → ((((-4) ≤ l2 ∧ l2 ≤ -1) ∨ ∃ m, m < nm ∧ l2 = nI m ∧ zI h 215 m = l1) → Zt mX11_move (zPI Φ) 0 0 37 [some (.ref 200), some (.int l1), some (.int l2), none] [.int 1] H) → (¬ (((-4) ≤ l2 ∧ l2 ≤ -1) ∨ ∃ m, m < nm ∧ l2 = nI m ∧ zI h 215 m = l1) → Zt mX11_move (zPI Φ) 0 0 37 [some (.ref 200), some (.int l1), some (.int l2), none] [.int 0] H) → ZcI mX11_move [.ref 200, .int l1, .int l2] H Φ := fun H Φ e t f => by
    have S1 := e.Sh S
    have cm1 : zI H 200 17 = nI nm := by rw [e.2.2.2 _ _ (by unfold scr; omega)]; exact cm.1
    by_cases c1 : (-4) ≤ l2 ∧ l2 ≤ -1
    · exact wX11_move (X11_in_t c1 rfl rfl (N1 (t (Or.inl c1))))
    · refine wX11_move (X11_in_f c1 rfl rfl (N0 ⟨(shM S1).1, ?_⟩))
      by_cases c2 : 0 ≤ l2 ∧ l2 ≤ nI nm - 1
      · obtain ⟨m, hm, rfl⟩ := in_cnt b2 c2
        have em := nI_clamp (n := m) (by omega)
        have vm : vp_in (nI m) 24 := vp_in_nI (by omega) (by omega)
        refine X11_man_t (shM S1).1 cm1 b2 hm (Z1 ?_)
        simp only [shM S1, em, vm, e.2.2.2 215 m (by unfold scr; omega), ne_eq]
        refine ⟨trivial, by decide, trivial, trivial, fun z => f (fun w => ?_), fun z => t (Or.inr ⟨m, hm, rfl, z⟩)⟩
        rcases w with w | ⟨m', hm', e', z'⟩
        · exact c1 w
        · have := nI_inj' (by omega) (by omega) e'
          subst this
          exact z z'
      · refine X11_man_f (shM S1).1 cm1 c2 (Z0 (f (fun w => ?_)))
        rcases w with w | ⟨m', hm', e', z'⟩
        · exact c1 w
        · exact c2 (by rw [e']; exact cnt_in b2 hm')
  by_cases c1 : 0 ≤ l1 ∧ l1 ≤ nI np - 1
  rotate_left
  · refine wX10_move ⟨kX, X10_pit_f kX cp.2.1 c1 (Z0 (knT h _ zsame.rfl' (fun _ => ?_) (fun _ => ?_)))⟩
    · exact wX11_move_37 ⟨kM, X11_pit_f kM cp.1 c1 (Z0 ⟨rfl, J0.up⟩)⟩
    · exact wX11_move_37 ⟨kM, X11_pit_f kM cp.1 c1 (Z0 ⟨rfl, J0.up⟩)⟩
  obtain ⟨p, hp, rfl⟩ := in_cnt b1 c1
  have ep := nI_clamp (n := p) (by omega)
  have vp : vp_in (nI p) 8 := vp_in_nI (by omega) (by omega)
  have p6 := (P.1 p hp).2.2.2.2.2.1
  by_cases kn : ((-4) ≤ l2 ∧ l2 ≤ -1) ∨ ∃ m, m < nm ∧ l2 = nI m ∧ zI h 215 m = nI p
  rotate_left
  · have no : ZcI mX11_move [.ref 200, .int (nI p), .int l2] h (fun v' h2 => (-1 : Int32) = v' ∧ Jx h2 (i + 1) L xs) := knT h _ zsame.rfl' (fun z => absurd z kn) (fun _ => wX11_move_37 ⟨kM, X11_pit_t kM cp.1 b1 hp (Z1 (N0 ⟨rfl, J0.up⟩))⟩)
    refine wX10_move ⟨kX, X10_pit_t kX cp.2.1 b1 hp (Z1 ⟨kX, ?_⟩)⟩
    rw [cm.2.1]
    by_cases c2 : (-4) ≤ l2 ∧ l2 ≤ nI nm - 1
    · refine X10_within_t c2 (Z1 ?_)
      by_cases c3 : l2 < 0
      · exfalso
        refine kn (Or.inl ⟨c2.1, ?_⟩)
        rw [tI_le]
        rw [tI_lt, tI_0] at c3
        have : (-1 : Int32).toInt = -1 := by decide
        omega
      · obtain ⟨m, hm, rfl⟩ := in_cnt b2 ⟨Int32.not_lt.mp c3, c2.2⟩
        have em := nI_clamp (n := m) (by omega)
        have vm : vp_in (nI m) 24 := vp_in_nI (by omega) (by omega)
        refine Bf c3 ?_
        simp only [shX S, shMan S hm, em, vm, (M m hm).2.2.2.2.1, ne_eq]
        exact ⟨trivial, by decide, trivial, trivial, by omega, trivial, fun z => absurd (Or.inr ⟨m, hm, rfl, z⟩) kn, fun _ => no⟩
    · exact X10_within_f c2 (Z0 no)
  have w42 : Zt mX10_move (zPI (fun v h1 => ZcI mX11_move [.ref 200, .int (nI p), .int l2] h1 (fun v' h2 => v = v' ∧ Jx h2 (i + 1) L xs))) 0 0 42 [some (.ref 10), some (.int (nI p)), some (.int l2)] [] h := by
    have model : ∀ (v : Int32) (H : ZH), zsame h H → ¬ zI h 208 p = 0 → ((mvs h p nm).1 ≤ 9 → ∀ H2, C5 H h H2 (sls h p np) (mvs h p nm) → ((l2 = (-4) → v = nI (mvs h p nm).2.2) ∧ (l2 = (-3) → v = zI H2 230 0 - zI H2 230 0 / 100000 * 100000) ∧ (l2 = (-2) → v = zI H2 230 0 / 100000 - zI H2 230 0 / 100000 / 100 * 100) ∧ (l2 = (-1) → v = zI H2 230 0 / 10000000) ∧ (¬ l2 = (-4) → ¬ l2 = (-3) → ¬ l2 = (-2) → ¬ l2 = (-1) → ZcI mX11_newPit [.ref 200, .int l2] H2 (fun x24 h23 => v = x24 ∧ Jx h23 (i + 1) L xs)))) → (9 < (mvs h p nm).1 → v = -5) → ZcI mX11_move [.ref 200, .int (nI p), .int l2] H (fun v' h2 => v = v' ∧ Jx h2 (i + 1) L xs) := fun v H e ho k9 k10 => by
      have S1 := e.Sh S
      refine knT H _ e (fun _ => ?_) (fun z => absurd kn z)
      have cp1 : zI H 200 9 = nI np := by rw [e.2.2.2 _ _ (by unfold scr; omega)]; exact cp.1
      refine wX11_move_37 ⟨(shM S1).1, X11_pit_t (shM S1).1 cp1 b1 hp (Z1 (N1 ?_))⟩
      simp only [shM S1, ep, vp, e.2.2.2 208 p (by unfold scr; omega), ne_eq]
      refine ⟨trivial, by decide, trivial, trivial, fun _ => s_X11_findMove Q hp e.m (fun n9 H2 c5 => ?_) (fun n9 H2 e2' MM => ?_), fun z => absurd z ho⟩
      · have e2 := e.trans c5.1.1
        have S2 := e2.Sh S
        have ca := k9 n9 H2 c5
        have l9 : nI (mvs h p nm).1 ≤ 9 := nI_le (b := 9) n9 (by omega)
        simp only [shM S2, c5.2.2.1.1, c5.2.2.1.2.2, ne_eq]
        exact ⟨trivial, fun _ => ⟨fun z => ⟨ca.1 z, J0.up.same e2⟩, fun z => ⟨by decide, trivial, by decide, ca.2.1 z, J0.up.same e2⟩, fun z => ⟨by decide, trivial, by decide, ca.2.2.1 z, J0.up.same e2⟩, fun z => ⟨by decide, trivial, by decide, ca.2.2.2.1 z, J0.up.same e2⟩, ca.2.2.2.2⟩, fun z => absurd l9 z⟩
      · have e2 := e.trans e2'.1
        have S2 := e2.Sh S
        have mb := (mvs_I (h := h) (pit := p) (m := nm)).1
        rw [(shM S2).1, MM.1]
        refine ⟨rfl, fun z => absurd z ?_, fun _ => ⟨k10 n9, J0.up.same e2⟩⟩
        exact cnt_le (n := (mvs h p nm).1) (k := 9) (by omega) n9
    refine wX10_move_42 ?_
    simp only [shX S, shPit S hp, ep, vp, p6, ne_eq]
    refine ⟨trivial, by decide, trivial, trivial, by omega, trivial, fun ho => s_X10_work Q hp (fun n9 H c4 => N1 ?_) (fun n9 H e => N0 (model _ H e ho (fun z => absurd z (by omega)) (fun _ => rfl))), fun hc => ?_⟩
    · have e := c4.1
      have S1 := e.Sh S
      have mI := mvs_I (h := h) (pit := p) (m := nm)
      obtain ⟨a, b, x, ha, hb, hx, hL, c8, c9, c10⟩ := c4.2.2.2.2.2.2.2
      have c7 := c4.2.2.2.2.2.1
      simp only [shX S1, shRe S1, c7, c8, c9, c10, ne_eq]
      have numb : ∀ H2, C5 H h H2 (sls h p np) (mvs h p nm) → zI H2 230 0 / 10000000 = nI a ∧ zI H2 230 0 / 100000 - zI H2 230 0 / 100000 / 100 * 100 = nI b ∧ zI H2 230 0 - zI H2 230 0 / 100000 * 100000 = nI x := fun H2 c5 => by
        rw [c5.2.2.2.2]
        exact LfD ha hb hx hL
      refine ⟨fun z => ⟨trivial, by decide, trivial, model _ H e ho (fun _ H2 c5 => ?_) (fun q => absurd q (by omega))⟩, fun z => ⟨trivial, by decide, trivial, model _ H e ho (fun _ H2 c5 => ?_) (fun q => absurd q (by omega))⟩, fun z => ⟨trivial, by decide, trivial, model _ H e ho (fun _ H2 c5 => ?_) (fun q => absurd q (by omega))⟩, fun z => ⟨trivial, by decide, trivial, model _ H e ho (fun _ H2 c5 => ?_) (fun q => absurd q (by omega))⟩, fun z1 z2 z3 z4 => ⟨trivial, by decide, trivial, ?_⟩⟩
      · subst z
        exact ⟨fun _ => rfl, fun q => absurd q (by decide), fun q => absurd q (by decide), fun q => absurd q (by decide), fun q => absurd rfl q⟩
      · subst z
        exact ⟨fun q => absurd q (by decide), fun _ => (numb H2 c5).2.2.symm, fun q => absurd q (by decide), fun q => absurd q (by decide), fun _ q => absurd rfl q⟩
      · subst z
        exact ⟨fun q => absurd q (by decide), fun q => absurd q (by decide), fun _ => (numb H2 c5).2.1.symm, fun q => absurd q (by decide), fun _ _ q => absurd rfl q⟩
      · subst z
        exact ⟨fun q => absurd q (by decide), fun q => absurd q (by decide), fun q => absurd q (by decide), fun _ => (numb H2 c5).1.symm, fun _ _ _ q => absurd rfl q⟩
      · have hman : ∃ m, m < nm ∧ l2 = nI m ∧ zI h 215 m = nI p := by
          rcases kn with ⟨q1, q2⟩ | q
          · exfalso
            rw [tI_le] at q1 q2
            have t4 : (-4 : Int32).toInt = -4 := by decide
            have t3 : (-3 : Int32).toInt = -3 := by decide
            have t2 : (-2 : Int32).toInt = -2 := by decide
            have t1 : (-1 : Int32).toInt = -1 := by decide
            have n4 : l2.toInt ≠ -4 := fun q => z1 (tI_eq (by rw [q, t4]))
            have n3 : l2.toInt ≠ -3 := fun q => z2 (tI_eq (by rw [q, t3]))
            have n2 : l2.toInt ≠ -2 := fun q => z3 (tI_eq (by rw [q, t2]))
            have n1 : l2.toInt ≠ -1 := fun q => z4 (tI_eq (by rw [q, t1]))
            omega
          · exact q
        obtain ⟨m, hm, em, _⟩ := hman
        have hl : ∀ j, j < (mvs h p nm).1 → (mvs h p nm).2.1 j < 24 := fun j hj => by have := (mI.2.2.1 j hj).1; omega
        rw [em]
        rw [em] at model z1 z2 z3 z4
        refine s_X7_newPit S c4 hl (by omega) (fun j hj ej => model _ H e ho (fun _ H2 c5 => ⟨fun q => absurd q z1, fun q => absurd q z2, fun q => absurd q z3, fun q => absurd q z4, fun _ _ _ _ => s_X11_newPit S c5 n9 hl (by omega) (fun j' hj' ej' => ⟨?_, J0.up.same (e.trans c5.1.1)⟩) (fun g => absurd ej (g j hj))⟩) (fun q => absurd q (by omega))) (fun g => model _ H e ho (fun _ H2 c5 => ⟨fun q => absurd q z1, fun q => absurd q z2, fun q => absurd q z3, fun q => absurd q z4, fun _ _ _ _ => s_X11_newPit S c5 n9 hl (by omega) (fun j' hj' ej' => absurd ej' (g j' hj')) (fun _ => ⟨rfl, J0.up.same (e.trans c5.1.1)⟩)⟩) (fun q => absurd q (by omega)))
        have := mI.2.2.2.1 j j' hj hj' (by rw [ej, ej'])
        rw [this]
    · refine knT h _ zsame.rfl' (fun _ => ?_) (fun z => absurd kn z)
      refine wX11_move_37 ⟨kM, X11_pit_t kM cp.1 b1 hp (Z1 (N1 ?_))⟩
      simp only [shM S, ep, vp, ne_eq]
      exact ⟨trivial, by decide, trivial, trivial, fun z => absurd hc z, fun _ => ⟨trivial, J0.up⟩⟩
  refine wX10_move ⟨kX, X10_pit_t kX cp.2.1 b1 hp (Z1 ⟨kX, ?_⟩)⟩
  rw [cm.2.1]
  have within : (-4) ≤ l2 ∧ l2 ≤ nI nm - 1 := by
    rcases kn with ⟨q1, q2⟩ | ⟨m, hm, em, _⟩
    · refine ⟨q1, Int32.le_trans q2 ?_⟩
      cases nm with
      | zero => decide
      | succ k =>
        rw [nI_pred]
        exact Int32.le_trans (by decide) (nI_pos' (n := k) (by omega))
    · rw [em]
      have := cnt_in b2 hm
      exact ⟨Int32.le_trans (by decide) this.1, this.2⟩
  refine X10_within_t within (Z1 ⟨fun _ => w42, fun z => ?_⟩)
  rcases kn with ⟨q1, q2⟩ | ⟨m, hm, em, zm⟩
  · exfalso
    refine z ?_
    rw [tI_lt, tI_0]
    rw [tI_le] at q2
    have : (-1 : Int32).toInt = -1 := by decide
    omega
  · subst em
    have em := nI_clamp (n := m) (by omega)
    have vm : vp_in (nI m) 24 := vp_in_nI (by omega) (by omega)
    simp only [shX S, shMan S hm, em, vm, (M m hm).2.2.2.2.1, ne_eq]
    exact ⟨trivial, by decide, trivial, trivial, by omega, trivial, fun _ => w42, fun q => absurd zm q⟩
end OPMOVE
