/-! what the class writes into the table of costs -/
def NVj (j : Nat) : Int := ((20000 * 10604499373 + 12 * 13 ^ (8 - j) : Nat) : Int)
def BAR : Int := 100000000000000000
/-- a row of costs: to each slot, and to none -/
def rowV (H : ZH) (S j : Nat) (v : Nat → Int) : Prop := (∀ c, c < S → (zL H (50 + j) c).toInt = v c) ∧ ∀ i, i < 9 → (zL H (50 + j) (S + i)).toInt = NVj j
theorem rowV.fr {H H1 : ZH} {S j : Nat} {v : Nat → Int} (r : rowV H S j v) (e : ∀ c, zL H1 (50 + j) c = zL H (50 + j) c) : rowV H1 S j v := ⟨fun c hc => by rw [e]; exact r.1 c hc, fun i hi => by rw [e]; exact r.2 i hi⟩
section OFFER
variable {h : ZH} {np nm nh : Nat}
set_option maxHeartbeats 2000000 in
theorem s_X7_addMan {ψ : Int32 → ZH → Prop} {H : ZH} {n Sc m : Nat} (S : Sh H np nm nh) (c4 : zI H 35 4 = nI n) (c2 : zI H 35 2 = nI Sc) (hS : Sc ≤ 12) (hn : n ≤ 9) (k0 : 9 ≤ n → ψ 0 H)
    (k1 : n < 9 → ∀ H1, zK H1 = zK H → zN H1 = zN H → zR H1 = zR H → (∀ a j, ¬ ((a = 38 ∧ j = n) ∨ (a = 35 ∧ j = 4)) → zI H1 a j = zI H a j) → zI H1 38 n = nI m → zI H1 35 4 = nI (n + 1) → (∀ a j, a ≠ 50 + n → zL H1 a j = zL H a j) → rowV H1 Sc n (fun _ => BAR) → ψ 1 H1) : ZcI mX7_addMan [.ref 35, .int (nI m)] H ψ := by
  have n9 : (nI n < 9) ↔ n < 9 := by rw [show (9 : Int32) = nI 9 from rfl, nI_lt' (by omega) (by omega)]
  refine wX7_addMan ⟨(shRe S).1, fun z => ?_, fun z => k0 ?_⟩
  rotate_left
  · rw [c4, n9] at z; omega
  rw [c4, n9] at z
  have en := nI_clamp (n := n) (by omega)
  have vn : vp_in (nI n) 9 := vp_in_nI (by omega) (by omega)
  simp only [shRe S, c4, en, vn, ne_eq]
  refine ⟨by decide, trivial, trivial, by decide, fun a1 e1 => ?_⟩
  have A1 : zK a1 = zK H ∧ zN a1 = zN H ∧ zR a1 = zR H ∧ zL a1 = zL H := by rw [e1]; exact ⟨rfl, rfl, rfl, rfl⟩
  have A2 : ∀ a j, ¬ (a = 38 ∧ j = n) → zI a1 a j = zI H a j := fun a j q => by rw [e1, zI_sIn q]
  have A3 : zI a1 38 n = nI m := by rw [e1, zI_sIs]
  clear e1
  have Sa : Sh a1 np nm nh := S.same A1.1 A1.2.1 A1.2.2.1
  simp only [shRe Sa, A2 35 4 (by omega), A2 35 2 (by omega), c4, c2]
  refine ⟨trivial, trivial, wX2_bar ?_⟩
  obtain ⟨rR, rK, rN⟩ := shCost Sa (q := n) (by omega)
  have bars := down (n := Sc) (I := fun c => ∀ H1, zK H1 = zK a1 → zN H1 = zN a1 → zR H1 = zR a1 → zI H1 = zI a1 → (∀ a j, a ≠ 50 + n → zL H1 a j = zL a1 a j) → (∀ c', c' < c → (zL H1 (50 + n) c').toInt = BAR) → Zt mX2_bar (zPV (fun h21 => Zt mX7_addMan (zPI ψ) 0 0 38 [some (.ref 35), none, some (.int 0)] [] h21)) 0 0 2 [some (.ref 40), some (.int (nI n)), some (.int (nI Sc)), some (.int (nI c))] [] H1) ?_ ?_
  · exact bars a1 rfl rfl rfl rfl (fun _ _ _ => rfl) (fun c' hc' => absurd hc' (by omega))
  · intro H1 kk kn kr ki kl g
    refine wX2_bar_2 ⟨fun _ => ?_, fun z => absurd (Int32.le_refl _) z⟩
    have nones := down (n := 9) (I := fun i => ∀ H2, zK H2 = zK a1 → zN H2 = zN a1 → zR H2 = zR a1 → zI H2 = zI a1 → (∀ a j, a ≠ 50 + n → zL H2 a j = zL a1 a j) → (∀ c', c' < Sc → (zL H2 (50 + n) c').toInt = BAR) → (∀ i', i' < i → (zL H2 (50 + n) (Sc + i')).toInt = NVj n) → Zt mX7_addMan (zPI ψ) 0 0 38 [some (.ref 35), none, some (.int (nI i))] [] H2) ?_ ?_
    · exact nones H1 kk kn kr ki kl g (fun i' hi' => absurd hi' (by omega))
    · intro H2 kk2 kn2 kr2 ki2 kl2 g2 g3
      refine wX7_addMan_38 ⟨fun _ => ⟨by rw [kk2]; exact (shRe Sa).1, k1 z _ ?_ ?_ ?_ (fun a j q => ?_) ?_ ?_ (fun a j q => ?_) ⟨g2, g3⟩⟩, fun z => absurd (by decide) z⟩
      · rw [zK_sI, kk2]; exact A1.1
      · rw [zN_sI, kn2]; exact A1.2.1
      · rw [zR_sI, kr2]; exact A1.2.2.1
      · rw [zI_sIn (by omega), ki2, A2 a j (by omega)]
      · rw [zI_sIa (by decide), ki2, A3]
      · rw [zI_sIs, ki2, A2 _ _ (by omega), c4, nI_1]
      · rw [zL_sI', kl2 a j q, A1.2.2.2]
    · intro i hi ih H2 kk2 kn2 kr2 ki2 kl2 g2 g3
      have S2 : Sh H2 np nm nh := Sa.same kk2 kn2 kr2
      obtain ⟨rR2, rK2, rN2⟩ := shCost S2 (q := n) (by omega)
      have ei := nI_clamp (n := Sc + i) (by omega)
      have vi : vp_in (nI (Sc + i)) 21 := vp_in_nI (by omega) (by omega)
      refine wX7_addMan_38 ⟨fun z => absurd z (cnt_le (n := 9) (by omega) hi), fun _ => ?_⟩
      simp only [shRe S2, shPa S2, ki2, A2 35 4 (by omega), A2 35 2 (by omega), c4, c2, en, vn, rR2, nI_add, ei, nI_1, ne_eq]
      refine ⟨trivial, by decide, trivial, by decide, trivial, trivial, by omega, s_X7_weigh (R := 20000) (s := 12) (by omega) z (by omega) (fun v ev => ⟨rK2, by rw [rN2]; exact vi, ih _ kk2 kn2 kr2 ki2 (fun a j q => by rw [zL_sLn (by omega)]; exact kl2 a j q) (fun c' hc' => by rw [zL_sLn (by omega)]; exact g2 c' hc') (fun i' hi' => ?_)⟩)⟩
      by_cases e : i' = i
      · subst e; rw [zL_sLs, ev]; rfl
      · rw [zL_sLn (by omega)]; exact g3 i' (by omega)
  · intro c hc ih H1 kk kn kr ki kl g
    have S1 : Sh H1 np nm nh := Sa.same kk kn kr
    obtain ⟨rR2, rK2, rN2⟩ := shCost S1 (q := n) (by omega)
    have ec := nI_clamp (n := c) (by omega)
    have vc : vp_in (nI c) 21 := vp_in_nI (by omega) (by omega)
    refine wX2_bar_2 ⟨fun z => absurd z (cnt_le (by omega) hc), fun _ => ?_⟩
    simp only [shPa S1, en, vn, rR2, rK2, rN2, ec, vc, nI_1, ne_eq]
    refine ⟨trivial, by decide, trivial, trivial, by omega, trivial, trivial, ih _ kk kn kr ki (fun a j q => by rw [zL_sLn (by omega)]; exact kl a j q) (fun c' hc' => ?_)⟩
    by_cases e : c' = c
    · subst e; rw [zL_sLs]; decide
    · rw [zL_sLn (by omega)]; exact g c' (by omega)
/-! a man's way to a slot, and whether he may have it -/
def twN (h : ZH) (m : Nat) : Nat := nv (zI h 214 m)
def wyJ (h : ZH) (sl : SLt) (ml : Nat → Nat) (j s : Nat) : Nat := nv (wyN h (twN h (ml j)) (sl.2.1 s))
def neN (h : ZH) : Nat := nv (zI h 219 1)
def frJ (h : ZH) (sl : SLt) (ml : Nat → Nat) (j s : Nat) : Bool := decide (neN h < wyJ h sl ml j s)
def alJ (h : ZH) (sl : SLt) (ml : Nat → Nat) (j s : Nat) : Bool := decide (zI h 212 (ml j) = nI (sl.2.2 s) ∧ (¬ neN h < wyJ h sl ml j s ∨ ¬ truM h 1 (ml j)))
def vJ (h : ZH) (sl : SLt) (ml : Nat → Nat) (j s : Nat) : Int := if alJ h sl ml j s = true then ((rkW (wyJ h sl ml) (frJ h sl ml) j s * 10604499373 + s * 13 ^ (8 - j) : Nat) : Int) else BAR
/-- the number NEAR -/
def NEk (h : ZH) : Prop := zI h 23 1 = nI (neN h) ∧ zI h 219 1 = nI (neN h) ∧ neN h ≤ 200
theorem NEk.of {i nw ns mo : Nat} (J : Jn h i np nm nh nw ns mo) : NEk h := by
  obtain ⟨S, C, T, P, M, St, G, R, W, V, X⟩ := J
  have s1 := St 1 (by omega)
  have := nv_st (lo := sLo 1) (hi := sHi 1) (a := 0) (b := 200) (by decide) (by decide) s1.2.1 s1.2.2.1
  exact ⟨by rw [s1.1]; exact this.1, this.1, this.2.2⟩
theorem wyN_bd {t p : Nat} (T : JT h) (P : JP h np) (ht : t < 6) (hp : p < np) : wyN h t p = nI (nv (wyN h t p)) ∧ nv (wyN h t p) ≤ 198 := by
  have t1 := T t ht
  have p1 := P.1 p hp
  have a := far1_rg t1.2.2.1 p1.2.2.2.2.2.2.2.2.1
  have b := far1_rg t1.2.2.2 p1.2.2.2.2.2.2.2.2.2.1
  have h1 := a.1; have h2 := a.2; have h3 := b.1; have h4 := b.2
  have e : (wyN h t p).toInt = (far1 (zI h 201 t - zI h 203 p)).toInt + (far1 (zI h 202 t - zI h 204 p)).toInt := by
    unfold wyN
    exact tI_add (by omega) (by omega)
  exact nv_of (c := 198) (b := 198) (by decide) ⟨by omega, by omega⟩
theorem twN_of {m : Nat} (k : LV h np nm nh) (hm : m < nm) : twN h m < 6 ∧ zI h 214 m = nI (twN h m) := by
  obtain ⟨t, ht, e, _⟩ := k.man hm
  have : twN h m = t := by unfold twN nv; rw [e, nI_clamp (by omega)]
  rw [this]
  exact ⟨ht, e⟩
set_option maxHeartbeats 2000000 in
theorem s_X10_offer {ψ : ZH → Prop} {H : ZH} {sl : SLt} {ml : Nat → Nat} {j : Nat} {pit : Nat} (k : LV h np nm nh) (ne : NEk h) (e : zsame h H) (C : SCl H sl) (I : slI h np pit sl) (hj : j < 9) (hm : ml j < nm) (R : rowV H sl.1 j (fun _ => BAR))
    (q : ∀ H1, zsame h H1 → (∀ a i, ¬ (33 ≤ a ∧ a ≤ 34) → zI H1 a i = zI H a i) → (∀ a i, a ≠ 50 + j → zL H1 a i = zL H a i) → rowV H1 sl.1 j (vJ h sl ml j) → ψ H1) : ZcV mX10_offerSlots [.ref 10, .int (nI j), .ref (400 + ml j)] H ψ := by
  have kH := k.same e
  refine wX10_offerSlots ⟨(shX kH.1).1, s_X10_isTrue (r := 1) kH hm (by omega) (fun H0 sc => ?_)⟩
  have e0 := e.trans sc.same
  obtain ⟨tw6, etw⟩ := twN_of k hm
  have T := k.2.2.2.2.1
  have P := k.2.2.2.2.2.1
  have M := k.2.2.2.2.2.2.1 (ml j) hm
  have tru : truM H 1 (ml j) ↔ truM h 1 (ml j) := truM_same e
  have main := down (n := sl.1) (I := fun s => ∀ H1, zK H1 = zK H0 → zN H1 = zN H0 → zR H1 = zR H0 → zI H1 = zI H0 → (∀ a i, a ≠ 50 + j → zL H1 a i = zL H a i) → (∀ c, c < s → (zL H1 (50 + j) c).toInt = vJ h sl ml j c) → (∀ c, s ≤ c → c < sl.1 → (zL H1 (50 + j) c).toInt = BAR) → (∀ i, i < 9 → (zL H1 (50 + j) (sl.1 + i)).toInt = NVj j) → Zt mX10_offerSlots (zPV ψ) 0 0 10 [some (.ref 10), some (.int (nI j)), some (.ref (400 + ml j)), some (.int (zb (truM H 1 (ml j)))), some (.int (nI s)), none, none] [] H1) ?_ ?_
  · exact main H0 rfl rfl rfl rfl (fun a i _ => by rw [sc.2.2.2.1]) (fun c hc => absurd hc (by omega)) (fun c _ hc => by rw [sc.2.2.2.1]; exact R.1 c hc) (fun i hi => by rw [sc.2.2.2.1]; exact R.2 i hi)
  · intro H1 kk kn kr ki kl g1 g2 g3
    have S1 : Sh H1 np nm nh := (e0.Sh k.1).same kk kn kr
    have z1 : zsame h H1 := e0.trans ⟨kk, kn, kr, fun a i _ => by rw [ki]⟩
    have c2 : zI H1 35 2 = nI sl.1 := by rw [ki, sc.2.2.2.2 _ _ (by omega)]; exact C.1
    refine wX10_offerSlots_10 ?_
    simp only [shX S1, shRe S1, c2, ne_eq]
    exact ⟨trivial, by decide, trivial, fun _ => q H1 z1 (fun a i w => by rw [ki]; exact sc.2.2.2.2 a i w) kl ⟨g1, g3⟩, fun z => absurd (Int32.le_refl _) z⟩
  · intro s hs ih H1 kk kn kr ki kl g1 g2 g3
    have z1 : zsame h H1 := e0.trans ⟨kk, kn, kr, fun a i _ => by rw [ki]⟩
    have k1 := k.same z1
    have S1 := k1.1
    have h12 := C.2.1
    have E0 : ∀ a i, ¬ (33 ≤ a ∧ a ≤ 34) → zI H1 a i = zI H a i := fun a i w => by rw [ki]; exact sc.2.2.2.2 a i w
    have c2 : zI H1 35 2 = nI sl.1 := by rw [E0 _ _ (by omega)]; exact C.1
    have c36 : zI H1 36 s = nI (sl.2.1 s) := by rw [E0 _ _ (by omega)]; exact (C.2.2 s hs).1
    have c37 : zI H1 37 s = nI (sl.2.2 s) := by rw [E0 _ _ (by omega)]; exact (C.2.2 s hs).2
    have m1 : zI H1 (400 + ml j) 1 = zI h 212 (ml j) := by rw [z1.2.2.2 _ _ (by unfold scr; omega)]; exact M.2.1
    have cn : zI H1 23 1 = nI (neN h) := by rw [z1.2.2.2 _ _ (by unfold scr; omega)]; exact ne.1
    have es := nI_clamp (n := s) (by omega)
    have vs : vp_in (nI s) 12 := vp_in_nI (by omega) (by omega)
    have vs21 : vp_in (nI s) 21 := vp_in_nI (by omega) (by omega)
    have ej := nI_clamp (n := j) (by omega)
    have vj : vp_in (nI j) 9 := vp_in_nI (by omega) (by omega)
    obtain ⟨i1, i2, i3, i4⟩ := I s hs
    obtain ⟨w1, w2⟩ := wyN_bd T P tw6 i1
    have nle := ne.2.2
    have wyE : wyN H1 (twN h (ml j)) (sl.2.1 s) = nI (wyJ h sl ml j s) := by rw [wyN_same z1]; exact w1
    have wyb : wyJ h sl ml j s ≤ 198 := w2
    have et1 : zI H1 214 (ml j) = nI (twN h (ml j)) := by rw [z1.2.2.2 _ _ (by unfold scr; omega)]; exact etw
    have leq : (nI (wyJ h sl ml j s) ≤ nI (neN h)) ↔ ¬ neN h < wyJ h sl ml j s := by rw [tI_le, nI_toInt (by omega), nI_toInt (by omega)]; omega
    obtain ⟨rR, rK, rN⟩ := shCost S1 (q := j) hj
    -- the row stays, or takes a cost
    have stay : alJ h sl ml j s = false → Zt mX10_offerSlots (zPV ψ) 0 0 10 [some (.ref 10), some (.int (nI j)), some (.ref (400 + ml j)), some (.int (zb (truM H 1 (ml j)))), some (.int (nI (s + 1))), none, none] [] H1 := fun w => by
      refine ih H1 kk kn kr ki kl (fun c hc => ?_) (fun c h1 h2 => g2 c (by omega) h2) g3
      by_cases ec : c = s
      · subst ec
        rw [g2 c (Nat.le_refl _) hs]
        unfold vJ
        rw [if_neg (by rw [w]; exact fun z => by cases z)]
      · exact g1 c (by omega)
    have take : ∀ v : Int64, v.toInt = vJ h sl ml j s → Zt mX10_offerSlots (zPV ψ) 0 0 10 [some (.ref 10), some (.int (nI j)), some (.ref (400 + ml j)), some (.int (zb (truM H 1 (ml j)))), some (.int (nI (s + 1))), none, none] [] (zsL H1 (50 + j) s v) := fun v ev => by
      refine ih _ kk kn kr ki (fun a i w => by rw [zL_sLn (by omega)]; exact kl a i w) (fun c hc => ?_) (fun c h1 h2 => by rw [zL_sLn (by omega)]; exact g2 c (by omega) h2) (fun i hi => by rw [zL_sLn (by omega)]; exact g3 i hi)
      by_cases ec : c = s
      · subst ec; rw [zL_sLs]; exact ev
      · rw [zL_sLn (by omega)]; exact g1 c (by omega)
    refine wX10_offerSlots_10 ?_
    simp only [shX S1, shRe S1, shMan S1 hm, c2, c36, c37, m1, es, vs, nI_1, ne_eq]
    refine ⟨trivial, by decide, trivial, Bf (cnt_le (by omega) hs) ⟨by decide, trivial, trivial, trivial, fun z => stay ?_, fun z => ⟨by decide, trivial, trivial, s_X10_wayTo k1 hm tw6 et1 i1 ?_⟩⟩⟩
    · unfold alJ
      rw [decide_eq_false_iff_not]
      exact fun w => z w.1.symm
    · rw [wyE]
      simp only [shX S1, cn, leq, ne_eq]
      refine ⟨trivial, by decide, trivial, by decide, fun w => ⟨by decide, (shRe S1).1, wX7_offer ?_⟩, fun w => ⟨fun y => stay ?_, fun y => ⟨by decide, (shRe S1).1, wX7_offer ?_⟩⟩⟩
      · have ea : alJ h sl ml j s = true := by unfold alJ; rw [decide_eq_true_iff]; exact ⟨z.symm, Or.inl w⟩
        have ef : frJ h sl ml j s = false := by unfold frJ; rw [decide_eq_false_iff_not]; exact w
        simp only [shRe S1, shPa S1, ej, vj, rR, es, ne_eq]
        refine ⟨trivial, by decide, trivial, by decide, trivial, trivial, by omega, Bt trivial (s_X7_weigh (R := wyJ h sl ml j s) (by omega) hj (by omega) (fun v ev => ⟨rK, by rw [rN]; exact vs21, take v ?_⟩))⟩
        rw [ev]
        unfold vJ rkW
        rw [if_pos ea, ef, if_neg (by decide), Nat.add_zero]
      · have ht : truM H 1 (ml j) := Classical.not_not.mp (fun x => y (zb_f x))
        unfold alJ
        rw [decide_eq_false_iff_not]
        rintro ⟨_, x | x⟩
        · exact w x
        · exact x (tru.mp ht)
      · have ht : ¬ truM H 1 (ml j) := zb_eq0.mp y
        have ea : alJ h sl ml j s = true := by unfold alJ; rw [decide_eq_true_iff]; exact ⟨z.symm, Or.inr (fun x => ht (tru.mpr x))⟩
        have ef : frJ h sl ml j s = true := by unfold frJ; rw [decide_eq_true_iff]; exact Classical.not_not.mp w
        have e2 : nI (wyJ h sl ml j s) + 2000 = nI (wyJ h sl ml j s + 2000) := by rw [show (2000 : Int32) = nI 2000 from rfl, nI_add]
        simp only [shRe S1, shPa S1, ej, vj, rR, es, e2, ne_eq]
        refine ⟨trivial, by decide, trivial, by decide, trivial, trivial, by omega, Z1 (s_X7_weigh (R := wyJ h sl ml j s + 2000) (by omega) hj (by omega) (fun v ev => ⟨rK, by rw [rN]; exact vs21, take v ?_⟩))⟩
        rw [ev]
        unfold vJ rkW
        rw [if_pos ea, ef, if_pos rfl]
end OFFER
