def wonP (h : ZH) (np : Nat) (π : Nat → Nat) (k : Nat) : Nat := sumN (fun p => if oN h p ∧ (p < k → spN h ≤ π p) then tN h p else 0) np
abbrev mcl (h : ZH) (np : Nat) (π : Nat → Nat) (k : Nat) : Prop := ¬ (oN h k ∧ π k < spN h) ∨ (cnt h π (π k) k < onN h ∧ owN h ≤ wonP h np π (k + 1))
theorem cnt_congr {h : ZH} {π π' : Nat → Nat} {y n : Nat} (e : ∀ p, p < n → π p = π' p) : cnt h π y n = cnt h π' y n := sumN_congr (fun p hp => by rw [e p hp])
theorem cnt_step {h : ZH} {π : Nat → Nat} {y n : Nat} : cnt h π y (n + 1) = cnt h π y n + if oN h n ∧ π n = y then 1 else 0 := rfl
theorem cnt_mono {h : ZH} {π : Nat → Nat} {y k : Nat} : ∀ {n : Nat}, k ≤ n → cnt h π y k ≤ cnt h π y n
  | 0, e => by rw [show k = 0 by omega]; exact Nat.le_refl _
  | n + 1, e => by
    by_cases q : k = n + 1
    · rw [q]; exact Nat.le_refl _
    · have := cnt_mono (h := h) (π := π) (y := y) (n := n) (k := k) (by omega)
      rw [cnt_step]; omega
theorem cnt_bd {h : ZH} {π : Nat → Nat} {y : Nat} : ∀ {n : Nat}, cnt h π y n ≤ n
  | 0 => Nat.le_refl _
  | n + 1 => by
    have := cnt_bd (h := h) (π := π) (y := y) (n := n)
    rw [cnt_step]
    by_cases c : oN h n ∧ π n = y
    · rw [if_pos c]; omega
    · rw [if_neg c]; omega
theorem wonP_congr {h : ZH} {np : Nat} {π π' : Nat → Nat} {k : Nat} (e : ∀ p, p < k → π p = π' p) : wonP h np π k = wonP h np π' k := sumN_congr (fun p _ => by
  have : (p < k → spN h ≤ π p) ↔ (p < k → spN h ≤ π' p) := ⟨fun q x => by rw [← e p x]; exact q x, fun q x => by rw [e p x]; exact q x⟩
  simp only [this])
theorem mcl_congr {h : ZH} {np : Nat} {π π' : Nat → Nat} {k : Nat} (e : ∀ p, p < k + 1 → π p = π' p) : mcl h np π k ↔ mcl h np π' k := by
  unfold mcl
  rw [e k (by omega), cnt_congr (fun p hp => e p (by omega)), wonP_congr e]
theorem wonP_anti {h : ZH} {np : Nat} {π : Nat → Nat} {k j : Nat} (q : k ≤ j) : wonP h np π j ≤ wonP h np π k := sumN_le (fun p _ => by
  by_cases c : oN h p ∧ (p < j → spN h ≤ π p)
  · rw [if_pos c, if_pos (show oN h p ∧ (p < k → spN h ≤ π p) from ⟨c.1, fun x => c.2 (by omega)⟩)]; exact Nat.le_refl _
  · rw [if_neg c]; exact Nat.zero_le _)
theorem wonP_gen {h : ZH} {π : Nat → Nat} {k : Nat} : ∀ {n : Nat}, sumN (fun p => if oN h p ∧ (p < k → spN h ≤ π p) then tN h p else 0) n = sumN (fun p => if oN h p ∧ (p < k + 1 → spN h ≤ π p) then tN h p else 0) n + if k < n ∧ oN h k ∧ π k < spN h then tN h k else 0
  | 0 => by unfold sumN; rw [if_neg (fun q => absurd q.1 (by omega))]
  | n + 1 => by
    have ih := wonP_gen (h := h) (π := π) (k := k) (n := n)
    show sumN (fun p => if oN h p ∧ (p < k → spN h ≤ π p) then tN h p else 0) n + (if oN h n ∧ (n < k → spN h ≤ π n) then tN h n else 0) = (sumN (fun p => if oN h p ∧ (p < k + 1 → spN h ≤ π p) then tN h p else 0) n + (if oN h n ∧ (n < k + 1 → spN h ≤ π n) then tN h n else 0)) + _
    rw [ih]
    by_cases c : k = n
    · subst c
      rw [if_neg (show ¬ (k < k ∧ oN h k ∧ π k < spN h) from fun q => absurd q.1 (by omega))]
      by_cases o : oN h k
      · rw [if_pos (show oN h k ∧ (k < k → spN h ≤ π k) from ⟨o, fun x => absurd x (by omega)⟩)]
        by_cases s : π k < spN h
        · rw [if_neg (show ¬ (oN h k ∧ (k < k + 1 → spN h ≤ π k)) from fun q => absurd (q.2 (by omega)) (by omega)), if_pos ⟨by omega, o, s⟩]
        · rw [if_pos (show oN h k ∧ (k < k + 1 → spN h ≤ π k) from ⟨o, fun _ => by omega⟩), if_neg (fun q => s q.2.2), Nat.add_zero]; omega
      · rw [if_neg (show ¬ (oN h k ∧ (k < k → spN h ≤ π k)) from fun q => o q.1), if_neg (show ¬ (oN h k ∧ (k < k + 1 → spN h ≤ π k)) from fun q => o q.1), if_neg (fun q => o q.2.1)]
    · have e1 : (oN h n ∧ (n < k → spN h ≤ π n)) ↔ (oN h n ∧ (n < k + 1 → spN h ≤ π n)) := ⟨fun q => ⟨q.1, fun x => q.2 (by omega)⟩, fun q => ⟨q.1, fun x => q.2 (by omega)⟩⟩
      have e2 : (k < n ∧ oN h k ∧ π k < spN h) ↔ (k < n + 1 ∧ oN h k ∧ π k < spN h) := ⟨fun q => ⟨by omega, q.2⟩, fun q => ⟨by omega, q.2⟩⟩
      simp only [e1, e2]
      omega
theorem wonP_step {h : ZH} {np : Nat} {π : Nat → Nat} {k : Nat} (hk : k < np) : wonP h np π k = wonP h np π (k + 1) + if oN h k ∧ π k < spN h then tN h k else 0 := by
  unfold wonP
  rw [wonP_gen]
  by_cases c : oN h k ∧ π k < spN h
  · rw [if_pos c, if_pos ⟨hk, c⟩]
  · rw [if_neg c, if_neg (fun q => c q.2)]
theorem wonP_all {h : ZH} {np : Nat} {π : Nat → Nat} (s1 : 1 ≤ spN h) : wonP h np π np = won h π (spN h - 1) np := sumN_congr (fun p hp => by
  have : (oN h p ∧ (p < np → spN h ≤ π p)) ↔ (oN h p ∧ spN h - 1 < π p) := ⟨fun q => ⟨q.1, by have := q.2 hp; omega⟩, fun q => ⟨q.1, fun _ => by have := q.2; omega⟩⟩
  simp only [this])
theorem won_anti {h : ZH} {π : Nat → Nat} {y z n : Nat} (q : y ≤ z) : won h π z n ≤ won h π y n := sumN_le (fun p _ => by
  by_cases c : oN h p ∧ z < π p
  · rw [if_pos c, if_pos (show oN h p ∧ y < π p from ⟨c.1, by omega⟩)]; exact Nat.le_refl _
  · rw [if_neg c]; exact Nat.zero_le _)
theorem kept_iff {h : ZH} {np nm nh : Nat} {π : Nat → Nat} (Q : PQ h np nm nh) : kept h np π ↔ (∀ k, k < np → mcl h np π k) ∧ owN h ≤ wonP h np π np := by
  have s1 := Q.2.2.2.2.2.2.1.2.1
  constructor
  · intro K
    have fin : owN h ≤ wonP h np π np := by rw [wonP_all s1]; exact (K (spN h - 1) (by omega)).1
    refine ⟨fun k hk => ?_, fin⟩
    by_cases c : oN h k ∧ π k < spN h
    · right
      have h1 := (K (π k) c.2).2
      have h2 := cnt_mono (h := h) (π := π) (y := π k) (k := k + 1) (n := np) hk
      rw [cnt_step, if_pos ⟨c.1, rfl⟩] at h2
      exact ⟨by omega, Nat.le_trans fin (wonP_anti hk)⟩
    · exact Or.inl c
  · rintro ⟨K, fin⟩ y hy
    rw [wonP_all s1] at fin
    refine ⟨Nat.le_trans fin (won_anti (by omega)), ?_⟩
    have : ∀ k, k ≤ np → cnt h π y k ≤ onN h := by
      intro k
      induction k with
      | zero => intro _; exact Nat.zero_le _
      | succ k ih =>
        intro hk
        rw [cnt_step]
        by_cases c : oN h k ∧ π k = y
        · rw [if_pos c]
          rcases K k hk with q | q
          · exact absurd ⟨c.1, by rw [c.2]; exact hy⟩ q
          · have := q.1
            rw [c.2] at this
            omega
        · rw [if_neg c]; exact ih (by omega)
    exact this np (Nat.le_refl _)
section KEPT
variable {h : ZH} {np nm nh : Nat}
/-- the years laid, of the first n pits -/
def PY (H : ZH) (π : Nat → Nat) (n : Nat) : Prop := ∀ p, p < n → zI H 87 p = nI (π p)
theorem s_X6_costByRow {ψ : Int32 → ZH → Prop} {H : ZH} {π : Nat → Nat} {r : Nat} (Q : PQ h np nm nh) (P : PT h H np) (Y : PY H π np) (h5 : ∀ p, p < np → π p ≤ 5) (hr : r < 3) (k : ψ (nI (tot h np π r)) H) : ZcI mX6_costByRow [.ref 80, .int (nI r)] H ψ := by
  have S := P.1.Sh Q.1
  have h8 := Q.2.1
  refine wX6_costByRow (down (I := fun n => Zt mX6_costByRow (zPI ψ) 0 0 4 [some (.ref 80), some (.int (nI r)), some (.int (nI (tot h n π r))), some (.int (nI n))] [] H) (n := np) ?_ (fun p hp q => ?_))
  · exact wX6_costByRow_4 ⟨(shPl S).1, fun _ => k, fun z => absurd (by rw [P.2.1]; exact Int32.le_refl _) z⟩
  · have e1 := nI_clamp (n := p) (by omega)
    have v1 : vp_in (nI p) 8 := vp_in_nI (by omega) (by omega)
    have e2 := nI_clamp (n := r) (by omega)
    have v2 : vp_in (nI r) 3 := vp_in_nI (by omega) (by omega)
    have hπ := h5 p hp
    have b6 : nI p * 6 + nI (π p) = nI (6 * p + π p) := by rw [show (6 : Int32) = nI 6 from rfl, nI_mul, nI_add, Nat.mul_comm]
    have e6 := nI_clamp (n := 6 * p + π p) (by omega)
    have v6 : vp_in (nI (6 * p + π p)) 48 := vp_in_nI (by omega) (by omega)
    have cc := (P.2.2.2.2.2 p hp).2.2 (π p) r (by omega) hr
    refine wX6_costByRow_4 ?_
    simp only [shPl S, shRow84 S (j := 6 * p + π p) (by omega), P.2.1, e1, e2, v1, v2, Y p hp, b6, e6, v6, cc, ne_eq, nI_1, nI_add]
    refine ⟨trivial, Bf (cnt_le (by omega) hp) ⟨by decide, by decide, trivial, trivial, trivial, trivial, by omega, trivial, trivial, fun v ev => ?_⟩⟩
    rw [ev]
    exact q
theorem s_X6_worstRow {ψ : Int32 → ZH → Prop} {H : ZH} {π : Nat → Nat} (Q : PQ h np nm nh) (P : PT h H np) (Y : PY H π np) (h5 : ∀ p, p < np → π p ≤ 5) (k : ψ (nI (wrw h np π)) H) : ZcI mX6_worstRow [.ref 80] H ψ := by
  have S := P.1.Sh Q.1
  have h8 := Q.2.1
  have bd : ∀ r, tot h np π r < 2 ^ 31 := fun r => by
    have := tot_bd (r := r) (π := π) Q (Nat.le_refl np)
    have : np * 1000000 ≤ 8 * 1000000 := Nat.mul_le_mul_right _ h8
    omega
  have le : ∀ r s, (nI (tot h np π r) ≤ nI (tot h np π s)) ↔ ¬ tot h np π s < tot h np π r := fun r s => by
    rw [tI_le, nI_toInt (bd r), nI_toInt (bd s)]; omega
  refine wX6_worstRow (wX6_worstRow_4 ⟨fun z => absurd z (by decide), fun _ => ⟨(shPl S).1, s_X6_costByRow (r := 1) Q P Y h5 (by omega) ⟨(shPl S).1, s_X6_costByRow (r := 0) Q P Y h5 (by omega) ?_⟩⟩⟩)
  have fin : ∀ w, w < 3 → w = (if tot h np π 0 < tot h np π 1 then 1 else 0) → Zt mX6_worstRow (zPI ψ) 0 0 4 [some (.ref 80), some (.int (nI w)), some (.int (1 + 1))] [] H := fun w hw ew => by
    refine wX6_worstRow_4 ⟨fun z => absurd z (by decide), fun _ => ⟨(shPl S).1, s_X6_costByRow (r := 2) Q P Y h5 (by omega) ⟨(shPl S).1, s_X6_costByRow (r := w) Q P Y h5 hw ?_⟩⟩⟩
    unfold wrw at k
    rw [← ew] at k
    rw [le]
    refine ⟨fun z => ?_, fun z => ?_⟩
    · rw [if_neg z] at k
      exact wX6_worstRow_4 ⟨fun _ => k, fun z => absurd (by decide) z⟩
    · rw [if_pos (Classical.not_not.mp z)] at k
      exact wX6_worstRow_4 ⟨fun _ => k, fun z => absurd (by decide) z⟩
  rw [le]
  refine ⟨fun z => fin 0 (by omega) (by rw [if_neg z]), fun z => fin 1 (by omega) (by rw [if_pos (Classical.not_not.mp z)])⟩
/-- only the closings have changed -/
def FC (H H1 : ZH) : Prop := zK H1 = zK H ∧ zN H1 = zN H ∧ zR H1 = zR H ∧ ∀ a j, ¬ (a = 88 ∨ (a = 80 ∧ j = 12)) → zI H1 a j = zI H a j
theorem FC.rfl' {H : ZH} : FC H H := ⟨rfl, rfl, rfl, fun _ _ _ => rfl⟩
theorem FC.trans {a b c : ZH} (k : FC a b) (q : FC b c) : FC a c := ⟨q.1.trans k.1, q.2.1.trans k.2.1, q.2.2.1.trans k.2.2.1, fun x j z => (q.2.2.2 x j z).trans (k.2.2.2 x j z)⟩
theorem FC.same {H H1 : ZH} (k : FC H H1) : zsame H H1 := ⟨k.1, k.2.1, k.2.2.1, fun a j z => k.2.2.2 a j (fun e => z (by unfold scr; omega))⟩
theorem FC.sI {H : ZH} {a j : Nat} {v : Int32} (q : a = 88 ∨ (a = 80 ∧ j = 12)) : FC H (zsI H a j v) := ⟨rfl, rfl, rfl, fun b i z => zI_sIn (fun x => z (by rw [x.1, x.2]; exact q))⟩
theorem FC.PT {H H1 : ZH} (k : FC H H1) (P : PT h H np) (hn : np ≤ 8) : PT h H1 np := by
  obtain ⟨p1, p2, p3, p4, p5, p6⟩ := P
  have E := k.2.2.2
  refine ⟨p1.trans k.same, by rw [E _ _ (by omega)]; exact p2, by rw [E _ _ (by omega)]; exact p3, by rw [E _ _ (by omega)]; exact p4, by rw [E _ _ (by omega)]; exact p5, fun p hp => ?_⟩
  obtain ⟨q1, q2, q3⟩ := p6 p hp
  refine ⟨by rw [E _ _ (by omega)]; exact q1, by rw [E _ _ (by omega)]; exact q2, fun d r hd hr => by rw [E _ _ (by omega)]; exact q3 d r hd hr⟩
theorem FC.PY {H H1 : ZH} {π : Nat → Nat} {n : Nat} (k : FC H H1) (Y : PY H π n) : PY H1 π n := fun p hp => by rw [k.2.2.2 _ _ (by omega)]; exact Y p hp
/-- the closings as the first k pits of a plan make them -/
def CL (h H : ZH) (np : Nat) (π : Nat → Nat) (k : Nat) : Prop := (∀ y, y < 6 → zI H 88 y = nI (if y < spN h then cnt h π y k else 0)) ∧ zI H 80 12 = nI (wonP h np π k)
theorem CL.congr {H : ZH} {π π' : Nat → Nat} {k : Nat} (c : CL h H np π k) (e : ∀ p, p < k → π p = π' p) : CL h H np π' k := ⟨fun y hy => by rw [c.1 y hy, cnt_congr e], by rw [c.2, wonP_congr e]⟩
set_option maxHeartbeats 1000000 in
theorem s_X6_start {ψ : ZH → Prop} {H : ZH} {π : Nat → Nat} (Q : PQ h np nm nh) (P : PT h H np) (k : ∀ H1, FC H H1 → CL h H1 np π 0 → ψ H1) : ZcV mX6_startClosings [.ref 80] H ψ := by
  have S := P.1.Sh Q.1
  have h8 := Q.2.1
  have w0 : wonP h np π 0 = sumN (fun p => if oN h p then tN h p else 0) np := sumN_congr (fun p _ => by
    have : (oN h p ∧ (p < 0 → spN h ≤ π p)) ↔ oN h p := ⟨fun q => q.1, fun q => ⟨q, fun x => absurd x (by omega)⟩⟩
    simp only [this])
  refine wX6_startClosings ⟨(shPl S).1, ?_⟩
  have m1 := down (n := np) (I := fun p => ∀ H1, FC H H1 → zI H1 80 12 = nI (sumN (fun p => if oN h p then tN h p else 0) p) → Zt mX6_startClosings (zPV ψ) 0 0 7 [some (.ref 80), some (.int (nI p))] [] H1) ?_ ?_
  · exact m1 _ (FC.sI (Or.inr ⟨rfl, rfl⟩)) (by rw [zI_sIs]; rfl)
  · intro H1 F c
    have P1 := F.PT P h8
    refine wX6_startClosings_7 ⟨(shPl (P1.1.Sh Q.1)).1, fun _ => ?_, fun z => absurd (by rw [P1.2.1]; exact Int32.le_refl _) z⟩
    have m2 := down (n := 6) (I := fun t => ∀ H2, FC H H2 → zI H2 80 12 = nI (wonP h np π 0) → (∀ y, y < t → zI H2 88 y = 0) → Zt mX6_startClosings (zPV ψ) 0 0 51 [some (.ref 80), some (.int (nI t))] [] H2) ?_ ?_
    · exact m2 H1 F (by rw [w0]; exact c) (fun y hy => absurd hy (by omega))
    · intro H2 F2 c2 g
      refine wX6_startClosings_51 ⟨fun _ => k H2 F2 ⟨fun y hy => ?_, c2⟩, fun z => absurd (by decide) z⟩
      rw [g y hy]
      have : (if y < spN h then cnt h π y 0 else 0) = 0 := by
        by_cases q : y < spN h
        · rw [if_pos q]; rfl
        · rw [if_neg q]
      rw [this]; rfl
    · intro t ht ih H2 F2 c2 g
      have S2 := F2.same.Sh S
      have e1 := nI_clamp (n := t) (by omega)
      have v1 : vp_in (nI t) 6 := vp_in_nI (by omega) (by omega)
      refine wX6_startClosings_51 ⟨fun z => absurd z (cnt_le (n := 6) (by omega) ht), fun _ => ?_⟩
      simp only [shPl S2, e1, v1, ne_eq, nI_1]
      refine ⟨trivial, by decide, trivial, trivial, ih _ (F2.trans (FC.sI (Or.inl rfl))) (by rw [zI_sIa (by decide)]; exact c2) (fun y hy => ?_)⟩
      by_cases ey : y = t
      · subst ey; rw [zI_sIs]
      · rw [zI_sIj ey]; exact g y (by omega)
  · intro p hp ih H1 F c
    have P1 := F.PT P h8
    have S1 := P1.1.Sh Q.1
    have e1 := nI_clamp (n := p) (by omega)
    have v1 : vp_in (nI p) 8 := vp_in_nI (by omega) (by omega)
    have g := P1.2.2.2.2.2 p hp
    have qp := Q.2.2.2.1 p hp
    refine wX6_startClosings_7 ?_
    simp only [shPl S1, P1.2.1, e1, v1, g.1, g.2.1, c, qp.1.1, ne_eq, nI_1, nI_add, i_add0]
    have st : sumN (fun p => if oN h p then tN h p else 0) (p + 1) = sumN (fun p => if oN h p then tN h p else 0) p + if oN h p then tN h p else 0 := rfl
    refine ⟨trivial, Bf (cnt_le (by omega) hp) ⟨by decide, trivial, trivial, fun z => ?_, fun z => ⟨by decide, trivial, trivial, ?_⟩⟩⟩
    · refine ih _ (F.trans (FC.sI (Or.inr ⟨rfl, rfl⟩))) ?_
      rw [zI_sIs, st, if_neg (fun x => x z), Nat.add_zero]
    · refine ih _ (F.trans (FC.sI (Or.inr ⟨rfl, rfl⟩))) ?_
      rw [zI_sIs, st, if_pos z]
theorem s_X6_within {ψ : Int32 → ZH → Prop} {H : ZH} {p y : Nat} (Q : PQ h np nm nh) (P : PT h H np) (hp : p < np) (hy : y ≤ 5) (k : ψ (zb (oN h p ∧ y < spN h)) H) : ZcI mX6_closesWithin [.ref 80, .int (nI p), .int (nI y)] H ψ := by
  have S := P.1.Sh Q.1
  have h8 := Q.2.1
  have s5 := Q.2.2.2.2.2.2.1.2.2
  have e1 := nI_clamp (n := p) (by omega)
  have v1 : vp_in (nI p) 8 := vp_in_nI (by omega) (by omega)
  refine wX6_closesWithin ?_
  simp only [shPl S, e1, v1, (P.2.2.2.2.2 p hp).2.1, P.2.2.1, ne_eq]
  refine ⟨trivial, by decide, trivial, trivial, fun z => ?_, fun z => ⟨fun w => ?_, fun w => ?_⟩⟩
  · rw [zb_f (fun x => x.1 z)] at k; exact k
  · rw [zb_f (fun x => absurd w (cnt_le (by omega) x.2))] at k; exact k
  · rw [zb_t ⟨z, Classical.not_not.mp (fun x => w (nI_le (by omega) (by omega)))⟩] at k; exact k
theorem wonP_bd {π : Nat → Nat} {k : Nat} (Q : PQ h np nm nh) : wonP h np π k ≤ 8000 := by
  have := sumN_bd (f := fun p => if oN h p ∧ (p < k → spN h ≤ π p) then tN h p else 0) (b := 1000) (n := np) (fun p hp => by
    by_cases c : oN h p ∧ (p < k → spN h ≤ π p)
    · rw [if_pos c]; exact (Q.2.2.2.1 p hp).1.2
    · rw [if_neg c]; omega)
  have h8 := Q.2.1
  have : np * 1000 ≤ 8 * 1000 := Nat.mul_le_mul_right _ h8
  unfold wonP
  omega
set_option maxHeartbeats 1000000 in
theorem s_X6_may {ψ : Int32 → ZH → Prop} {H : ZH} {π : Nat → Nat} {p : Nat} (Q : PQ h np nm nh) (P : PT h H np) (C : CL h H np π p) (hp : p < np) (hy : π p ≤ 5) (k : ψ (zb (mcl h np π p)) H) : ZcI mX6_mayClose [.ref 80, .int (nI p), .int (nI (π p))] H ψ := by
  have S := P.1.Sh Q.1
  have h8 := Q.2.1
  have s5 := Q.2.2.2.2.2.2.1.2.2
  have e1 := nI_clamp (n := p) (by omega)
  have v1 : vp_in (nI p) 8 := vp_in_nI (by omega) (by omega)
  have e2 := nI_clamp (n := π p) (by omega)
  have v2 : vp_in (nI (π p)) 6 := vp_in_nI (by omega) (by omega)
  refine wX6_mayClose ⟨(shPl S).1, s_X6_within Q P hp hy (zb_if (fun c => ?_) (fun c => ?_))⟩
  · have c1 := C.1 (π p) (by omega)
    rw [if_pos c.2] at c1
    have c2 := C.2
    rw [wonP_step hp, if_pos c] at c2
    have c3 := (P.2.2.2.2.2 p hp).1
    rw [(Q.2.2.2.1 p hp).1.1] at c3
    have wb := wonP_bd (π := π) (k := p) Q
    rw [wonP_step hp, if_pos c] at wb
    have ow := Q.2.2.2.2.2.2.2.2.1.2
    have on := Q.2.2.2.2.2.2.2.2.2.2.2
    have cb := cnt_bd (h := h) (π := π) (y := π p) (n := p)
    have sub : nI (wonP h np π (p + 1) + tN h p) - nI (tN h p) = nI (wonP h np π (p + 1)) := by rw [← nI_add, Int32.add_sub_cancel]
    simp only [shPl S, e1, v1, e2, v2, c1, c2, c3, P.2.2.2.1, P.2.2.2.2.1, sub, ne_eq]
    refine ⟨trivial, by decide, trivial, trivial, fun z => ?_, fun z => ⟨by decide, trivial, trivial, fun w => ?_, fun w => ?_⟩⟩
    · rw [zb_f (fun x => x.elim (fun q => q c) (fun q => absurd z (cnt_le (by omega) q.1)))] at k; exact k
    · rw [zb_f (fun x => x.elim (fun q => q c) (fun q => by
        rw [tI_lt, nI_toInt (by omega), nI_toInt (by omega)] at w
        have := q.2
        omega))] at k
      exact k
    · have r1 : cnt h π (π p) p < onN h := Classical.not_not.mp (fun x => z (nI_le (by omega) (by omega)))
      have r2 : owN h ≤ wonP h np π (p + 1) := by
        rw [tI_lt, nI_toInt (by omega), nI_toInt (by omega)] at w
        omega
      rw [zb_t (Or.inr ⟨r1, r2⟩)] at k
      exact k
  · rw [zb_t (Or.inl c)] at k; exact k
theorem cl_next {H : ZH} {π : Nat → Nat} {p : Nat} (C : CL h H np π p) (hp : p < np) (c : ¬ (oN h p ∧ π p < spN h)) : CL h H np π (p + 1) := by
  refine ⟨fun y hy => ?_, by rw [C.2, wonP_step hp, if_neg c, Nat.add_zero]⟩
  rw [C.1 y hy]
  by_cases q : y < spN h
  · rw [if_pos q, if_pos q, cnt_step, if_neg (fun x => c ⟨x.1, by rw [x.2]; exact q⟩), Nat.add_zero]
  · rw [if_neg q, if_neg q]
set_option maxHeartbeats 1000000 in
theorem s_X6_closeFrom {ψ : ZH → Prop} {H : ZH} {π : Nat → Nat} {p : Nat} (Q : PQ h np nm nh) (P : PT h H np) (C : CL h H np π p) (hp : p < np) (hy : π p ≤ 5) (k : ∀ H1, FC H H1 → CL h H1 np π (p + 1) → ψ H1) : ZcV mX6_closeFrom [.ref 80, .int (nI p), .int (nI (π p))] H ψ := by
  have S := P.1.Sh Q.1
  have h8 := Q.2.1
  have s5 := Q.2.2.2.2.2.2.1.2.2
  have e1 := nI_clamp (n := p) (by omega)
  have v1 : vp_in (nI p) 8 := vp_in_nI (by omega) (by omega)
  have e2 := nI_clamp (n := π p) (by omega)
  have v2 : vp_in (nI (π p)) 6 := vp_in_nI (by omega) (by omega)
  refine wX6_closeFrom ⟨(shPl S).1, s_X6_within Q P hp hy (zb_if (fun c => ?_) (fun c => ?_))⟩
  · have c1 := C.1 (π p) (by omega)
    rw [if_pos c.2] at c1
    have c2 := C.2
    rw [wonP_step hp, if_pos c] at c2
    have c3 := (P.2.2.2.2.2 p hp).1
    rw [(Q.2.2.2.1 p hp).1.1] at c3
    have sub : nI (wonP h np π (p + 1) + tN h p) - nI (tN h p) = nI (wonP h np π (p + 1)) := by rw [← nI_add, Int32.add_sub_cancel]
    simp only [shPl S, e2, v2, c1, ne_eq, nI_1]
    refine ⟨trivial, by decide, trivial, trivial, fun a1 ea => ?_⟩
    have F1 : FC H a1 := by rw [ea]; exact FC.sI (Or.inl rfl)
    have g1 : ∀ y, y < 6 → zI a1 88 y = if y = π p then nI (cnt h π (π p) p + 1) else zI H 88 y := fun y _ => by
      rw [ea]
      by_cases ey : y = π p
      · subst ey; rw [zI_sIs, if_pos rfl]
      · rw [zI_sIj ey, if_neg ey]
    have g2 : zI a1 80 12 = zI H 80 12 := by rw [ea, zI_sIa (by decide)]
    have g3 : zI a1 82 p = zI H 82 p := by rw [ea, zI_sIa (by decide)]
    clear ea
    simp only [shPl (F1.same.Sh S), e1, v1, g2, g3, c2, c3, sub, ne_eq]
    refine ⟨trivial, by decide, trivial, trivial, k _ (F1.trans (FC.sI (Or.inr ⟨rfl, rfl⟩))) ⟨fun y hy6 => ?_, by rw [zI_sIs]⟩⟩
    rw [zI_sIa (by decide), g1 y hy6]
    by_cases ey : y = π p
    · subst ey
      rw [if_pos rfl, if_pos c.2, cnt_step, if_pos ⟨c.1, rfl⟩]
    · rw [if_neg ey, C.1 y hy6, cnt_step, if_neg (show ¬ (oN h p ∧ π p = y) from fun x => ey x.2.symm), Nat.add_zero]
  · exact k H FC.rfl' (cl_next C hp c)
theorem s_X6_isKept {ψ : Int32 → ZH → Prop} {H : ZH} {π : Nat → Nat} (Q : PQ h np nm nh) (P : PT h H np) (Y : PY H π np) (h5 : ∀ p, p < np → π p ≤ 5) (k : ∀ H1, FC H H1 → ψ (zb (kept h np π)) H1) : ZcI mX6_isKept [.ref 80] H ψ := by
  have S := P.1.Sh Q.1
  have h8 := Q.2.1
  refine wX6_isKept ⟨(shPl S).1, s_X6_start (π := π) Q P (fun H0 F0 C0 => ?_)⟩
  have main := down (n := np) (I := fun p => ∀ H1, FC H H1 → CL h H1 np π p → (∀ q, q < p → mcl h np π q) → Zt mX6_isKept (zPI ψ) 0 0 6 [some (.ref 80), some (.int (nI p))] [] H1) ?_ ?_
  · exact main H0 F0 C0 (fun q hq => absurd hq (by omega))
  · intro H1 F C m
    have P1 := F.PT P h8
    refine wX6_isKept_6 ⟨(shPl (P1.1.Sh Q.1)).1, fun _ => ?_, fun z => absurd (by rw [P1.2.1]; exact Int32.le_refl _) z⟩
    have wb := wonP_bd (π := π) (k := np) Q
    have ow := Q.2.2.2.2.2.2.2.2.1.2
    rw [C.2, P1.2.2.2.1, tI_lt, nI_toInt (by omega), nI_toInt (by omega)]
    have k1 := k H1 F
    refine ⟨fun z => ?_, fun z => ?_⟩
    · rw [zb_f (fun x => by have := ((kept_iff Q).mp x).2; omega)] at k1; exact k1
    · rw [zb_t ((kept_iff Q).mpr ⟨m, by omega⟩)] at k1; exact k1
  · intro p hp ih H1 F C m
    have P1 := F.PT P h8
    have S1 := P1.1.Sh Q.1
    have e1 := nI_clamp (n := p) (by omega)
    have v1 : vp_in (nI p) 8 := vp_in_nI (by omega) (by omega)
    have yp := F.PY Y p hp
    refine wX6_isKept_6 ?_
    simp only [shPl S1, P1.2.1, e1, v1, yp, ne_eq, nI_1]
    refine ⟨trivial, Bf (cnt_le (by omega) hp) ⟨by decide, trivial, trivial, s_X6_may Q P1 C hp (h5 p hp) ?_⟩⟩
    have b := zb_if (p := mcl h np π p) (A := (zK H1 80 = 7) ∧ ((zR H1 80 6) ≠ 0) ∧ (zK H1 (zR H1 80 6) = 20) ∧ (vp_in (nI p) (zN H1 (zR H1 80 6))) ∧ ZcV mX6_closeFrom [.ref 80, .int (nI p), .int (zI H1 (zR H1 80 6) p)] H1 (fun h11 => Zt mX6_isKept (zPI ψ) 0 0 6 [some (.ref 80), some (.int (nI (p + 1)))] [] h11)) (B := ψ 0 H1) (fun c => ?_) (fun c => ?_)
    · exact ⟨b.2, b.1⟩
    · simp only [shPl S1, v1, yp, ne_eq]
      refine ⟨trivial, by decide, trivial, trivial, s_X6_closeFrom Q P1 C hp (h5 p hp) (fun H2 F2 C2 => ih H2 (F.trans F2) C2 (fun q hq => ?_))⟩
      by_cases eq : q = p
      · subst eq; exact c
      · exact m q (by omega)
    · have k1 := k H1 F
      rw [zb_f (fun x => c (((kept_iff Q).mp x).1 p hp))] at k1
      exact k1
end KEPT
