section PMOD
variable {h : ZH} {np nm nh : Nat}
/-- the model's plan, of the first n pits -/
def MY (H : ZH) (π : Nat → Nat) (n : Nat) : Prop := ∀ p, p < n → zI H 246 p = nI (π p)
def mc (h : ZH) (π : Nat → Nat) (r y p : Nat) : Nat := if oN h p ∧ y < π p then wN h p r y else buN h
theorem mc_tot {π : Nat → Nat} {r : Nat} (hc : ∀ p, p < np → ¬ oN h p → π p = 0) : sumN (fun y => sumN (fun p => mc h π r y p) np) (spN h) = tot h np π r := by
  rw [sumN_swap]
  unfold tot cst
  refine sumN_congr (fun p hp => sumN_congr (fun y _ => ?_))
  unfold mc
  by_cases o : oN h p
  · have : (oN h p ∧ y < π p) ↔ y < π p := ⟨fun q => q.2, fun q => ⟨o, q⟩⟩
    simp only [this]
  · rw [if_neg (fun q => o q.1), if_neg (by rw [hc p hp o]; omega)]
set_option maxHeartbeats 2000000 in
theorem s_X11_costBy {ψ : Int32 → ZH → Prop} {H : ZH} {π : Nat → Nat} {r : Nat} (Q : PQ h np nm nh) (e : zsame h H) (Y : MY H π np) (h5 : ∀ p, p < np → π p ≤ 5) (hc : ∀ p, p < np → ¬ oN h p → π p = 0) (hr : r < 3) (k : ψ (nI (tot h np π r)) H) : ZcI mX11_costBy [.ref 200, .int (nI r)] H ψ := by
  have S := e.Sh Q.1
  have h8 := Q.2.1
  have sp := Q.2.2.2.2.2.2.1
  have E : ∀ a j, ¬ scr a j → zI H a j = zI h a j := e.2.2.2
  have cn : zI H 200 9 = nI np := by rw [E _ _ (by unfold scr; omega)]; exact Q.2.2.1.1
  have cs : zI H 219 5 = nI (spN h) := by rw [E _ _ (by unfold scr; omega)]; exact sp.1
  have cb : zI H 219 2 = nI (buN h) := by rw [E _ _ (by unfold scr; omega)]; exact Q.2.2.2.2.2.2.2.1.1
  rw [← mc_tot hc] at k
  refine wX11_costBy (down (I := fun y => Zt mX11_costBy (zPI ψ) 0 0 4 [some (.ref 200), some (.int (nI r)), some (.int (nI (sumN (fun y => sumN (fun p => mc h π r y p) np) y))), some (.int (nI y)), none, none, none] [] H) (n := spN h) ?_ (fun y hy q => ?_))
  · refine wX11_costBy_4 ?_
    simp only [shM S, cs, ne_eq]
    exact ⟨trivial, by decide, trivial, by decide, fun _ => k, fun z => absurd (Int32.le_refl _) z⟩
  · refine wX11_costBy_4 ?_
    simp only [shM S, cs, ne_eq]
    refine ⟨trivial, by decide, trivial, by decide, Bf (cnt_le (by omega) hy) ?_⟩
    refine down (I := fun p => Zt mX11_costBy (zPI ψ) 0 0 17 [some (.ref 200), some (.int (nI r)), some (.int (nI (sumN (fun y => sumN (fun p => mc h π r y p) np) y + sumN (fun p => mc h π r y p) p))), some (.int (nI y)), some (.int (nI p)), none, none] [] H) (n := np) ?_ (fun p hp q2 => ?_)
    · refine wX11_costBy_17 ⟨(shM S).1, fun _ => ?_, fun z => absurd (by rw [cn]; exact Int32.le_refl _) z⟩
      rw [nI_1]
      exact q
    · have e1 := nI_clamp (n := p) (by omega)
      have v1 : vp_in (nI p) 8 := vp_in_nI (by omega) (by omega)
      have b5 : 5 * nI r + nI y = nI (5 * r + y) := by rw [nI_lit5, nI_mul, nI_add]
      have e5 := nI_clamp (n := 5 * r + y) (by omega)
      have v5 : vp_in (nI (5 * r + y)) 15 := vp_in_nI (by omega) (by omega)
      have qp := Q.2.2.2.1 p hp
      have qv := (Q.2.2.2.2.1 r y hr (by omega)).2
      have d1 : zI H 205 p = nI (tN h p) := by rw [E _ _ (by unfold scr; omega)]; exact qp.1.1
      have d2 : zI H 206 p = nI (kN h p) := by rw [E _ _ (by unfold scr; omega)]; exact qp.2.1.1
      have d3 : zI H 245 (5 * r + y) = nI (vN h r y) := by rw [E _ _ (by unfold scr; omega)]; exact qv.1
      have d4 : zI H 208 p = zI h 208 p := E _ _ (by unfold scr; omega)
      have mm := mx_M (t := tN h p) (k := kN h p) (v := vN h r y) qp.1.2 qp.2.1.2 qv.2
      have h5p := h5 p hp
      have st : ∀ x, x = nI (mc h π r y p) → Zt mX11_costBy (zPI ψ) 0 0 17 [some (.ref 200), some (.int (nI r)), some (.int (nI (sumN (fun y => sumN (fun p => mc h π r y p) np) y + sumN (fun p => mc h π r y p) p) + x)), some (.int (nI y)), some (.int (nI (p + 1))), none, none] [] H := fun x hx => by
        rw [hx, nI_add, Nat.add_assoc]
        exact q2
      refine wX11_costBy_17 ?_
      simp only [shM S, cn, e1, v1, b5, e5, v5, d1, d2, d3, d4, cb, Y p hp, ne_eq, nI_1]
      refine ⟨trivial, Bf (cnt_le (by omega) hp) ⟨by decide, trivial, trivial, by decide, trivial, trivial, by decide, trivial, trivial, fun v ev => ⟨by decide, trivial, trivial, fun z => ⟨by decide, trivial, by decide, st _ ?_⟩, fun z => ⟨by decide, trivial, trivial, fun w => ⟨by decide, trivial, by decide, st _ ?_⟩, fun w => ⟨fun x => st _ ?_, fun x => st _ ?_⟩⟩⟩⟩⟩
      · unfold mc; rw [if_neg (fun x => x.1 z)]
      · unfold mc; rw [if_neg (fun x => absurd w (cnt_le (by omega) x.2))]
      · unfold mc wN
        rw [if_pos ⟨z, Classical.not_not.mp (fun x => w (nI_le (by omega) (by omega)))⟩, mm.1 (by rw [← ev]; exact x)]; rfl
      · unfold mc wN
        rw [if_pos ⟨z, Classical.not_not.mp (fun x => w (nI_le (by omega) (by omega)))⟩, ev, mm.2 (by rw [← ev]; exact x)]
theorem s_X11_worst {ψ : Int32 → ZH → Prop} {H : ZH} {π : Nat → Nat} (Q : PQ h np nm nh) (e : zsame h H) (Y : MY H π np) (h5 : ∀ p, p < np → π p ≤ 5) (hc : ∀ p, p < np → ¬ oN h p → π p = 0) (k : ∀ H1, zK H1 = zK H → zN H1 = zN H → zR H1 = zR H → (∀ a j, ¬ (a = 200 ∧ j = 46) → zI H1 a j = zI H a j) → zI H1 200 46 = nI (wrw h np π) → ψ (nI (wst h np π)) H1) : ZcI mX11_worst [.ref 200] H ψ := by
  have h8 := Q.2.1
  have bd : ∀ r, tot h np π r < 2 ^ 31 := fun r => by
    have := tot_bd (r := r) (π := π) Q (Nat.le_refl np)
    have : np * 1000000 ≤ 8 * 1000000 := Nat.mul_le_mul_right _ h8
    omega
  have le : ∀ r s, (nI (tot h np π r) ≤ nI (tot h np π s)) ↔ ¬ tot h np π s < tot h np π r := fun r s => by
    rw [tI_le, nI_toInt (bd r), nI_toInt (bd s)]; omega
  have cost : ∀ (H1 : ZH) (r : Nat) (Φ : Int32 → ZH → Prop), r < 3 → zK H1 = zK H → zN H1 = zN H → zR H1 = zR H → (∀ a j, ¬ (a = 200 ∧ j = 46) → zI H1 a j = zI H a j) → Φ (nI (tot h np π r)) H1 → ZcI mX11_costBy [.ref 200, .int (nI r)] H1 Φ := fun H1 r Φ hr kk kn kr ki q =>
    s_X11_costBy Q (e.trans ⟨kk, kn, kr, fun a j z => ki a j (fun x => z (by unfold scr; omega))⟩) (fun p hp => by rw [ki _ _ (by omega)]; exact Y p hp) h5 hc hr q
  have kM : zK H 200 = 12 := (shM (e.Sh Q.1)).1
  have two : ∀ (H1 : ZH) (w : Nat), zK H1 = zK H → zN H1 = zN H → zR H1 = zR H → (∀ a j, ¬ (a = 200 ∧ j = 46) → zI H1 a j = zI H a j) → zI H1 200 46 = nI w → w = (if tot h np π 0 < tot h np π 1 then 1 else 0) → Zt mX11_worst (zPI ψ) 0 0 13 [some (.ref 200), some (.int (nI (tot h np π w))), some (.int 2), none] [] H1 := fun H1 w kk kn kr ki kw ew => by
    unfold wst wrw at k
    rw [← ew] at k
    refine wX11_worst_13 ⟨fun z => absurd z (by decide), fun _ => ⟨by rw [kk]; exact kM, cost H1 2 _ (by omega) kk kn kr ki ⟨fun z => ?_, fun z => ?_⟩⟩⟩
    · rw [le] at z
      rw [if_neg z] at k
      exact wX11_worst_13 ⟨fun _ => k H1 kk kn kr ki kw, fun z => absurd (by decide) z⟩
    · rw [le] at z
      rw [if_pos (Classical.not_not.mp z)] at k
      refine ⟨by rw [kk]; exact kM, wX11_worst_13 ⟨fun _ => k _ (by rw [zK_sI]; exact kk) (by rw [zN_sI]; exact kn) (by rw [zR_sI]; exact kr) (fun a j q => by rw [zI_sIn q]; exact ki a j q) (by rw [zI_sIs]; rfl), fun z => absurd (by decide) z⟩⟩
  refine wX11_worst ⟨kM, cost _ 0 _ (by omega) (by rw [zK_sI]) (by rw [zN_sI]) (by rw [zR_sI]) (fun a j q => by rw [zI_sIn q]) ?_⟩
  refine wX11_worst_13 ⟨fun z => absurd z (by decide), fun _ => ⟨by rw [zK_sI]; exact kM, cost _ 1 _ (by omega) (by rw [zK_sI]) (by rw [zN_sI]) (by rw [zR_sI]) (fun a j q => by rw [zI_sIn q]) ⟨fun z => ?_, fun z => ?_⟩⟩⟩
  · rw [le] at z
    exact two _ 0 (by rw [zK_sI]) (by rw [zN_sI]) (by rw [zR_sI]) (fun a j q => by rw [zI_sIn q]) (by rw [zI_sIs]; rfl) (by rw [if_neg z])
  · rw [le] at z
    exact ⟨by rw [zK_sI]; exact kM, two _ 1 (by rw [zK_sI, zK_sI]) (by rw [zN_sI, zN_sI]) (by rw [zR_sI, zR_sI]) (fun a j q => by rw [zI_sIn q, zI_sIn q]) (by rw [zI_sIs]; rfl) (by rw [if_pos (Classical.not_not.mp z)])⟩
set_option maxHeartbeats 2000000 in
theorem s_X11_isKept {ψ : Int32 → ZH → Prop} {H : ZH} {π : Nat → Nat} (Q : PQ h np nm nh) (e : zsame h H) (Y : MY H π np) (h5 : ∀ p, p < np → π p ≤ 5) (k : ψ (zb (kept h np π)) H) : ZcI mX11_isKept [.ref 200] H ψ := by
  have S := e.Sh Q.1
  have h8 := Q.2.1
  have sp := Q.2.2.2.2.2.2.1
  have E : ∀ a j, ¬ scr a j → zI H a j = zI h a j := e.2.2.2
  have cn : zI H 200 9 = nI np := by rw [E _ _ (by unfold scr; omega)]; exact Q.2.2.1.1
  have cs : zI H 219 5 = nI (spN h) := by rw [E _ _ (by unfold scr; omega)]; exact sp.1
  have cw : zI H 219 3 = nI (owN h) := by rw [E _ _ (by unfold scr; omega)]; exact Q.2.2.2.2.2.2.2.2.1.1
  have co : zI H 219 4 = nI (onN h) := by rw [E _ _ (by unfold scr; omega)]; exact Q.2.2.2.2.2.2.2.2.2.1
  have ow := Q.2.2.2.2.2.2.2.2.1.2
  have on := Q.2.2.2.2.2.2.2.2.2.2.2
  have wbd : ∀ y, won h π y np ≤ 8000 := fun y => by
    have := sumN_bd (f := fun p => if oN h p ∧ y < π p then tN h p else 0) (b := 1000) (n := np) (fun p hp => by
      by_cases c : oN h p ∧ y < π p
      · rw [if_pos c]; exact (Q.2.2.2.1 p hp).1.2
      · rw [if_neg c]; omega)
    have : np * 1000 ≤ 8 * 1000 := Nat.mul_le_mul_right _ h8
    unfold won
    omega
  have main := down (I := fun y => (∀ z, z < y → owN h ≤ won h π z np ∧ cnt h π z np ≤ onN h) → Zt mX11_isKept (zPI ψ) 0 0 2 [some (.ref 200), some (.int (nI y)), none, none, none] [] H) (n := spN h) (fun m => ?_) (fun y hy q m => ?_)
  · exact wX11_isKept (main (fun z hz => absurd hz (by omega)))
  · refine wX11_isKept_2 ?_
    simp only [shM S, cs, ne_eq]
    refine ⟨trivial, by decide, trivial, by decide, fun _ => ?_, fun z => absurd (Int32.le_refl _) z⟩
    rw [zb_t m] at k
    exact k
  · refine wX11_isKept_2 ?_
    simp only [shM S, cs, ne_eq]
    refine ⟨trivial, by decide, trivial, by decide, Bf (cnt_le (by omega) hy) ?_⟩
    refine down (I := fun p => Zt mX11_isKept (zPI ψ) 0 0 19 [some (.ref 200), some (.int (nI y)), some (.int (nI (won h π y p))), some (.int (nI (cnt h π y p))), some (.int (nI p))] [] H) (n := np) ?_ (fun p hp q2 => ?_)
    · refine wX11_isKept_19 ?_
      simp only [shM S, cn, cw, co, ne_eq, nI_1]
      have wb := wbd y
      have cb := cnt_bd (h := h) (π := π) (y := y) (n := np)
      have lw : (nI (won h π y np) < nI (owN h)) ↔ won h π y np < owN h := by rw [tI_lt, nI_toInt (by omega), nI_toInt (by omega)]; omega
      have lc : (nI (cnt h π y np) ≤ nI (onN h)) ↔ cnt h π y np ≤ onN h := by rw [tI_le, nI_toInt (by omega), nI_toInt (by omega)]; omega
      rw [lw, lc]
      have no : ¬ (owN h ≤ won h π y np ∧ cnt h π y np ≤ onN h) → ψ 0 H := fun z => by
        rw [zb_f (fun x => z (x y hy))] at k
        exact k
      refine ⟨trivial, fun _ => ⟨by decide, trivial, by decide, fun z => no (fun x => by have := x.1; omega), fun z => ⟨by decide, fun w => q (fun z' hz => ?_), fun w => no (fun x => by have := x.2; omega)⟩⟩, fun z => absurd (Int32.le_refl _) z⟩
      by_cases ez : z' = y
      · subst ez; exact ⟨by omega, by omega⟩
      · exact m z' (by omega)
    · have e1 := nI_clamp (n := p) (by omega)
      have v1 : vp_in (nI p) 8 := vp_in_nI (by omega) (by omega)
      have qp := Q.2.2.2.1 p hp
      have d1 : zI H 205 p = nI (tN h p) := by rw [E _ _ (by unfold scr; omega)]; exact qp.1.1
      have d4 : zI H 208 p = zI h 208 p := E _ _ (by unfold scr; omega)
      have h5p := h5 p hp
      have q61 : ∀ x, x = nI (if oN h p ∧ y < π p then tN h p else 0) → Zt mX11_isKept (zPI ψ) 0 0 61 [some (.ref 200), some (.int (nI y)), none, some (.int (nI (cnt h π y p))), some (.int (nI p))] [.int x, .int (nI (won h π y p))] H := fun x hx => by
        have ew : nI (won h π y p) + x = nI (won h π y (p + 1)) := by rw [hx, nI_add]; rfl
        refine wX11_isKept_61 ?_
        simp only [shM S, e1, v1, d4, Y p hp, ew, ne_eq, nI_1, i_add0]
        have s0 : ¬ (oN h p ∧ π p = y) → cnt h π y (p + 1) = cnt h π y p := fun z => by rw [cnt_step, if_neg z, Nat.add_zero]
        refine ⟨trivial, by decide, trivial, trivial, fun z => ?_, fun z => ⟨by decide, trivial, trivial, fun w => ?_, fun w => ?_⟩⟩
        · rw [s0 (fun x => x.1 z)] at q2; exact q2
        · rw [s0 (fun x => w (by rw [x.2]))] at q2; exact q2
        · rw [cnt_step, if_pos ⟨z, nI_inj' (by omega) (by omega) w⟩] at q2; exact q2
      refine wX11_isKept_19 ?_
      simp only [shM S, cn, e1, v1, d1, d4, Y p hp, ne_eq]
      refine ⟨trivial, Bf (cnt_le (by omega) hp) ⟨by decide, trivial, trivial, fun z => q61 _ ?_, fun z => ⟨by decide, trivial, trivial, fun w => q61 _ ?_, fun w => ⟨by decide, trivial, trivial, q61 _ ?_⟩⟩⟩⟩
      · rw [if_neg (fun x => x.1 z)]; rfl
      · rw [if_neg (fun x => absurd w (cnt_le (by omega) x.2))]; rfl
      · rw [if_pos ⟨z, Classical.not_not.mp (fun x => w (nI_le (by omega) (by omega)))⟩]
end PMOD
