section PREP
variable {h : ZH} {np nm nh : Nat}
/-- only what lies at A has changed -/
def FR (H H1 : ZH) (A : Nat) : Prop := zK H1 = zK H ∧ zN H1 = zN H ∧ zR H1 = zR H ∧ ∀ a j, a ≠ A → zI H1 a j = zI H a j
theorem FR.rfl' {H : ZH} {A : Nat} : FR H H A := ⟨rfl, rfl, rfl, fun _ _ _ => rfl⟩
theorem FR.sI {H H1 : ZH} {A i : Nat} {v : Int32} (k : FR H H1 A) : FR H (zsI H1 A i v) A := ⟨k.1, k.2.1, k.2.2.1, fun a j q => by rw [zI_sIa q]; exact k.2.2.2 a j q⟩
theorem FR.same {H H1 : ZH} {A : Nat} (k : FR H H1 A) (q : ∀ j, scr A j) : zsame H H1 := ⟨k.1, k.2.1, k.2.2.1, fun a j z => k.2.2.2 a j (fun e => z (by rw [e]; exact q j))⟩
set_option maxHeartbeats 2000000 in
theorem s_X6_fill {ψ : ZH → Prop} {H : ZH} {p d : Nat} (Q : PQ h np nm nh) (e : zsame h H) (es : zI H 80 9 = nI (spN h)) (hp : p < np) (hd : d < 6) (k : ∀ H1, FR H H1 (100 + (6 * p + d)) → (∀ r, r < 3 → zI H1 (100 + (6 * p + d)) r = nI (cst h p d r)) → ψ H1) :
    ZcV mX6_fillCosts [.ref 80, .ref (100 + (6 * p + d)), .ref (300 + 3 * p), .int (nI d), .int (nI (buN h))] H ψ := by
  have S := e.Sh Q.1
  have h8 := Q.2.1
  have qp := Q.2.2.2.1 p hp
  have sp5 := Q.2.2.2.2.2.2.1
  have hA := shRow84 S (j := 6 * p + d) (by omega)
  have c1 : zI H (300 + 3 * p) 1 = nI (tN h p) := by rw [e.2.2.2 _ _ (by unfold scr; omega), qp.2.2.1.1, qp.1.1]
  have c2 : zI H (300 + 3 * p) 2 = nI (kN h p) := by rw [e.2.2.2 _ _ (by unfold scr; omega), qp.2.2.1.2.1, qp.2.1.1]
  have cv : ∀ r t, r < 3 → t < 5 → zI H (90 + r) t = nI (vN h r t) := fun r t hr ht => by
    have := Q.2.2.2.2.1 r t hr ht
    rw [e.2.2.2 _ _ (by unfold scr; omega), this.1, this.2.1]
  generalize hAe : 100 + (6 * p + d) = A at k hA
  have hAl : 100 ≤ A ∧ A < 148 := by omega
  refine wX6_fillCosts ?_
  have := down (n := 3) (I := fun r => ∀ H1, FR H H1 A → (∀ r', r' < r → zI H1 A r' = nI (cst h p d r')) → Zt mX6_fillCosts (zPV ψ) 0 0 3 [some (.ref 80), some (.ref A), some (.ref (300 + 3 * p)), some (.int (nI d)), some (.int (nI (buN h))), some (.int (nI r)), none] [] H1) ?_ ?_
  · exact this H FR.rfl' (fun r' hr' => absurd hr' (by omega))
  · intro H1 F g
    exact wX6_fillCosts_3 ⟨fun _ => k H1 F g, fun z => absurd (by decide) z⟩
  · intro r hr ih H1 F g
    have e1 := nI_clamp (n := r) (by omega)
    have v1 : vp_in (nI r) 3 := vp_in_nI (by omega) (by omega)
    refine wX6_fillCosts_3 ⟨fun z => absurd z (cnt_le (n := 3) (by omega) hr), fun _ => ?_⟩
    rw [F.1, F.2.1, hA.2.1, hA.2.2, e1]
    refine ⟨rfl, v1, ?_⟩
    have := down (n := spN h) (I := fun t => ∀ H2, FR H H2 A → (∀ r', r' < r → zI H2 A r' = nI (cst h p d r')) → zI H2 A r = nI (sumN (fun y => if y < d then wN h p r y else buN h) t) → Zt mX6_fillCosts (zPV ψ) 0 0 17 [some (.ref 80), some (.ref A), some (.ref (300 + 3 * p)), some (.int (nI d)), some (.int (nI (buN h))), some (.int (nI r)), some (.int (nI t))] [] H2) ?_ ?_
    · exact this _ F.sI (fun r' hr' => by rw [zI_sIj (by omega)]; exact g r' hr') (by rw [zI_sIs]; rfl)
    · intro H2 F2 g2 c
      refine wX6_fillCosts_17 ⟨?_, fun _ => ?_, fun z => absurd ?_ z⟩
      · rw [F2.1]; exact (shPl S).1
      · rw [nI_1]
        refine ih H2 F2 (fun r' hr' => ?_)
        by_cases er : r' = r
        · subst er; exact c
        · exact g2 r' (by omega)
      · rw [F2.2.2.2 80 9 (by omega), es]; exact Int32.le_refl _
    · intro t ht ih2 H2 F2 g2 c
      have e2 := nI_clamp (n := t) (by omega)
      have v2 : vp_in (nI t) 5 := vp_in_nI (by omega) (by omega)
      have f1 : zI H2 (300 + 3 * p) 1 = nI (tN h p) := by rw [F2.2.2.2 _ _ (by omega), c1]
      have f2 : zI H2 (300 + 3 * p) 2 = nI (kN h p) := by rw [F2.2.2.2 _ _ (by omega), c2]
      have f3 : zI H2 (90 + r) t = nI (vN h r t) := by rw [F2.2.2.2 _ _ (by omega), cv r t hr (by omega)]
      have hv := (Q.2.2.2.2.1 r t hr (by omega)).2.2
      have step : ∀ x, x = nI (if t < d then wN h p r t else buN h) → Zt mX6_fillCosts (zPV ψ) 0 0 17 [some (.ref 80), some (.ref A), some (.ref (300 + 3 * p)), some (.int (nI d)), some (.int (nI (buN h))), some (.int (nI r)), some (.int (nI (t + 1)))] [] (zsI H2 A r (zI H2 A r + x)) := fun x hx => by
        refine ih2 _ F2.sI (fun r' hr' => by rw [zI_sIj (by omega)]; exact g2 r' hr') ?_
        rw [zI_sIs, c, hx, nI_add]
        rfl
      refine wX6_fillCosts_17 ?_
      simp only [F2.1, F2.2.1, F2.2.2.1, shPl S, shRow81 S hr, shPit S hp, hA, e1, e2, v1, v2, f1, f2, f3, F2.2.2.2 80 9 (show 80 ≠ A by omega), es, ne_eq, nI_1, mx_C qp.2.1.2 hv, nI_mul]
      refine ⟨trivial, Bf (cnt_le (by omega) ht) ⟨trivial, trivial, fun z => step _ ?_, fun z => ⟨trivial, by decide, trivial, trivial, by omega, trivial, trivial, step _ ?_⟩⟩⟩
      · rw [if_neg (fun q => absurd z (cnt_le (by omega) q))]
      · rw [if_pos (Classical.not_not.mp (fun q => z (nI_le (by omega) (by omega))))]; rfl
/-- the tables of the plans stand -/
def PT (h H : ZH) (np : Nat) : Prop := zsame h H ∧ zI H 80 8 = nI np ∧ zI H 80 9 = nI (spN h) ∧ zI H 80 10 = nI (owN h) ∧ zI H 80 11 = nI (onN h) ∧
  ∀ p, p < np → zI H 82 p = zI h 205 p ∧ zI H 83 p = zI h 208 p ∧ ∀ d r, d < 6 → r < 3 → zI H (100 + (6 * p + d)) r = nI (cst h p d r)
/-- the tables of the first k pits -/
def PTk (h H : ZH) (np k : Nat) : Prop := zsame h H ∧ zI H 80 8 = nI np ∧ zI H 80 9 = nI (spN h) ∧ zI H 80 10 = nI (owN h) ∧ zI H 80 11 = nI (onN h) ∧
  ∀ p, p < k → zI H 82 p = zI h 205 p ∧ zI H 83 p = zI h 208 p ∧ ∀ d r, d < 6 → r < 3 → zI H (100 + (6 * p + d)) r = nI (cst h p d r)
set_option maxHeartbeats 2000000 in
theorem s_X6_prepare {ψ : ZH → Prop} (Q : PQ h np nm nh) (k : ∀ H, PT h H np → ψ H) : ZcV mX6_prepare [.ref 80, .ref 20, .int (nI np), .ref 23] h ψ := by
  have h8 := Q.2.1
  have S := Q.1
  have st := Q.2.2.2.2.2.1
  have sp5 := Q.2.2.2.2.2.2.1
  have bu := Q.2.2.2.2.2.2.2.1
  have ow := Q.2.2.2.2.2.2.2.2.1
  have on := Q.2.2.2.2.2.2.2.2.2
  have main := down (n := np) (I := fun p => ∀ H, PTk h H np p → Zt mX6_prepare (zPV ψ) 0 0 29 [some (.ref 80), some (.ref 20), none, some (.ref 23), some (.int (nI p)), none] [] H) ?_ ?_
  · refine wX6_prepare ?_
    simp only [shPl S]
    refine ⟨trivial, fun a1 e1 => ?_⟩
    have z1 : zsame h a1 := by rw [e1]; exact zsame.sI (by unfold scr; omega)
    have x1 : zI a1 80 8 = nI np := by rw [e1, zI_sIs]
    have y1 : ∀ j, zI a1 23 j = zI h 23 j := fun j => by rw [e1, zI_sIa (by decide)]
    clear e1
    simp only [shPl (z1.Sh S), shX (z1.Sh S), y1]
    refine ⟨trivial, by decide, trivial, fun a2 e2 => ?_⟩
    have z2 : zsame h a2 := by rw [e2]; exact z1.trans (zsame.sI (by unfold scr; omega))
    have x2 : zI a2 80 8 = nI np ∧ zI a2 80 9 = nI (spN h) := by rw [e2, zI_sIj (by decide), zI_sIs, st.2.2.2]; exact ⟨x1, sp5.1⟩
    have y2 : ∀ j, zI a2 23 j = zI h 23 j := fun j => by rw [e2, zI_sIa (by decide), y1]
    clear e2
    simp only [shPl (z2.Sh S), shX (z2.Sh S), y2]
    refine ⟨trivial, by decide, trivial, fun a3 e3 => ?_⟩
    have z3 : zsame h a3 := by rw [e3]; exact z2.trans (zsame.sI (by unfold scr; omega))
    have x3 : zI a3 80 8 = nI np ∧ zI a3 80 9 = nI (spN h) ∧ zI a3 80 10 = nI (owN h) := by rw [e3, zI_sIj (by decide), zI_sIj (by decide), zI_sIs, st.2.1]; exact ⟨x2.1, x2.2, ow.1⟩
    have y3 : ∀ j, zI a3 23 j = zI h 23 j := fun j => by rw [e3, zI_sIa (by decide), y2]
    clear e3
    simp only [shPl (z3.Sh S), shX (z3.Sh S), y3]
    refine ⟨trivial, by decide, trivial, main _ ⟨z3.trans (zsame.sI (by unfold scr; omega)), ?_, ?_, ?_, ?_, fun p hp => absurd hp (by omega)⟩⟩
    · rw [zI_sIj (by decide)]; exact x3.1
    · rw [zI_sIj (by decide)]; exact x3.2.1
    · rw [zI_sIj (by decide)]; exact x3.2.2
    · rw [zI_sIs, st.2.2.1]; exact on.1
  · intro H P
    exact wX6_prepare_29 ⟨(shPl (P.1.Sh S)).1, fun _ => k H P, fun z => absurd (by rw [P.2.1]; exact Int32.le_refl _) z⟩
  · intro p hp ih H P
    have S1 := P.1.Sh S
    have e1 := nI_clamp (n := p) (by omega)
    have v1 : vp_in (nI p) 8 := vp_in_nI (by omega) (by omega)
    have qp := Q.2.2.2.1 p hp
    have c1 : zI H (300 + 3 * p) 1 = zI h 205 p := by rw [P.1.2.2.2 _ _ (by unfold scr; omega), qp.2.2.1.1]
    have c5 : zI H (300 + 3 * p) 5 = zI h 208 p := by rw [P.1.2.2.2 _ _ (by unfold scr; omega), qp.2.2.1.2.2]
    refine wX6_prepare_29 ?_
    simp only [shPl S1, shX S1, shPit S1 hp, P.2.1, e1, v1, c1, ne_eq]
    refine ⟨trivial, Bf (cnt_le (by omega) hp) ⟨by decide, trivial, trivial, by omega, trivial, trivial, trivial, by decide, fun a1 ea => ?_⟩⟩
    have z1 : zsame H a1 := by rw [ea]; exact zsame.sI (by unfold scr; omega)
    have x1 : zI a1 82 p = zI h 205 p := by rw [ea, zI_sIs]
    have y1 : ∀ a j, ¬ (a = 82 ∧ j = p) → zI a1 a j = zI H a j := fun a j q => by rw [ea, zI_sIn q]
    clear ea
    simp only [shPl (z1.Sh S1), shPit (z1.Sh S1) hp, y1 (300 + 3 * p) 5 (by omega), c5, v1]
    refine ⟨trivial, trivial, trivial, qp.2.2.2, ?_⟩
    have inner := down (n := 6) (I := fun d => ∀ H2, PTk h H2 np p → zI H2 82 p = zI h 205 p → zI H2 83 p = zI h 208 p → (∀ d' r, d' < d → r < 3 → zI H2 (100 + (6 * p + d')) r = nI (cst h p d' r)) → Zt mX6_prepare (zPV ψ) 0 0 69 [some (.ref 80), some (.ref 20), none, some (.ref 23), some (.int (nI p)), some (.int (nI d))] [] H2) ?_ ?_
    · refine inner _ ⟨P.1.trans (z1.trans (zsame.sI (by unfold scr; omega))), ?_, ?_, ?_, ?_, fun p' hp' => ?_⟩ ?_ ?_ (fun d' r hd' => absurd hd' (by omega))
      · rw [zI_sIn (by omega), y1 _ _ (by omega)]; exact P.2.1
      · rw [zI_sIn (by omega), y1 _ _ (by omega)]; exact P.2.2.1
      · rw [zI_sIn (by omega), y1 _ _ (by omega)]; exact P.2.2.2.1
      · rw [zI_sIn (by omega), y1 _ _ (by omega)]; exact P.2.2.2.2.1
      · obtain ⟨w1, w2, w3⟩ := P.2.2.2.2.2 p' hp'
        refine ⟨?_, ?_, fun d r hd hr => ?_⟩
        · rw [zI_sIn (by omega), y1 _ _ (by omega)]; exact w1
        · rw [zI_sIn (by omega), y1 _ _ (by omega)]; exact w2
        · rw [zI_sIn (by omega), y1 _ _ (by omega)]; exact w3 d r hd hr
      · rw [zI_sIn (by omega), x1]
      · rw [zI_sIs]
    · intro H2 P2 g1 g2 g3
      refine wX6_prepare_69 ⟨fun _ => ?_, fun z => absurd (by decide) z⟩
      rw [nI_1]
      refine ih H2 ⟨P2.1, P2.2.1, P2.2.2.1, P2.2.2.2.1, P2.2.2.2.2.1, fun p' hp' => ?_⟩
      by_cases ep : p' = p
      · subst ep; exact ⟨g1, g2, g3⟩
      · exact P2.2.2.2.2.2 p' (by omega)
    · intro d hd ih2 H2 P2 g1 g2 g3
      have S2 := P2.1.Sh S
      have b6 : nI p * 6 + nI d = nI (6 * p + d) := by rw [show (6 : Int32) = nI 6 from rfl, nI_mul, nI_add, Nat.mul_comm]
      have e6 := nI_clamp (n := 6 * p + d) (by omega)
      have v6 : vp_in (nI (6 * p + d)) 48 := vp_in_nI (by omega) (by omega)
      have cb : zI H2 23 2 = nI (buN h) := by rw [P2.1.2.2.2 _ _ (by unfold scr; omega), st.1, bu.1]
      refine wX6_prepare_69 ⟨fun z => absurd z (cnt_le (n := 6) (by omega) hd), fun _ => ?_⟩
      rw [b6]
      simp only [shPl S2, shX S2, shPit S2 hp, shRow84 S2 (j := 6 * p + d) (by omega), e1, e6, v1, v6, cb, ne_eq, nI_1]
      refine ⟨trivial, by decide, trivial, trivial, by omega, trivial, trivial, by omega, trivial, by decide, s_X6_fill Q P2.1 P2.2.2.1 hp hd (fun H3 F g => ih2 H3 ⟨?_, ?_, ?_, ?_, ?_, fun p' hp' => ?_⟩ ?_ ?_ (fun d' r hd' hr => ?_))⟩
      · exact P2.1.trans (F.same (fun j => by unfold scr; omega))
      · rw [F.2.2.2 _ _ (by omega)]; exact P2.2.1
      · rw [F.2.2.2 _ _ (by omega)]; exact P2.2.2.1
      · rw [F.2.2.2 _ _ (by omega)]; exact P2.2.2.2.1
      · rw [F.2.2.2 _ _ (by omega)]; exact P2.2.2.2.2.1
      · obtain ⟨w1, w2, w3⟩ := P2.2.2.2.2.2 p' hp'
        refine ⟨?_, ?_, fun d r hd hr => ?_⟩
        · rw [F.2.2.2 _ _ (by omega)]; exact w1
        · rw [F.2.2.2 _ _ (by omega)]; exact w2
        · rw [F.2.2.2 _ _ (by omega)]; exact w3 d r hd hr
      · rw [F.2.2.2 _ _ (by omega)]; exact g1
      · rw [F.2.2.2 _ _ (by omega)]; exact g2
      · by_cases ed : d' = d
        · subst ed; exact g r hr
        · rw [F.2.2.2 _ _ (by omega)]; exact g3 d' r (by omega) hr
end PREP
