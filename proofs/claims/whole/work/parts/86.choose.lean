section CHOOSE
variable {h : ZH} {np nm nh : Nat}
def CH (h H : ZH) (np : Nat) (π : Nat → Nat) (k : Nat) (B : OB) : Prop := PT h H np ∧ PY H π k ∧ CL h H np π k ∧ (∀ q r, q ≤ k → r < 3 → zI H (160 + q) r = nI (tot h q π r)) ∧
  (∀ q r, q ≤ np → r < 3 → zI H (150 + q) r = nI (lea h r (np - q) q)) ∧ (zI H 80 13 = nI (lim B) ∧ lim B < 2 ^ 31) ∧ ∀ b, B = some b → zI H 80 14 = nI b.2
theorem PT.fr {H H1 : ZH} (P : PT h H np) (hn : np ≤ 8) (kk : zK H1 = zK H) (kn : zN H1 = zN H) (kr : zR H1 = zR H) (E : ∀ a j, ¬ a = 87 → ¬ a = 88 → ¬ (150 ≤ a ∧ a ≤ 168) → ¬ (a = 80 ∧ 12 ≤ j) → zI H1 a j = zI H a j) : PT h H1 np := by
  obtain ⟨p1, p2, p3, p4, p5, p6⟩ := P
  refine ⟨p1.trans ⟨kk, kn, kr, fun a j z => E a j (fun x => z (by unfold scr; omega)) (fun x => z (by unfold scr; omega)) (fun x => z (by unfold scr; omega)) (fun x => z (by unfold scr; omega))⟩, by rw [E _ _ (by omega) (by omega) (by omega) (by omega)]; exact p2, by rw [E _ _ (by omega) (by omega) (by omega) (by omega)]; exact p3, by rw [E _ _ (by omega) (by omega) (by omega) (by omega)]; exact p4, by rw [E _ _ (by omega) (by omega) (by omega) (by omega)]; exact p5, fun p hp => ?_⟩
  obtain ⟨q1, q2, q3⟩ := p6 p hp
  refine ⟨by rw [E _ _ (by omega) (by omega) (by omega) (by omega)]; exact q1, by rw [E _ _ (by omega) (by omega) (by omega) (by omega)]; exact q2, fun d r hd hr => by rw [E _ _ (by omega) (by omega) (by omega) (by omega)]; exact q3 d r hd hr⟩
theorem CH.fr {H H1 : ZH} {π : Nat → Nat} {k : Nat} {B : OB} (c : CH h H np π k B) (hn : np ≤ 8) (hk : k ≤ np) (kk : zK H1 = zK H) (kn : zN H1 = zN H) (kr : zR H1 = zR H) (E : ∀ a j, ¬ (a = 87 ∧ k ≤ j) → ¬ (160 + k < a ∧ a ≤ 168) → zI H1 a j = zI H a j) : CH h H1 np π k B := by
  obtain ⟨c1, c2, c3, c4, c5, c6, c7⟩ := c
  refine ⟨c1.fr hn kk kn kr (fun a j x1 x2 x3 x4 => E a j (by omega) (by omega)), fun p hp => ?_, ⟨fun y hy => ?_, ?_⟩, fun q r hq hr => ?_, fun q r hq hr => ?_, ⟨?_, c6.2⟩, fun b hb => ?_⟩
  · rw [E _ _ (by omega) (by omega)]; exact c2 p hp
  · rw [E _ _ (by omega) (by omega)]; exact c3.1 y hy
  · rw [E _ _ (by omega) (by omega)]; exact c3.2
  · rw [E _ _ (by omega) (by omega)]; exact c4 q r hq hr
  · rw [E _ _ (by omega) (by omega)]; exact c5 q r hq hr
  · rw [E _ _ (by omega) (by omega)]; exact c6.1
  · rw [E _ _ (by omega) (by omega)]; exact c7 b hb
theorem CH.re {H : ZH} {π π' : Nat → Nat} {k : Nat} {B : OB} (c : CH h H np π k B) (e : ∀ p, p < k → π p = π' p) : CH h H np π' k B := by
  obtain ⟨c1, c2, c3, c4, c5, c6, c7⟩ := c
  exact ⟨c1, fun p hp => by rw [← e p hp]; exact c2 p hp, c3.congr e, fun q r hq hr => by rw [c4 q r hq hr, tot_congr (fun p hp => e p (by omega))], c5, c6, c7⟩
theorem s_X6_last {ψ : Int32 → ZH → Prop} {H : ZH} {p : Nat} (Q : PQ h np nm nh) (P : PT h H np) (hp : p < np) (k : ψ (nI (lst h p)) H) : ZcI mX6_lastChoice [.ref 80, .int (nI p)] H ψ := by
  have S := P.1.Sh Q.1
  have h8 := Q.2.1
  have s5 := Q.2.2.2.2.2.2.1.2.2
  have e1 := nI_clamp (n := p) (by omega)
  have v1 : vp_in (nI p) 8 := vp_in_nI (by omega) (by omega)
  refine wX6_lastChoice ?_
  simp only [shPl S, e1, v1, (P.2.2.2.2.2 p hp).2.1, P.2.2.1, ne_eq]
  unfold lst at k
  refine ⟨trivial, by decide, trivial, trivial, fun z => ?_, fun z => ?_⟩
  · rw [if_neg (fun x => x z)] at k; exact k
  · rw [if_pos z] at k
    rw [if_neg (by rw [tI_lt, nI_toInt (by omega)]; have : (5 : Int32).toInt = 5 := by decide
                   omega)]
    exact k
theorem al3 {P : Nat → Prop} : (P 0 ∧ P 1 ∧ P 2) ↔ ∀ r, r < 3 → P r := by
  refine ⟨fun q r hr => ?_, fun q => ⟨q 0 (by omega), q 1 (by omega), q 2 (by omega)⟩⟩
  match r, hr with
  | 0, _ => exact q.1
  | 1, _ => exact q.2.1
  | 2, _ => exact q.2.2
theorem s_X6_may' {ψ : Int32 → ZH → Prop} {H : ZH} {π : Nat → Nat} {p y : Nat} (Q : PQ h np nm nh) (P : PT h H np) (C : CL h H np π p) (hp : p < np) (ey : π p = y) (hy : y ≤ 5) (k : ψ (zb (mcl h np π p)) H) : ZcI mX6_mayClose [.ref 80, .int (nI p), .int (nI y)] H ψ := by
  subst ey
  exact s_X6_may Q P C hp hy k
theorem s_X6_closeFrom' {ψ : ZH → Prop} {H : ZH} {π : Nat → Nat} {p y : Nat} (Q : PQ h np nm nh) (P : PT h H np) (C : CL h H np π p) (hp : p < np) (ey : π p = y) (hy : y ≤ 5) (k : ∀ H1, FC H H1 → CL h H1 np π (p + 1) → ψ H1) : ZcV mX6_closeFrom [.ref 80, .int (nI p), .int (nI y)] H ψ := by
  subst ey
  exact s_X6_closeFrom Q P C hp hy k
theorem s_X6_better {ψ : Int32 → ZH → Prop} {H : ZH} {q : Nat} {T M : Nat → Nat} {B : Nat} (S : Sh H np nm nh) (hq : q < 9) (hT : ∀ r, r < 3 → zI H (160 + q) r = nI (T r)) (hM : ∀ r, r < 3 → zI H (150 + q) r = nI (M r)) (hB : zI H 80 13 = nI B) (bB : B < 2 ^ 31) (bd : ∀ r, r < 3 → T r + M r < 2 ^ 31) (k : ψ (zb (T 0 + M 0 < B ∧ T 1 + M 1 < B ∧ T 2 + M 2 < B)) H) : ZcI mX6_mayBeBetter [.ref 80, .int (nI q)] H ψ := by
  refine wX6_mayBeBetter ?_
  have main := down (n := 3) (I := fun r => (∀ r', r' < r → T r' + M r' < B) → Zt mX6_mayBeBetter (zPI ψ) 0 0 2 [some (.ref 80), some (.int (nI q)), some (.int (nI r))] [] H) (fun m => ?_) (fun r hr ih m => ?_)
  · exact main (fun r' hr' => absurd hr' (by omega))
  · rw [zb_t (al3.mpr m)] at k
    exact wX6_mayBeBetter_2 ⟨fun _ => k, fun z => absurd (by decide) z⟩
  · have e1 := nI_clamp (n := q) (by omega)
    have v1 : vp_in (nI q) 9 := vp_in_nI (by omega) (by omega)
    have e2 := nI_clamp (n := r) (by omega)
    have v2 : vp_in (nI r) 3 := vp_in_nI (by omega) (by omega)
    have b := bd r hr
    have lt : (nI (T r + M r) < nI B) ↔ T r + M r < B := by rw [tI_lt, nI_toInt b, nI_toInt bB]; omega
    refine wX6_mayBeBetter_2 ⟨fun z => absurd z (cnt_le (n := 3) (by omega) hr), fun _ => ?_⟩
    simp only [shPl S, shRow85 S hq, shRow86 S hq, e1, e2, v1, v2, hT r hr, hM r hr, hB, nI_add, nI_1, lt, ne_eq]
    refine ⟨trivial, by decide, trivial, trivial, by omega, trivial, trivial, by decide, trivial, trivial, by omega, trivial, trivial, fun z => ih (fun r' hr' => ?_), fun z => ?_⟩
    · by_cases er : r' = r
      · subst er; exact z
      · exact m r' (by omega)
    · rw [zb_f (fun x => z (al3 (P := fun r => T r + M r < B) |>.mp x r hr))] at k; exact k
theorem s_X6_keep {ψ : ZH → Prop} {H : ZH} {π : Nat → Nat} {B : OB} (Q : PQ h np nm nh) (c : CH h H np π np B) (h5 : ∀ p, p < np → π p ≤ 5) (k : ∀ H', CH h H' np π np (some (wst h np π, digs π np)) → ψ H') : ZcV mX6_keepAsBest [.ref 80] H ψ := by
  have h8 := Q.2.1
  have S := c.1.1.Sh Q.1
  refine wX6_keepAsBest ⟨(shPl S).1, s_X6_worstRow Q c.1 c.2.1 h5 ⟨(shPl S).1, s_X6_costByRow Q c.1 c.2.1 h5 wrw_lt ⟨(shPl S).1, ?_⟩⟩⟩
  have main := down (n := np) (I := fun p => ∀ H1, zK H1 = zK H → zN H1 = zN H → zR H1 = zR H → (∀ a j, ¬ (a = 80 ∧ (j = 13 ∨ j = 14)) → zI H1 a j = zI H a j) → zI H1 80 13 = nI (wst h np π) → zI H1 80 14 = nI (digs π p) → Zt mX6_keepAsBest (zPV ψ) 0 0 19 [some (.ref 80), some (.int (nI p))] [] H1) ?_ ?_
  · refine main _ (by rw [zK_sI, zK_sI]) (by rw [zN_sI, zN_sI]) (by rw [zR_sI, zR_sI]) (fun a j q => by rw [zI_sIn (by omega), zI_sIn (by omega)]) (by rw [zI_sIj (by decide), zI_sIs]; rfl) (by rw [zI_sIs]; rfl)
  · intro H1 kk kn kr E g1 g2
    refine wX6_keepAsBest_19 ⟨by rw [kk]; exact (shPl S).1, fun _ => k H1 ?_, fun z => absurd (by rw [E _ _ (by omega), c.1.2.1]; exact Int32.le_refl _) z⟩
    obtain ⟨c1, c2, c3, c4, c5, c6, c7⟩ := c
    refine ⟨c1.fr h8 kk kn kr (fun a j x1 x2 x3 x4 => E a j (by omega)), fun p hp => ?_, ⟨fun y hy => ?_, ?_⟩, fun q r hq hr => ?_, fun q r hq hr => ?_, ⟨g1, ?_⟩, fun b hb => ?_⟩
    · rw [E _ _ (by omega)]; exact c2 p hp
    · rw [E _ _ (by omega)]; exact c3.1 y hy
    · rw [E _ _ (by omega)]; exact c3.2
    · rw [E _ _ (by omega)]; exact c4 q r hq hr
    · rw [E _ _ (by omega)]; exact c5 q r hq hr
    · have := wst_bd (π := π) Q
      show wst h np π < 2 ^ 31
      omega
    · cases hb; exact g2
  · intro p hp ih H1 kk kn kr E g1 g2
    have S1 : Sh H1 np nm nh := S.same kk kn kr
    have e1 := nI_clamp (n := p) (by omega)
    have v1 : vp_in (nI p) 8 := vp_in_nI (by omega) (by omega)
    have cn : zI H1 80 8 = nI np := by rw [E _ _ (by omega)]; exact c.1.2.1
    have cy : zI H1 87 p = nI (π p) := by rw [E _ _ (by omega)]; exact c.2.1 p hp
    refine wX6_keepAsBest_19 ?_
    simp only [shPl S1, e1, v1, cn, cy, g2, ne_eq, nI_1]
    refine ⟨trivial, Bf (cnt_le (by omega) hp) ⟨by decide, trivial, trivial, ih _ (by rw [zK_sI]; exact kk) (by rw [zN_sI]; exact kn) (by rw [zR_sI]; exact kr) (fun a j q => by rw [zI_sIn (by omega)]; exact E a j q) (by rw [zI_sIj (by decide)]; exact g1) ?_⟩⟩
    rw [zI_sIs, show (10 : Int32) = nI 10 from rfl, nI_mul, nI_add]
    rfl
theorem s_X6_again {ψ : ZH → Prop} {H : ZH} {π : Nat → Nat} {p : Nat} (Q : PQ h np nm nh) (P : PT h H np) (C : CL h H np π (p + 1)) (hp : p < np) (hy : π p ≤ 5) (k : ∀ H1, FC H H1 → CL h H1 np π p → ψ H1) : ZcV mX6_openAgain [.ref 80, .int (nI p), .int (nI (π p))] H ψ := by
  have S := P.1.Sh Q.1
  have h8 := Q.2.1
  have s5 := Q.2.2.2.2.2.2.1.2.2
  have e1 := nI_clamp (n := p) (by omega)
  have v1 : vp_in (nI p) 8 := vp_in_nI (by omega) (by omega)
  have e2 := nI_clamp (n := π p) (by omega)
  have v2 : vp_in (nI (π p)) 6 := vp_in_nI (by omega) (by omega)
  refine wX6_openAgain ⟨(shPl S).1, s_X6_within Q P hp hy (zb_if (fun c => ?_) (fun c => ?_))⟩
  · have c1 := C.1 (π p) (by omega)
    rw [if_pos c.2, cnt_step, if_pos ⟨c.1, rfl⟩] at c1
    have c2 := C.2
    have ws := wonP_step (h := h) (π := π) hp
    rw [if_pos c] at ws
    have c3 := (P.2.2.2.2.2 p hp).1
    rw [(Q.2.2.2.1 p hp).1.1] at c3
    simp only [shPl S, e2, v2, c1, ne_eq, nI_pred]
    refine ⟨trivial, by decide, trivial, trivial, fun a1 ea => ?_⟩
    have F1 : FC H a1 := by rw [ea]; exact FC.sI (Or.inl rfl)
    have g1 : ∀ y, y < 6 → zI a1 88 y = if y = π p then nI (cnt h π (π p) p) else zI H 88 y := fun y _ => by
      rw [ea]
      by_cases ey : y = π p
      · subst ey; rw [zI_sIs, if_pos rfl]
      · rw [zI_sIj ey, if_neg ey]
    have g2 : zI a1 80 12 = zI H 80 12 := by rw [ea, zI_sIa (by decide)]
    have g3 : zI a1 82 p = zI H 82 p := by rw [ea, zI_sIa (by decide)]
    clear ea
    simp only [shPl (F1.same.Sh S), e1, v1, g2, g3, c2, c3, nI_add, ne_eq]
    refine ⟨trivial, by decide, trivial, trivial, k _ (F1.trans (FC.sI (Or.inr ⟨rfl, rfl⟩))) ⟨fun y hy6 => ?_, by rw [zI_sIs, ws]⟩⟩
    rw [zI_sIa (by decide), g1 y hy6]
    by_cases ey : y = π p
    · subst ey
      rw [if_pos rfl, if_pos c.2]
    · rw [if_neg ey, C.1 y hy6, cnt_step, if_neg (show ¬ (oN h p ∧ π p = y) from fun x => ey x.2.symm), Nat.add_zero]
  · refine k H FC.rfl' ⟨fun y hy6 => ?_, ?_⟩
    · rw [C.1 y hy6]
      by_cases q : y < spN h
      · rw [if_pos q, if_pos q, cnt_step, if_neg (show ¬ (oN h p ∧ π p = y) from fun x => c ⟨x.1, by rw [x.2]; exact q⟩), Nat.add_zero]
      · rw [if_neg q, if_neg q]
    · have ws := wonP_step (h := h) (π := π) hp
      rw [if_neg c, Nat.add_zero] at ws
      rw [C.2, ws]
theorem s_X6_again' {ψ : ZH → Prop} {H : ZH} {π : Nat → Nat} {p y : Nat} (Q : PQ h np nm nh) (P : PT h H np) (C : CL h H np π (p + 1)) (hp : p < np) (ey : π p = y) (hy : y ≤ 5) (k : ∀ H1, FC H H1 → CL h H1 np π p → ψ H1) : ZcV mX6_openAgain [.ref 80, .int (nI p), .int (nI y)] H ψ := by
  subst ey
  exact s_X6_again Q P C hp hy k
set_option maxHeartbeats 4000000 in
theorem s_X6_pay {ψ : ZH → Prop} {H : ZH} {π : Nat → Nat} {Y : OB} {k y : Nat} (Q : PQ h np nm nh) (c : CH h H np π k Y) (hkn : k < np) (hy : y ≤ 5) (pk : π k = y) (q : ∀ H2, CH h H2 np π k Y → zI H2 87 k = nI y → (∀ r, r < 3 → zI H2 (160 + (k + 1)) r = nI (tot h (k + 1) π r)) → ψ H2) : ZcV mX6_pay [.ref 80, .int (nI k), .int (nI y)] H ψ := by
  have h8 := Q.2.1
  have S1 := c.1.1.Sh Q.1
  have e1 := nI_clamp (n := k) (by omega)
  have v1 : vp_in (nI k) 8 := vp_in_nI (by omega) (by omega)
  have b6 : nI k * 6 + nI y = nI (6 * k + y) := by rw [show (6 : Int32) = nI 6 from rfl, nI_mul, nI_add, Nat.mul_comm]
  have e6 := nI_clamp (n := 6 * k + y) (by omega)
  have v6 : vp_in (nI (6 * k + y)) 48 := vp_in_nI (by omega) (by omega)
  have e9 := nI_clamp (n := k + 1) (by omega)
  have v9 : vp_in (nI k) 9 := vp_in_nI (by omega) (by omega)
  have v9' : vp_in (nI (k + 1)) 9 := vp_in_nI (by omega) (by omega)
  have tk : ∀ r, tot h (k + 1) π r = tot h k π r + cst h k y r := fun r => by rw [← pk]; rfl
  refine wX6_pay ?_
  simp only [shPl S1, e1, v1, ne_eq]
  refine ⟨trivial, by decide, trivial, trivial, ?_⟩
  have rows := down (n := 3) (I := fun r => ∀ H2, CH h H2 np π k Y → zI H2 87 k = nI y → (∀ r', r' < r → zI H2 (160 + (k + 1)) r' = nI (tot h (k + 1) π r')) → Zt mX6_pay (zPV ψ) 0 0 9 [some (.ref 80), some (.int (nI k)), some (.int (nI y)), some (.int (nI r))] [] H2) ?_ ?_
  · refine rows _ (c.fr h8 (by omega) (by rw [zK_sI]) (by rw [zN_sI]) (by rw [zR_sI]) (fun a j x1 x2 => zI_sIn (by omega))) (by rw [zI_sIs]) (fun r' hr' => absurd hr' (by omega))
  · intro H2 c2 gy gr
    exact wX6_pay_9 ⟨fun _ => q H2 c2 gy gr, fun z => absurd (by decide) z⟩
  · intro r hr ih2 H2 c2 gy gr
    have S2 := c2.1.1.Sh Q.1
    have e2 := nI_clamp (n := r) (by omega)
    have v2 : vp_in (nI r) 3 := vp_in_nI (by omega) (by omega)
    have ca := c2.2.2.2.1 k r (by omega) hr
    have cb := (c2.1.2.2.2.2.2 k hkn).2.2 y r (by omega) hr
    refine wX6_pay_9 ⟨fun z => absurd z (cnt_le (n := 3) (by omega) hr), fun _ => ?_⟩
    rw [nI_1]
    simp only [shPl S2, shRow86 S2 (j := k) (by omega), shRow86 S2 (j := k + 1) (by omega), shRow84 S2 (j := 6 * k + y) (by omega), e1, e2, e6, e9, v9, v9', v2, b6, v6, ca, cb, nI_add, nI_1, ne_eq]
    refine ⟨trivial, by decide, trivial, trivial, by omega, trivial, by omega, trivial, trivial, by decide, trivial, trivial, by omega, trivial, trivial, trivial, trivial, ih2 _ (c2.fr h8 (by omega) (by rw [zK_sI]) (by rw [zN_sI]) (by rw [zR_sI]) (fun a j x1 x2 => zI_sIn (by omega))) (by rw [zI_sIn (by omega)]; exact gy) (fun r' hr' => ?_)⟩
    by_cases er : r' = r
    · subst er; rw [zI_sIs, tk]
    · rw [zI_sIj er]; exact gr r' (by omega)
set_option maxHeartbeats 4000000 in
theorem s_X6_choose (Q : PQ h np nm nh) : ∀ (n k : Nat), k + n = np → ∀ (dk : Nat), n ≤ dk → ∀ (H : ZH) (π : Nat → Nat) (B : OB) (ψ : ZH → Prop), CH h H np π k B → (∀ p, p < k → π p ≤ 5) → (∀ j, j < k → mcl h np π j) → owN h ≤ wonP h np π k → (∀ r, r < 3 → tot h k π r + lea h r n k < lim B) → (∀ H', CH h H' np π k (scn h np n k π B) → ψ H') → ZcV (mX6_choose dk) [.ref 80, .int (nI k)] H ψ
  | 0, k, hk, dk, hd, H, π, B, ψ, c, h5, hm, hw, hb, q => by
    have h8 := Q.2.1
    have ek : k = np := by omega
    subst ek
    refine wX6_choose ⟨(shPl (c.1.1.Sh Q.1)).1, fun z => absurd z ?_, fun _ => s_X6_keep Q c h5 (fun H' c' => q H' ?_)⟩
    · rw [c.1.2.1]; exact Int32.lt_irrefl
    · show CH h H' k π k (leaf h k π B)
      unfold leaf
      rw [if_pos ⟨(kept_iff Q).mpr ⟨hm, hw⟩, hb _ wrw_lt⟩]
      exact c'
  | n + 1, k, hk, dk, hd, H, π, B, ψ, c, h5, hm, hw, hb, q => by
    have h8 := Q.2.1
    have s5 := Q.2.2.2.2.2.2.1.2.2
    have hkn : k < np := by omega
    have ll : lst h k ≤ 5 := by
      unfold lst
      by_cases o : oN h k
      · rw [if_pos o]; exact s5
      · rw [if_neg o]; omega
    refine wX6_choose ⟨(shPl (c.1.1.Sh Q.1)).1, fun _ => ?_, fun z => absurd ?_ z⟩
    rotate_left
    · rw [c.1.2.1]; exact nI_lt hkn (by omega)
    have main := down (n := lst h k + 1) (I := fun y => ∀ H, CH h H np π k (itr (fun y b => scn h np n (k + 1) (ps π k y) b) y B) → Zt (mX6_choose dk) (zPV ψ) 0 0 15 [some (.ref 80), some (.int (nI k)), some (.int (nI y))] [] H) ?_ ?_
    · exact main H c
    · intro H1 c1
      refine wX6_choose_15 ⟨(shPl (c1.1.1.Sh Q.1)).1, s_X6_last Q c1.1 hkn ⟨fun _ => q H1 c1, fun z => absurd (nI_lt (by omega) (by omega)) z⟩⟩
    · intro y hy ih H1 c1
      have step : itr (fun y b => scn h np n (k + 1) (ps π k y) b) (y + 1) B = scn h np n (k + 1) (ps π k y) (itr (fun y b => scn h np n (k + 1) (ps π k y) b) y B) := rfl
      rw [step] at ih
      generalize itr (fun y b => scn h np n (k + 1) (ps π k y) b) y B = Y at ih c1
      generalize hπ' : ps π k y = π' at ih
      have pk : π' k = y := by rw [← hπ', ps_s]
      have pn : ∀ p, p < k → π p = π' p := fun p hp => by rw [← hπ', ps_n (by omega)]
      have S1 := c1.1.1.Sh Q.1
      have c1' := c1.re pn
      refine wX6_choose_15 ⟨(shPl S1).1, s_X6_last Q c1.1 hkn ⟨fun z => absurd z ?_, fun _ => ⟨(shPl S1).1, ?_⟩⟩⟩
      · intro z
        rw [tI_lt, nI_toInt (by omega), nI_toInt (by omega)] at z
        omega
      refine s_X6_may' (π := π') Q c1'.1 c1'.2.2.1 hkn pk (by omega) (zb_if (fun mc => ?_) (fun mc => ?_))
      rotate_left
      · rw [nI_1]
        refine ih H1 ?_
        rw [scn_mcl Q (by omega) mc]
        exact c1
      refine ⟨(shPl S1).1, s_X6_pay Q c1' hkn (by omega) pk (fun H2 c2 gy gr => ?_)⟩
      have S2 := c2.1.1.Sh Q.1
      refine ⟨(shPl S2).1, ?_⟩
      rw [nI_1]
      have tb : ∀ r, tot h (k + 1) π' r + lea h r n (k + 1) < 2 ^ 31 := fun r => by
        have x1 := tot_bd (r := r) (π := π') Q (show k + 1 ≤ np by omega)
        have x2 := lea_bd (r := r) Q (n := n) (k := k + 1) (by omega)
        have x3 : (k + 1) * 1000000 ≤ 8 * 1000000 := Nat.mul_le_mul_right _ (by omega)
        have x4 : n * 1000000 ≤ 8 * 1000000 := Nat.mul_le_mul_right _ (by omega)
        omega
      refine s_X6_better (T := tot h (k + 1) π') (M := fun r => lea h r n (k + 1)) S2 (by omega) gr (fun r hr => by rw [c2.2.2.2.2.1 (k + 1) r (by omega) hr, show np - (k + 1) = n by omega]) c2.2.2.2.2.2.1.1 c2.2.2.2.2.2.1.2 (fun r _ => tb r) (zb_if (fun bt => ?_) (fun bt => ?_))
      · refine ⟨(shPl S2).1, ?_⟩
        refine s_X6_closeFrom' (π := π') Q c2.1 c2.2.2.1 hkn pk (by omega) (fun H3 F3 C3 => ⟨dk - 1, by omega, ?_⟩)
        have E3 := F3.2.2.2
        have c3 : CH h H3 np π' (k + 1) Y := by
          obtain ⟨c21, c22, c23, c24, c25, c26, c27⟩ := c2
          refine ⟨F3.PT c21 h8, fun p hp => ?_, C3, fun q' r hq' hr => ?_, fun q' r hq' hr => ?_, ⟨?_, c26.2⟩, fun b hb => ?_⟩
          · rw [E3 _ _ (by omega)]
            by_cases ep : p = k
            · subst ep; rw [gy, pk]
            · exact c22 p (by omega)
          · rw [E3 _ _ (by omega)]
            by_cases eq : q' = k + 1
            · subst eq; exact gr r hr
            · exact c24 q' r (by omega) hr
          · rw [E3 _ _ (by omega)]; exact c25 q' r hq' hr
          · rw [E3 _ _ (by omega)]; exact c26.1
          · rw [E3 _ _ (by omega)]; exact c27 b hb
        have w3 : owN h ≤ wonP h np π' (k + 1) := by
          rcases mc with x | x
          · have := wonP_step (h := h) (π := π') hkn
            rw [if_neg x, Nat.add_zero] at this
            rw [← this, ← wonP_congr pn]
            exact hw
          · exact x.2
        have m3 : ∀ j, j < k + 1 → mcl h np π' j := fun j hj => by
          by_cases ej : j = k
          · subst ej; exact mc
          · exact (mcl_congr (fun p hp => pn p (by omega))).mp (hm j (by omega))
        rw [nI_1]
        refine s_X6_choose Q n (k + 1) (by omega) (dk - 1) (by omega) H3 π' Y _ c3 (fun p hp => ?_) m3 w3 (al3.mp bt) (fun H4 c4 => ⟨(shPl (c4.1.1.Sh Q.1)).1, ?_⟩)
        · by_cases ep : p = k
          · subst ep; rw [pk]; omega
          · rw [← pn p (by omega)]; exact h5 p (by omega)
        · refine s_X6_again' (π := π') Q c4.1 c4.2.2.1 hkn pk (by omega) (fun H5 F5 C5 => ?_)
          have E5 := F5.2.2.2
          refine ih H5 ?_
          obtain ⟨c41, c42, c43, c44, c45, c46, c47⟩ := c4
          refine CH.re (π := π') ⟨F5.PT c41 h8, fun p hp => ?_, C5, fun q' r hq' hr => ?_, fun q' r hq' hr => ?_, ⟨?_, c46.2⟩, fun b hb => ?_⟩ (fun p hp => (pn p hp).symm)
          · rw [E5 _ _ (by omega)]; exact c42 p (by omega)
          · rw [E5 _ _ (by omega)]; exact c44 q' r (by omega) hr
          · rw [E5 _ _ (by omega)]; exact c45 q' r hq' hr
          · rw [E5 _ _ (by omega)]; exact c46.1
          · rw [E5 _ _ (by omega)]; exact c47 b hb
      · rw [nI_1]
        refine ih H2 ?_
        obtain ⟨r, hr, hl⟩ : ∃ r, r < 3 ∧ lim Y ≤ tot h (k + 1) π' r + lea h r n (k + 1) := by
          refine Classical.not_not.mp (fun x => bt ((al3 (P := fun r => tot h (k + 1) π' r + lea h r n (k + 1) < lim Y)).mpr (fun r hr => ?_)))
          refine Classical.not_not.mp (fun x2 => x ⟨r, hr, by omega⟩)
        rw [scn_bound (by omega) hr hl]
        exact c2.re (fun p hp => (pn p hp).symm)
end CHOOSE
