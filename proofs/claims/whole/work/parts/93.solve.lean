def sumI (f : Nat → Int) : Nat → Int
  | 0 => 0
  | n + 1 => sumI f n + f n
theorem sumI_congr {f g : Nat → Int} : ∀ {n : Nat}, (∀ k, k < n → f k = g k) → sumI f n = sumI g n
  | 0, _ => rfl
  | n + 1, e => by
    show sumI f n + f n = sumI g n + g n
    rw [sumI_congr (fun k hk => e k (by omega)), e n (by omega)]
theorem sumI_le {f g : Nat → Int} : ∀ {n : Nat}, (∀ k, k < n → f k ≤ g k) → sumI f n ≤ sumI g n
  | 0, _ => Int.le_refl _
  | n + 1, e => by
    show sumI f n + f n ≤ sumI g n + g n
    have := sumI_le (n := n) (fun k hk => e k (by omega))
    have := e n (by omega)
    omega
theorem sumI_add {f g : Nat → Int} : ∀ {n : Nat}, sumI (fun k => f k + g k) n = sumI f n + sumI g n
  | 0 => rfl
  | n + 1 => by
    show sumI (fun k => f k + g k) n + (f n + g n) = (sumI f n + f n) + (sumI g n + g n)
    rw [sumI_add]; omega
theorem sumI_zero : ∀ {n : Nat}, sumI (fun _ => 0) n = 0
  | 0 => rfl
  | n + 1 => by show sumI (fun _ => 0) n + 0 = 0; rw [sumI_zero]; rfl
theorem sumI_swap {f : Nat → Nat → Int} {m : Nat} : ∀ {n : Nat}, sumI (fun a => sumI (fun b => f a b) m) n = sumI (fun b => sumI (fun a => f a b) n) m
  | 0 => sumI_zero.symm
  | n + 1 => by
    show sumI (fun a => sumI (fun b => f a b) m) n + sumI (fun b => f n b) m = sumI (fun b => sumI (fun a => f a b) n + f n b) m
    rw [sumI_swap, sumI_add]
theorem sumI_none {P : Nat → Prop} [DecidablePred P] {x : Int} : ∀ {n : Nat}, (∀ k, k < n → ¬ P k) → sumI (fun k => if P k then x else 0) n = 0
  | 0, _ => rfl
  | n + 1, e => by
    show sumI (fun k => if P k then x else 0) n + (if P n then x else 0) = 0
    rw [sumI_none (fun k hk => e k (by omega)), if_neg (e n (by omega))]; rfl
theorem sumI_one {P : Nat → Prop} [DecidablePred P] {x : Int} {a : Nat} : ∀ {n : Nat}, a < n → P a → (∀ k, k < n → P k → k = a) → sumI (fun k => if P k then x else 0) n = x
  | 0, h, _, _ => absurd h (by omega)
  | n + 1, h, pa, e => by
    show sumI (fun k => if P k then x else 0) n + (if P n then x else 0) = x
    by_cases c : a = n
    · subst c
      rw [sumI_none (fun k hk pk => by have := e k (by omega) pk; omega), if_pos pa]; omega
    · rw [sumI_one (n := n) (by omega) pa (fun k hk pk => e k (by omega) pk), if_neg (fun pn => c (e n (by omega) pn).symm)]; omega
/-- what other rows may pay is never less -/
theorem BI.best {Ct : Nat → Nat → Int} {N n : Nat} {u v : Nat → Int} {ro : Nat → Nat} (B : BI Ct N n u v ro) {σ τ : Nat → Nat} (hσ : ∀ j, j < n → σ j < N ∧ ro (σ j + 1) = j + 1) (hτ : ∀ j, j < n → τ j < N) (iτ : ∀ j j', j < n → j' < n → τ j = τ j' → j = j') :
    sumI (fun j => Ct j (σ j)) n ≤ sumI (fun j => Ct j (τ j)) n := by
  obtain ⟨b1, b2, b3, b4, b5, b6⟩ := B
  have e1 : sumI (fun j => Ct j (σ j)) n = sumI (fun j => u (j + 1)) n + sumI (fun j => v (σ j + 1)) n := by
    rw [← sumI_add]
    refine sumI_congr (fun j hj => ?_)
    obtain ⟨h1, h2⟩ := hσ j hj
    have := (b2 (σ j + 1) (by omega) (by omega)).2.2.2 (by rw [h2]; omega)
    rw [h2] at this
    have e : Ct (j + 1 - 1) (σ j + 1 - 1) = Ct j (σ j) := by rw [Nat.add_sub_cancel, Nat.add_sub_cancel]
    omega
  have e2 : sumI (fun j => u (j + 1)) n + sumI (fun j => v (τ j + 1)) n ≤ sumI (fun j => Ct j (τ j)) n := by
    rw [← sumI_add]
    refine sumI_le (fun j hj => ?_)
    have := b1 (j + 1) (τ j + 1) (by omega) (by omega) (by omega) (by have := hτ j hj; omega)
    have e : Ct (j + 1 - 1) (τ j + 1 - 1) = Ct j (τ j) := by rw [Nat.add_sub_cancel, Nat.add_sub_cancel]
    omega
  -- both sums of the columns' worths, held against all columns
  have e3 : sumI (fun j => v (σ j + 1)) n = sumI (fun c => v (c + 1)) N := by
    have a1 : sumI (fun j => v (σ j + 1)) n = sumI (fun j => sumI (fun c => if ro (c + 1) = j + 1 then v (c + 1) else 0) N) n := by
      refine sumI_congr (fun j hj => ?_)
      obtain ⟨h1, h2⟩ := hσ j hj
      have : sumI (fun c => if ro (c + 1) = j + 1 then v (c + 1) else 0) N = sumI (fun c => if ro (c + 1) = j + 1 then v (σ j + 1) else 0) N := by
        refine sumI_congr (fun c hc => ?_)
        by_cases q : ro (c + 1) = j + 1
        · have := b4 (c + 1) (σ j + 1) (by omega) (by omega) (by omega) (by omega) (by rw [q, h2]) (by rw [q]; omega)
          rw [if_pos q, if_pos q, this]
        · rw [if_neg q, if_neg q]
      rw [this, sumI_one h1 h2 (fun c hc q => by
        have := b4 (c + 1) (σ j + 1) (by omega) (by omega) (by omega) (by omega) (by rw [q, h2]) (by rw [q]; omega)
        omega)]
    rw [a1, sumI_swap]
    refine sumI_congr (fun c hc => ?_)
    by_cases q : ro (c + 1) = 0
    · rw [sumI_none (fun j hj z => by rw [q] at z; omega), (b2 (c + 1) (by omega) (by omega)).2.2.1 q]
    · have h1 := (b2 (c + 1) (by omega) (by omega)).2.1
      refine sumI_one (a := ro (c + 1) - 1) (by omega) (by omega) (fun j hj z => by omega)
  have e4 : sumI (fun c => v (c + 1)) N ≤ sumI (fun j => v (τ j + 1)) n := by
    have a1 : sumI (fun j => v (τ j + 1)) n = sumI (fun j => sumI (fun c => if τ j = c then v (c + 1) else 0) N) n := by
      refine sumI_congr (fun j hj => ?_)
      have h1 := hτ j hj
      have : sumI (fun c => if τ j = c then v (c + 1) else 0) N = sumI (fun c => if τ j = c then v (τ j + 1) else 0) N := by
        refine sumI_congr (fun c hc => ?_)
        by_cases q : τ j = c
        · rw [if_pos q, if_pos q, q]
        · rw [if_neg q, if_neg q]
      rw [this, sumI_one h1 rfl (fun c hc q => q.symm)]
    rw [a1, sumI_swap]
    refine sumI_le (fun c hc => ?_)
    have v0 := (b2 (c + 1) (by omega) (by omega)).1
    by_cases q : ∃ j, j < n ∧ τ j = c
    · obtain ⟨j, hj, ej⟩ := q
      rw [sumI_one (P := fun j => τ j = c) hj ej (fun j' hj' z => iτ j' j hj' hj (by rw [z, ej]))]
      exact Int.le_refl _
    · rw [sumI_none (P := fun j => τ j = c) (fun j hj z => q ⟨j, hj, z⟩)]
      exact v0
  omega
section SOLVE
variable {h : ZH} {np nm nh : Nat}
theorem CF.le {N n m : Nat} (F : CF (np := np) (nm := nm) (nh := nh) h N n) (q : m ≤ n) : CF (np := np) (nm := nm) (nh := nh) h N m := by
  obtain ⟨S0, cN, N9, N21, n9, cb, cw⟩ := F
  exact ⟨S0, cN, N9, N21, by omega, fun r c hr hc => cb r c (by omega) hc, fun r c hr h1 h2 => cw r c (by omega) h1 h2⟩
set_option maxHeartbeats 2000000 in
theorem s_X2_solve {ψ : ZH → Prop} {N n : Nat} (F : CF (np := np) (nm := nm) (nh := nh) (zsI h 40 7 (nI N)) N n) (k : ∀ H ro, PB (zsI h 40 7 (nI N)) H N ro → BI (Ctt (zsI h 40 7 (nI N))) N n (uH H) (vH H) ro → ψ H) : ZcV mX2_solve [.ref 40, .int (nI n), .int (nI N)] h ψ := by
  have S : Sh h np nm nh := F.1.same (by rw [zK_sI]) (by rw [zN_sI]) (by rw [zR_sI])
  refine wX2_solve ⟨(shPa S).1, ?_⟩
  generalize zsI h 40 7 (nI N) = h0 at F k
  have FF := F
  obtain ⟨S0, cN, N9, N21, n9, cb, cw⟩ := F
  have second : ∀ d m, m + d = n → ∀ H1 ro, PB h0 H1 N ro → BI (Ctt h0) N m (uH H1) (vH H1) ro → (-((m : Int) * 300000000000000) ≤ vH H1 0 ∧ vH H1 0 ≤ 0) → Zt mX2_solve (zPV ψ) 0 0 37 [some (.ref 40), some (.int (nI n)), none, some (.int (nI (m + 1)))] [] H1 := by
    intro d
    induction d with
    | zero =>
      intro m hm H1 ro P B v0
      have : m = n := by omega
      subst this
      exact wX2_solve_37 ⟨fun _ => k H1 ro P B, fun z => absurd (nI_lt (by omega) (by omega)) z⟩
    | succ d ih =>
      intro m hm H1 ro P B v0
      have S1 : Sh H1 np nm nh := S0.same P.1 P.2.1 P.2.2.1
      have nl : ¬ nI n < nI (m + 1) := by rw [nI_lt' (by omega) (by omega)]; omega
      have e1 := nI_clamp (n := m + 1) (by omega)
      have v1 : vp_in (nI (m + 1)) 10 := vp_in_nI (by omega) (by omega)
      refine wX2_solve_37 ⟨fun z => absurd z nl, fun _ => ?_⟩
      simp only [shPa S1, e1, v1, nI_1, ne_eq]
      refine ⟨trivial, by decide, trivial, trivial, ?_⟩
      obtain ⟨p1, p2, p3, p4, p5, p6⟩ := P
      have ev : vH (zsL H1 42 (m + 1) 0) = vH H1 := by funext c; unfold vH; rw [zL_sLn (by omega)]
      have eu : ∀ r, r ≠ m + 1 → uH (zsL H1 42 (m + 1) 0) r = uH H1 r := fun r q => by unfold uH; rw [zL_sLn (by omega)]
      refine s_X2_seat (ro := ro) (FF.le (by omega)) ⟨p1, p2, p3, p4, fun a j q => by rw [zL_sLn (by omega)]; exact p5 a j q, p6⟩ ?_ ?_ ?_ (fun H2 ro' P2 B2 v2 => ih (m + 1) (by omega) H2 ro' P2 B2 ?_)
      · obtain ⟨b1, b2, b3, b4, b5, b6⟩ := B
        rw [ev]
        refine ⟨fun r c g1 g2 g3 g4 => by rw [eu r (by omega)]; exact b1 r c g1 g2 g3 g4, fun c g1 g2 => ?_, fun r g1 g2 => by rw [eu r (by omega)]; exact b3 r g1 g2, b4, b5, b6⟩
        obtain ⟨w1, w2, w3, w4⟩ := b2 c g1 g2
        exact ⟨w1, w2, w3, fun z => by rw [eu _ (by omega)]; exact w4 z⟩
      · unfold uH; rw [zL_sLs]; decide
      · rw [ev]
        refine ⟨?_, v0.2⟩
        have : (m : Int) * 300000000000000 ≤ 9 * 300000000000000 := by omega
        omega
      · rw [ev] at v2
        refine ⟨?_, v2.2⟩
        rw [Int.natCast_add]
        omega
  have first := down (n := N + 1) (I := fun c => ∀ H1, zK H1 = zK h0 → zN H1 = zN h0 → zR H1 = zR h0 → (∀ a j, a ≠ 45 → zI H1 a j = zI h0 a j) → (∀ a j, a ≠ 43 → zL H1 a j = zL h0 a j) → (∀ c', c' < c → zI H1 45 c' = 0 ∧ vH H1 c' = 0) → Zt mX2_solve (zPV ψ) 0 0 7 [some (.ref 40), some (.int (nI n)), none, some (.int (nI c))] [] H1) ?_ ?_
  · exact first h0 rfl rfl rfl (fun _ _ _ => rfl) (fun _ _ _ => rfl) (fun c' hc' => absurd hc' (by omega))
  · intro H1 kk kn kr ki kl g
    have S1 : Sh H1 np nm nh := S0.same kk kn kr
    have cN1 : zI H1 40 7 = nI N := by rw [ki _ _ (by decide), cN]
    refine wX2_solve_7 ⟨(shPa S1).1, fun _ => ?_, fun z => absurd (by rw [cN1]; exact nI_lt (by omega) (by omega)) z⟩
    refine second n 0 (by omega) H1 (fun _ => 0) ⟨kk, kn, kr, fun a j q => ki a j (by omega), fun a j q => kl a j (by omega), fun c _ hc => (g c (by omega)).1⟩ ⟨fun r c g1 g2 => absurd g2 (by omega), fun c g1 g2 => ⟨?_, Nat.le_refl _, fun _ => ?_, fun z => absurd rfl z⟩, fun r g1 g2 => absurd g2 (by omega), fun c c' _ _ _ _ _ z => absurd rfl z, fun r g1 g2 => absurd g2 (by omega), ?_⟩ ?_
    · rw [(g c (by omega)).2]; exact Int.le_refl _
    · exact (g c (by omega)).2
    · exact sumN_zero
    · rw [(g 0 (by omega)).2]; exact ⟨by omega, Int.le_refl _⟩
  · intro c hc ih H1 kk kn kr ki kl g
    have S1 : Sh H1 np nm nh := S0.same kk kn kr
    have cN1 : zI H1 40 7 = nI N := by rw [ki _ _ (by decide), cN]
    have nl : ¬ nI N < nI c := by rw [nI_lt' (by omega) (by omega)]; omega
    have ec := nI_clamp (n := c) (by omega)
    have vc : vp_in (nI c) 22 := vp_in_nI (by omega) (by omega)
    refine wX2_solve_7 ⟨(shPa S1).1, fun z => absurd z (by rw [cN1]; exact nl), fun _ => ?_⟩
    simp only [shPa S1, ec, vc, nI_1, ne_eq]
    refine ⟨by decide, trivial, trivial, by decide, trivial, trivial, ih _ kk kn kr (fun a j q => by rw [zI_sIa q]; exact ki a j q) (fun a j q => by rw [zL_sI', zL_sLn (by omega)]; exact kl a j q) (fun c' hc' => ?_)⟩
    by_cases e : c' = c
    · subst e
      refine ⟨by rw [zI_sIs], ?_⟩
      unfold vH
      rw [zL_sI', zL_sLs]; decide
    · have := g c' (by omega)
      unfold vH at this ⊢
      rw [zI_sIj e, zL_sI', zL_sLn (by omega)]
      exact this
theorem s_X2_columnOf {ψ : Int32 → ZH → Prop} {H : ZH} {N n j : Nat} {ro : Nat → Nat} {Ct : Nat → Nat → Int} {u v : Nat → Int} (S : Sh H np nm nh) (cN : zI H 40 7 = nI N) (hN : 9 ≤ N ∧ N ≤ 21) (hr : ∀ c, 1 ≤ c → c ≤ N → zI H 45 c = nI (ro c)) (B : BI Ct N n u v ro) (hj : j < n) (h9 : n ≤ 9) (k : ∀ c, c < N → ro (c + 1) = j + 1 → ψ (nI c) H) : ZcI mX2_columnOf [.ref 40, .int (nI j)] H ψ := by
  obtain ⟨c0, c1, c2, c3⟩ := B.2.2.2.2.1 (j + 1) (by omega) (by omega)
  have main := down (n := N - 1) (I := fun c => (∀ c', 1 ≤ c' → c' < c + 1 → ro c' ≠ j + 1) → Zt mX2_columnOf (zPI ψ) 0 0 2 [some (.ref 40), some (.int (nI j)), some (.int (nI (c + 1)))] [] H) (fun g => ?_) (fun c hc ih g => ?_)
  · exact wX2_columnOf (main (fun c' h1 h2 => absurd h2 (by omega)))
  · have e : c0 = N := by
      refine Classical.not_not.mp (fun z => ?_)
      exact g c0 c1 (by omega) c3
    refine wX2_columnOf_2 ⟨(shPa S).1, fun _ => ?_, fun z => absurd (by rw [cN]; exact nI_le (by omega) (by omega)) z⟩
    rw [cN]
    obtain ⟨M, rfl⟩ : ∃ M, N = M + 1 := ⟨N - 1, by omega⟩
    rw [nI_pred]
    exact k M (by omega) (by rw [← e]; exact c3)
  · have ec := nI_clamp (n := c + 1) (by omega)
    have vc : vp_in (nI (c + 1)) 22 := vp_in_nI (by omega) (by omega)
    have r9 := (B.2.1 (c + 1) (by omega) (by omega)).2.1
    refine wX2_columnOf_2 ⟨(shPa S).1, fun z => absurd z (by rw [cN]; exact cnt_le (by omega) (by omega)), fun _ => ?_⟩
    simp only [shPa S, ec, vc, hr (c + 1) (by omega) (by omega), nI_1, nI_pred, ne_eq]
    refine ⟨by decide, trivial, trivial, fun z => ih (fun c' h1 h2 e => ?_), fun z => k c (by omega) (nI_inj' (by omega) (by omega) z)⟩
    by_cases ec' : c' = c + 1
    · subst ec'; exact z (by rw [e])
    · exact g c' h1 (by omega) e
end SOLVE
