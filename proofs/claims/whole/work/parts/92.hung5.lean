theorem nI_ex (v : Int32) : ∃ n : Nat, v = nI n := by
  by_cases c : v.toInt < 0
  · refine ⟨(4294967296 + v.toInt).toNat, tI_eq ?_⟩
    have h1 := v.le_toInt
    unfold nI
    rw [Int32.toInt_ofNat', Int.toNat_of_nonneg (by omega), show Int32.size = 4294967296 from rfl, Int.bmod_def]
    omega
  · obtain ⟨t, ht, e⟩ : ∃ t : Nat, t < 2 ^ 31 ∧ v.toInt = t := ⟨v.toInt.toNat, by have := v.toInt_lt; omega, by omega⟩
    exact ⟨t, tI_eq (by rw [nI_toInt ht, e])⟩
section HUNG5
variable {h0 : ZH} {np nm nh : Nat}
/-- the heap between two rows -/
def PB (h0 H : ZH) (N : Nat) (ro : Nat → Nat) : Prop := zK H = zK h0 ∧ zN H = zN h0 ∧ zR H = zR h0 ∧ (∀ a j, ¬ (45 ≤ a ∧ a ≤ 47) → zI H a j = zI h0 a j) ∧ (∀ a j, ¬ (42 ≤ a ∧ a ≤ 44) → zL H a j = zL h0 a j) ∧ ∀ c, 1 ≤ c → c ≤ N → zI H 45 c = nI (ro c)
set_option maxHeartbeats 4000000 in
theorem s_X2_seat {ψ : ZH → Prop} {H : ZH} {N m : Nat} {ro : Nat → Nat} (F : CF (np := np) (nm := nm) (nh := nh) h0 N (m + 1)) (P : PB h0 H N ro) (B : BI (Ctt h0) N m (uH H) (vH H) ro) (u0 : uH H (m + 1) = 0) (b0 : -9000000000000000 ≤ vH H 0 ∧ vH H 0 ≤ 0)
    (k : ∀ H' ro', PB h0 H' N ro' → BI (Ctt h0) N (m + 1) (uH H') (vH H') ro' → (vH H 0 - 300000000000000 ≤ vH H' 0 ∧ vH H' 0 ≤ 0) → ψ H') : ZcV mX2_seat [.ref 40, .int (nI (m + 1))] H ψ := by
  have FF := F
  obtain ⟨S0, cN, N9, N21, n9, cb, cw⟩ := F
  obtain ⟨p1, p2, p3, p4, p5, p6⟩ := P
  obtain ⟨f, f1, f2, f3⟩ := B.free N9 (by omega)
  have f1' : 1 ≤ f := by omega
  refine wX2_seat ?_
  -- the third loop: columns are handed on
  have third : ∀ (Hs : ZH) (cf T : Nat → Nat) (s x0 : Nat), PH h0 Hs N s (ps ro 0 (m + 1)) cf T → SE (Ctt h0) N (m + 1) s x0 (uH Hs) (vH Hs) (sH Hs) (ps ro 0 (m + 1)) cf T → ps ro 0 (m + 1) x0 = 0 → s ≤ N → (vH H 0 - 300000000000000 ≤ vH Hs 0 ∧ vH Hs 0 ≤ 0) → Zt mX2_seat (zPV ψ) 0 0 74 [some (.ref 40), none, some (.int (nI x0)), some (.int 0)] [] Hs := by
    intro Hs cf T s x0 P2 E hx0 hsN v0
    obtain ⟨g1, g2, g3, g4, g5, g6⟩ := P2
    have Ss : Sh Hs np nm nh := S0.same g1 g2 g3
    have loop : ∀ (d : Nat) (x t : Nat) (H1 : ZH) (rc : Nat → Nat), (if x = x0 then s else T x) ≤ d → t + (if x = x0 then s else T x) ≤ s → AU (Ctt h0) N (m + 1) s x0 x (uH Hs) (vH Hs) (ps ro 0 (m + 1)) T rc → zK H1 = zK Hs → zN H1 = zN Hs → zR H1 = zR Hs → zL H1 = zL Hs → (∀ a j, a ≠ 45 → zI H1 a j = zI Hs a j) → (∀ c, c ≤ N → zI H1 45 c = nI (rc c)) → Zt mX2_seat (zPV ψ) 0 0 74 [some (.ref 40), none, some (.int (nI x)), some (.int (nI t))] [] H1 := by
      intro d
      induction d with
      | zero =>
        intro x t H1 rc hd ht A kk kn kr kl ki kc
        have hx : x = 0 := by
          refine Classical.not_not.mp (fun hx => ?_)
          have := (A.next E hx0 hx).2.1
          omega
        subst hx
        have cN1 : zI H1 40 7 = nI N := by rw [ki _ _ (by decide), g4 _ _ (by omega), cN]
        have nl : ¬ nI N < nI t := by rw [nI_lt' (by omega) (by omega)]; omega
        refine wX2_seat_74 ⟨by rw [kk]; exact (shPa Ss).1, fun z => absurd z (by rw [cN1]; exact nl), fun _ => ⟨fun _ => k H1 rc ⟨kk.trans g1, kn.trans g2, kr.trans g3, fun a j q => ?_, fun a j q => ?_, fun c _ hc => kc c hc⟩ ?_ ?_, fun z => absurd rfl z⟩⟩
        · rw [ki a j (by omega)]; exact g4 a j q
        · rw [kl]; exact g5 a j q
        · have w := A.done E hx0 (by rw [← B.2.2.2.2.2]; exact sumN_congr (fun i _ => by rw [ps_n (by omega)]))
          have eu : uH H1 = uH Hs := by funext r; unfold uH; rw [kl]
          have ev : vH H1 = vH Hs := by funext r; unfold vH; rw [kl]
          rw [eu, ev]; exact w
        · unfold vH at v0 ⊢; rw [kl]; exact v0
      | succ d ih =>
        intro x t H1 rc hd ht A kk kn kr kl ki kc
        have S1 : Sh H1 np nm nh := Ss.same kk kn kr
        have cN1 : zI H1 40 7 = nI N := by rw [ki _ _ (by decide), g4 _ _ (by omega), cN]
        have nl : ¬ nI N < nI t := by rw [nI_lt' (by omega) (by omega)]; omega
        have hxN := A.1.1
        by_cases hx : x = 0
        · subst hx
          refine wX2_seat_74 ⟨(shPa S1).1, fun z => absurd z (by rw [cN1]; exact nl), fun _ => ⟨fun _ => k H1 rc ⟨kk.trans g1, kn.trans g2, kr.trans g3, fun a j q => ?_, fun a j q => ?_, fun c _ hc => kc c hc⟩ ?_ ?_, fun z => absurd rfl z⟩⟩
          · rw [ki a j (by omega)]; exact g4 a j q
          · rw [kl]; exact g5 a j q
          · have w := A.done E hx0 (by rw [← B.2.2.2.2.2]; exact sumN_congr (fun i _ => by rw [ps_n (by omega)]))
            have eu : uH H1 = uH Hs := by funext r; unfold uH; rw [kl]
            have ev : vH H1 = vH Hs := by funext r; unfold vH; rw [kl]
            rw [eu, ev]; exact w
          · unfold vH at v0 ⊢; rw [kl]; exact v0
        · obtain ⟨y1, y2, y3, A2⟩ := A.next E hx0 hx
          have ex := nI_clamp (n := x) (by omega)
          have vx : vp_in (nI x) 22 := vp_in_nI (by omega) (by omega)
          have ey := nI_clamp (n := cf x) (by omega)
          have vy : vp_in (nI (cf x)) 22 := vp_in_nI (by omega) (by omega)
          have c6 : zI H1 46 x = nI (cf x) := by rw [ki _ _ (by decide)]; exact (g6 x hxN).2.1
          have x0' : ¬ nI x = 0 := fun z => hx (nI_inj' (b := 0) (by omega) (by omega) z)
          refine wX2_seat_74 ⟨(shPa S1).1, fun z => absurd z (by rw [cN1]; exact nl), fun _ => ⟨fun z => absurd z x0', fun _ => ?_⟩⟩
          simp only [shPa S1, ex, vx, c6, ey, vy, kc (cf x) y1, ne_eq]
          refine ⟨by decide, by decide, trivial, trivial, trivial, trivial, trivial, fun h9 e9 => ?_⟩
          have B1 : zK h9 = zK H1 ∧ zN h9 = zN H1 ∧ zR h9 = zR H1 ∧ zL h9 = zL H1 := by rw [e9]; exact ⟨rfl, rfl, rfl, rfl⟩
          have B2 : ∀ a j, a ≠ 45 → zI h9 a j = zI H1 a j := fun a j q => by rw [e9, zI_sIa q]
          have B3 : ∀ c, c ≤ N → zI h9 45 c = nI (ps rc x (rc (cf x)) c) := fun c hc => by
            rw [e9]
            by_cases e : c = x
            · subst e; rw [zI_sIs, ps_s]
            · rw [zI_sIj e, ps_n e]; exact kc c hc
          clear e9
          have S9 : Sh h9 np nm nh := S1.same B1.1 B1.2.1 B1.2.2.1
          simp only [shPa S9, vx, B2 46 x (by decide), c6, nI_1]
          refine ⟨trivial, trivial, fun v13 e13 => ?_⟩
          subst e13
          have dd : (if cf x = x0 then s else T (cf x)) = T (cf x) := if_neg y3
          refine ih (cf x) (t + 1) h9 (ps rc x (rc (cf x))) (by rw [dd]; omega) (by rw [dd]; omega) A2 (B1.1.trans kk) (B1.2.1.trans kn) (B1.2.2.1.trans kr) (B1.2.2.2.trans kl) (fun a j q => by rw [B2 a j q]; exact ki a j q) B3
    exact loop s x0 0 Hs (ps ro 0 (m + 1)) (by rw [if_pos rfl]; exact Nat.le_refl _) (by rw [if_pos rfl]; omega) (AU.start E hx0 (fun r r1 r2 => by
      obtain ⟨c, c1, c2, c3⟩ := B.2.2.2.2.1 r r1 r2
      exact ⟨c, c1, c2, by rw [ps_n (by omega)]; exact c3⟩)) rfl rfl rfl rfl (fun _ _ _ => rfl) (fun c hc => (g6 c hc).1)
  -- the second loop: columns are reached
  have second : ∀ (d s x : Nat) (H1 : ZH) (cf T : Nat → Nat), s + d = N + 1 → PH h0 H1 N s (ps ro 0 (m + 1)) cf T → SE (Ctt h0) N (m + 1) s x (uH H1) (vH H1) (sH H1) (ps ro 0 (m + 1)) cf T → sumN (fun c => if T c < s then 1 else 0) (N + 1) = s → (0 < s → T 0 < s) → vH H1 0 + uH H1 (m + 1) = vH H 0 → Zt mX2_seat (zPV ψ) 0 0 43 [some (.ref 40), none, some (.int (nI x)), some (.int (nI s))] [] H1 := by
    intro d
    induction d with
    | zero =>
      intro s x H1 cf T hd P1 E1 ct z0 vv
      exfalso
      have w := sumN_lt (f := fun c => if T c < s then 1 else 0) (x := f) (n := N + 1) (fun c => by
        show (if T c < s then 1 else 0) ≤ 1
        by_cases e : T c < s
        · rw [if_pos e]; exact Nat.le_refl _
        · rw [if_neg e]; omega) (by
        show (if T f < s then 1 else 0) = 0
        rw [if_neg (fun z => ((E1.2.2.2.2.1 f f2).2 z).1 (by rw [ps_n (by omega)]; exact f3))]) (by omega)
      omega
    | succ d ih =>
      intro s x H1 cf T hd P1 E1 ct z0 vv
      have S1 : Sh H1 np nm nh := S0.same P1.1 P1.2.1 P1.2.2.1
      have hxN := E1.2.2.2.2.2.1.1
      have cN1 : zI H1 40 7 = nI N := by rw [P1.2.2.2.1 _ _ (by omega), cN]
      have nl : ¬ nI N < nI s := by rw [nI_lt' (by omega) (by omega)]; omega
      have ex := nI_clamp (n := x) (by omega)
      have vx : vp_in (nI x) 22 := vp_in_nI (by omega) (by omega)
      have ub := (E1.bd (W := 300000000000000) (f := f) f1' f2 (by rw [ps_n (by omega)]; exact f3) (fun r hr => cw r (f - 1) hr (by omega) (by omega)) (fun r c hr hc => (cb r c hr hc).1)).1 (m + 1) (by omega) (Nat.le_refl _)
      have ul := E1.2.2.1 (m + 1) (by omega) (Nat.le_refl _)
      refine wX2_seat_43 ⟨(shPa S1).1, fun z => absurd z (by rw [cN1]; exact nl), fun _ => ?_⟩
      simp only [shPa S1, ex, vx, (P1.2.2.2.2.2 x hxN).1, nI_1, ne_eq]
      have r9 : ps ro 0 (m + 1) x ≤ m + 1 := by
        by_cases e : ps ro 0 (m + 1) x = 0
        · omega
        · exact (E1.row hxN e).2
      refine ⟨by decide, trivial, trivial, fun z => ?_, fun z => ?_⟩
      · exact third H1 cf T s x P1 E1 (nI_inj' (b := 0) (by omega) (by omega) z) (by omega) ⟨by omega, by omega⟩
      · have hx : ps ro 0 (m + 1) x ≠ 0 := fun e => z (by rw [e]; rfl)
        have hxs : s ≤ T x := E1.2.2.2.2.2.1.2.1
        refine s_X2_reach (f := f) FF P1 E1 (by omega) hx ⟨by omega, f2, by rw [ps_n (by omega)]; exact f3⟩ z0 ⟨by omega, by omega⟩ (fun H2 y cf' P2 E2 vv2 => ?_)
        refine ih (s + 1) y H2 cf' (ps T x s) (by omega) P2 E2 ?_ (fun _ => ?_) (by omega)
        · refine Eq.trans (sumN_inc (f := fun c => if T c < s then 1 else 0) (x := x) (by omega) (fun c hc ne => ?_) ?_) (by rw [ct])
          · show (if ps T x s c < s + 1 then 1 else 0) = if T c < s then 1 else 0
            rw [ps_n ne]
            have := (E1.2.2.2.2.1 c (by omega)).1
            by_cases e : T c < s
            · rw [if_pos e, if_pos (by omega)]
            · rw [if_neg e, if_neg (by omega)]
          · show (if ps T x s x < s + 1 then 1 else 0) = (if T x < s then 1 else 0) + 1
            rw [ps_s, if_pos (by omega), if_neg (by omega)]
        · by_cases e : s = 0
          · have := E1.2.2.2.2.2.1.2.2.1 e
            subst this
            rw [ps_s]; omega
          · by_cases e2 : x = 0
            · subst e2; rw [ps_s]; omega
            · rw [ps_n (fun z => e2 z.symm)]
              have := z0 (by omega)
              omega
  -- the first loop: nothing is reached
  have first := down (n := N + 1) (I := fun c => ∀ H1, zK H1 = zK H → zN H1 = zN H → zR H1 = zR H → (∀ a j, a ≠ 47 → zI H1 a j = zI H a j) → (∀ a j, a ≠ 44 → zL H1 a j = zL H a j) → (∀ c', c' < c → zI H1 47 c' = 0 ∧ sH H1 c' = 4000000000000000000) → Zt mX2_seat (zPV ψ) 0 0 2 [some (.ref 40), some (.int (nI (m + 1))), some (.int (nI c)), none] [] H1) ?_ ?_
  · exact first H rfl rfl rfl (fun _ _ _ => rfl) (fun _ _ _ => rfl) (fun c' hc' => absurd hc' (by omega))
  · intro H1 kk kn kr ki kl g
    have S1 : Sh H1 np nm nh := S0.same (kk.trans p1) (kn.trans p2) (kr.trans p3)
    have cN1 : zI H1 40 7 = nI N := by rw [ki _ _ (by decide), p4 _ _ (by omega), cN]
    refine wX2_seat_2 ⟨(shPa S1).1, fun _ => ?_, fun z => absurd (by rw [cN1]; exact nI_lt (by omega) (by omega)) z⟩
    simp only [shPa S1, ne_eq]
    refine ⟨by decide, trivial, by decide, ?_⟩
    have eu : uH H1 = uH H := by funext r; unfold uH; rw [kl _ _ (by decide)]
    have ev : vH H1 = vH H := by funext r; unfold vH; rw [kl _ _ (by decide)]
    refine second (N + 1) 0 0 (zsI H1 45 0 (nI (m + 1))) (fun c => (nI_ex (zI H1 46 c)).choose) (fun _ => 1000) (by omega) ⟨kk.trans p1, kn.trans p2, kr.trans p3, fun a j q => ?_, fun a j q => ?_, fun c hc => ⟨?_, ?_, ?_⟩⟩ ?_ ?_ (fun z => absurd z (by omega)) ?_
    · rw [zI_sIa (by omega), ki a j (by omega)]; exact p4 a j q
    · rw [zL_sI', kl a j (by omega)]; exact p5 a j q
    · by_cases e : c = 0
      · subst e; rw [zI_sIs, ps_s]
      · rw [zI_sIj e, ps_n e, ki _ _ (by decide)]; exact p6 c (by omega) hc
    · rw [zI_sIa (by decide)]; exact (nI_ex (zI H1 46 c)).choose_spec
    · rw [zI_sIa (by decide), (g c (by omega)).1, zb_f (by omega)]
    · show SE (Ctt h0) N (m + 1) 0 0 (uH H1) (vH H1) (sH H1) _ _ _
      rw [eu, ev]
      exact B.start u0 (fun c hc => (cb m c (by omega) hc).1) (fun c h1 h2 => (g c (by omega)).2)
    · have : (fun c => if (fun _ => 1000) c < 0 then 1 else 0) = fun _ : Nat => 0 := by funext c; rw [if_neg (by omega)]
      rw [this, sumN_zero]
    · show vH H1 0 + uH H1 (m + 1) = vH H 0
      rw [eu, ev, u0]; omega
  · intro c hc ih H1 kk kn kr ki kl g
    have S1 : Sh H1 np nm nh := S0.same (kk.trans p1) (kn.trans p2) (kr.trans p3)
    have cN1 : zI H1 40 7 = nI N := by rw [ki _ _ (by decide), p4 _ _ (by omega), cN]
    have nl : ¬ nI N < nI c := by rw [nI_lt' (by omega) (by omega)]; omega
    have ec := nI_clamp (n := c) (by omega)
    have vc : vp_in (nI c) 22 := vp_in_nI (by omega) (by omega)
    refine wX2_seat_2 ⟨(shPa S1).1, fun z => absurd z (by rw [cN1]; exact nl), fun _ => ?_⟩
    simp only [shPa S1, ec, vc, nI_1, ne_eq]
    refine ⟨by decide, trivial, trivial, by decide, trivial, trivial, ih _ kk kn kr (fun a j q => by rw [zI_sIa q]; exact ki a j q) (fun a j q => by rw [zL_sI', zL_sLn (by omega)]; exact kl a j q) (fun c' hc' => ?_)⟩
    by_cases e : c' = c
    · subst e
      refine ⟨by rw [zI_sIs], ?_⟩
      unfold sH
      rw [zL_sI', zL_sLs]; decide
    · have := g c' (by omega)
      unfold sH at this ⊢
      rw [zI_sIj e, zL_sI', zL_sLn (by omega)]
      exact this
end HUNG5
