theorem tL_of {x : Int} (h1 : -9223372036854775808 ≤ x) (h2 : x < 9223372036854775808) : x.bmod (2 ^ 64) = x := Int.bmod_eq_of_le (by omega) (by omega)
theorem tL_sub {a b : Int64} (h1 : -9223372036854775808 ≤ a.toInt - b.toInt) (h2 : a.toInt - b.toInt < 9223372036854775808) : (a - b).toInt = a.toInt - b.toInt := by rw [Int64.toInt_sub, tL_of h1 h2]
theorem tL_add {a b : Int64} (h1 : -9223372036854775808 ≤ a.toInt + b.toInt) (h2 : a.toInt + b.toInt < 9223372036854775808) : (a + b).toInt = a.toInt + b.toInt := by rw [Int64.toInt_add, tL_of h1 h2]
theorem tL_lt {a b : Int64} : a < b ↔ a.toInt < b.toInt := Int64.lt_iff_toInt_lt
theorem zL_sLs {h : ZH} {a j : Nat} {v : Int64} : zL (zsL h a j v) a j = v := if_pos ⟨rfl, rfl⟩
theorem zL_sLn {h : ZH} {a i b j : Nat} {v : Int64} (e : ¬ (b = a ∧ j = i)) : zL (zsL h a i v) b j = zL h b j := if_neg e
theorem zL_sI' {h : ZH} {a j : Nat} {v : Int32} : zL (zsI h a j v) = zL h := rfl
theorem zI_sL' {h : ZH} {a j : Nat} {v : Int64} : zI (zsL h a j v) = zI h := rfl
theorem zK_sL' {h : ZH} {a j : Nat} {v : Int64} : zK (zsL h a j v) = zK h := rfl
theorem zN_sL' {h : ZH} {a j : Nat} {v : Int64} : zN (zsL h a j v) = zN h := rfl
theorem zR_sL' {h : ZH} {a j : Nat} {v : Int64} : zR (zsL h a j v) = zR h := rfl
def uH (H : ZH) (r : Nat) : Int := (zL H 42 r).toInt
def vH (H : ZH) (c : Nat) : Int := (zL H 43 c).toInt
def sH (H : ZH) (c : Nat) : Int := (zL H 44 c).toInt
theorem nI_lt' {a b : Nat} (ha : a < 2 ^ 31) (hb : b < 2 ^ 31) : (nI a < nI b) ↔ a < b := by rw [tI_lt, nI_toInt ha, nI_toInt hb]; omega
section HUNG
variable {h : ZH} {np nm nh : Nat}
set_option maxHeartbeats 2000000 in
theorem s_X2_shift {ψ : ZH → Prop} {H : ZH} {N : Nat} {ro : Nat → Nat} {b : Int64} (S : Sh H np nm nh) (hN : N ≤ 21) (cN : zI H 40 7 = nI N) (hr : ∀ c, c ≤ N → zI H 45 c = nI (ro c) ∧ ro c ≤ 9)
    (inj : ∀ c c', c ≤ N → c' ≤ N → ¬ zI H 47 c = 0 → ¬ zI H 47 c' = 0 → ro c = ro c' → c = c')
    (b1 : ∀ c, c ≤ N → ¬ zI H 47 c = 0 → -9223372036854775808 ≤ uH H (ro c) + b.toInt ∧ uH H (ro c) + b.toInt < 9223372036854775808 ∧ -9223372036854775808 ≤ vH H c - b.toInt ∧ vH H c - b.toInt < 9223372036854775808)
    (b2 : ∀ c, 1 ≤ c → c ≤ N → zI H 47 c = 0 → -9223372036854775808 ≤ sH H c - b.toInt ∧ sH H c - b.toInt < 9223372036854775808)
    (k : ∀ H1, zK H1 = zK H → zN H1 = zN H → zR H1 = zR H → zI H1 = zI H → (∀ a j, ¬ (42 ≤ a ∧ a ≤ 44) → zL H1 a j = zL H a j) →
      (∀ c, c ≤ N → ¬ zI H 47 c = 0 → uH H1 (ro c) = uH H (ro c) + b.toInt ∧ vH H1 c = vH H c - b.toInt) → (∀ r, (∀ c, c ≤ N → ¬ zI H 47 c = 0 → ro c ≠ r) → uH H1 r = uH H r) → (∀ c, c ≤ N → zI H 47 c = 0 → vH H1 c = vH H c ∧ (1 ≤ c → sH H1 c = sH H c - b.toInt)) → ψ H1) : ZcV mX2_shiftWorths [.ref 40, .long b] H ψ := by
  refine wX2_shiftWorths ?_
  have main := down (n := N + 1) (I := fun n => ∀ H1, zK H1 = zK H → zN H1 = zN H → zR H1 = zR H → zI H1 = zI H → (∀ a j, ¬ (42 ≤ a ∧ a ≤ 44) → zL H1 a j = zL H a j) →
      (∀ c, c < n → ¬ zI H 47 c = 0 → uH H1 (ro c) = uH H (ro c) + b.toInt ∧ vH H1 c = vH H c - b.toInt) → (∀ r, (∀ c, c < n → ¬ zI H 47 c = 0 → ro c ≠ r) → uH H1 r = uH H r) → (∀ c, c < n → zI H 47 c = 0 → vH H1 c = vH H c ∧ (1 ≤ c → sH H1 c = sH H c - b.toInt)) → (∀ c, n ≤ c → c ≤ N → vH H1 c = vH H c ∧ sH H1 c = sH H c) →
      Zt mX2_shiftWorths (zPV ψ) 0 0 2 [some (.ref 40), some (.long b), none, some (.int (nI n))] [] H1) ?_ ?_
  · exact main H rfl rfl rfl rfl (fun _ _ _ => rfl) (fun c hc => absurd hc (by omega)) (fun _ _ => rfl) (fun c hc => absurd hc (by omega)) (fun _ _ _ => ⟨rfl, rfl⟩)
  · intro H1 kk kn kr ki kl g1 g2 g3 g4
    refine wX2_shiftWorths_2 ⟨by rw [kk]; exact (shPa S).1, fun _ => k H1 kk kn kr ki kl (fun c hc => g1 c (by omega)) (fun r q => g2 r (fun c hc => q c (by omega))) (fun c hc => g3 c (by omega)), fun z => absurd ?_ z⟩
    rw [ki, cN]; exact nI_lt (by omega) (by omega)
  · intro n hn ih H1 kk kn kr ki kl g1 g2 g3 g4
    have S1 : Sh H1 np nm nh := S.same kk kn kr
    have e1 := nI_clamp (n := n) (by omega)
    have v1 : vp_in (nI n) 22 := vp_in_nI (by omega) (by omega)
    obtain ⟨r1, r2⟩ := hr n (by omega)
    have e2 := nI_clamp (n := ro n) (by omega)
    have v2 : vp_in (nI (ro n)) 10 := vp_in_nI (by omega) (by omega)
    have nl : ¬ nI N < nI n := by rw [nI_lt' (by omega) (by omega)]; omega
    refine wX2_shiftWorths_2 ?_
    simp only [ki, shPa S1, cN, e1, v1, r1, e2, v2, nI_1, ne_eq]
    refine ⟨trivial, Bf nl ⟨by decide, trivial, trivial, fun z => ⟨by decide, trivial, trivial, ?_⟩, fun z => ⟨by decide, by decide, trivial, trivial, trivial, trivial, by decide, fun a1 ea => ?_⟩⟩⟩
    · have sv : sH H1 n = sH H n := (g4 n (by omega) (by omega)).2
      refine ih _ (by rw [zK_sL']; exact kk) (by rw [zN_sL']; exact kn) (by rw [zR_sL']; exact kr) (by rw [zI_sL']; exact ki) (fun a j q => by rw [zL_sLn (by omega)]; exact kl a j q) (fun c hc z2 => ?_) (fun r q => ?_) (fun c hc z2 => ?_) (fun c hc hc' => ?_)
      · have : c ≠ n := fun e => z2 (by rw [e]; exact z)
        have := g1 c (by omega) z2
        unfold uH vH at this ⊢
        rw [zL_sLn (by omega), zL_sLn (by omega)]
        exact this
      · have := g2 r (fun c hc => q c (by omega))
        unfold uH at this ⊢
        rw [zL_sLn (by omega)]
        exact this
      · by_cases e : c = n
        · subst e
          have gv := (g4 c (by omega) (by omega)).1
          unfold vH at gv
          unfold sH at sv
          unfold vH sH
          rw [zL_sLn (by omega), zL_sLs]
          refine ⟨gv, fun h1 => ?_⟩
          have bb := b2 c h1 (by omega) z
          unfold sH at bb
          rw [tL_sub (by rw [sv]; exact bb.1) (by rw [sv]; exact bb.2), sv]
        · have := g3 c (by omega) z2
          unfold vH sH at this ⊢
          rw [zL_sLn (by omega), zL_sLn (by omega)]
          exact this
      · have := g4 c (by omega) hc'
        unfold vH sH at this ⊢
        rw [zL_sLn (by omega), zL_sLn (by omega)]
        exact this
    · have gu : uH H1 (ro n) = uH H (ro n) := g2 (ro n) (fun c hc z2 e => by
        have := inj c n (by omega) (by omega) z2 z e
        omega)
      have gv := (g4 n (by omega) (by omega)).1
      obtain ⟨bb1, bb2, bb3, bb4⟩ := b1 n (by omega) z
      have A1 : ∀ a j, ¬ (a = 42 ∧ j = ro n) → zL a1 a j = zL H1 a j := fun a j q => by rw [ea, zL_sLn q]
      have A2 : (zL a1 42 (ro n)).toInt = uH H (ro n) + b.toInt := by
        unfold uH at gu bb1 bb2 ⊢
        rw [ea, zL_sLs, tL_add (by rw [gu]; exact bb1) (by rw [gu]; exact bb2), gu]
      have A3 : zK a1 = zK H1 ∧ zN a1 = zN H1 ∧ zR a1 = zR H1 ∧ zI a1 = zI H1 := by rw [ea]; exact ⟨rfl, rfl, rfl, rfl⟩
      clear ea
      rw [A3.1, A3.2.1, (shPa S1).2.2.2.2.2.2.2.2.2.2.2.2.2.2.2.2.2.2.2.2.2.1, (shPa S1).2.2.2.2.2.2.2.2.2.2.2.2.2.2.2.2.2.2.2.2.2.2.1]
      refine ⟨rfl, v1, ih _ (by rw [zK_sL', A3.1]; exact kk) (by rw [zN_sL', A3.2.1]; exact kn) (by rw [zR_sL', A3.2.2.1]; exact kr) (by rw [zI_sL', A3.2.2.2]; exact ki) (fun a j q => by rw [zL_sLn (by omega), A1 _ _ (by omega)]; exact kl a j q) (fun c hc z2 => ?_) (fun r q => ?_) (fun c hc z2 => ?_) (fun c hc hc' => ?_)⟩
      · by_cases e : c = n
        · subst e
          unfold vH at gv
          unfold uH vH
          rw [zL_sLn (by omega), zL_sLs, A1 43 c (by omega)]
          refine ⟨A2, ?_⟩
          unfold vH at bb3 bb4
          rw [tL_sub (by rw [gv]; exact bb3) (by rw [gv]; exact bb4), gv]
        · have nr : ro c ≠ ro n := fun e2 => e (inj c n (by omega) (by omega) z2 z e2)
          have := g1 c (by omega) z2
          unfold uH vH at this ⊢
          rw [zL_sLn (by omega), zL_sLn (by omega), A1 _ _ (by omega), A1 _ _ (by omega)]
          exact this
      · have nr : ro n ≠ r := q n (by omega) z
        have := g2 r (fun c hc => q c (by omega))
        unfold uH at this ⊢
        rw [zL_sLn (by omega), A1 _ _ (by omega)]
        exact this
      · have ne : c ≠ n := fun e => z (by rw [← e]; exact z2)
        have := g3 c (by omega) z2
        unfold vH sH at this ⊢
        rw [zL_sLn (by omega), zL_sLn (by omega), A1 _ _ (by omega), A1 _ _ (by omega)]
        exact this
      · have := g4 c (by omega) hc'
        unfold vH sH at this ⊢
        rw [zL_sLn (by omega), zL_sLn (by omega), A1 _ _ (by omega), A1 _ _ (by omega)]
        exact this
end HUNG
