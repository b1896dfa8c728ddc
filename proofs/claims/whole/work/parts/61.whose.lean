/-! sets of pits as bits -/
def bsN (b : Nat → Prop) [DecidablePred b] : Nat → Nat
  | 0 => 0
  | n + 1 => if b n then bsN b n ||| 2 ^ n else bsN b n
abbrev fBs (b : Nat → Prop) [DecidablePred b] : Nat → Int32 → Int32 := fun p a => if b p then a ||| ((1 : Int32) <<< (nI p &&& 31)) else a
theorem bsN_lt {b : Nat → Prop} [DecidablePred b] : ∀ n, bsN b n < 2 ^ n
  | 0 => by unfold bsN; exact Nat.one_pos
  | n + 1 => by
    have := bsN_lt (b := b) n
    unfold bsN
    by_cases c : b n
    · rw [if_pos c]
      exact Nat.or_lt_two_pow (by rw [Nat.pow_succ]; omega) (by rw [Nat.pow_succ]; have := Nat.two_pow_pos n; omega)
    · rw [if_neg c, Nat.pow_succ]; omega
theorem bsN_bit {b : Nat → Prop} [DecidablePred b] : ∀ n p, (bsN b n).testBit p = true ↔ p < n ∧ b p
  | 0, p => by unfold bsN; simp
  | n + 1, p => by
    unfold bsN
    have ih := bsN_bit (b := b) n p
    by_cases c : b n
    · rw [if_pos c, Nat.testBit_or, Bool.or_eq_true, ih, Nat.testBit_two_pow]
      constructor
      · rintro (q | q)
        · exact ⟨by omega, q.2⟩
        · have : n = p := of_decide_eq_true q
          subst this
          exact ⟨by omega, c⟩
      · rintro ⟨q1, q2⟩
        by_cases e : p = n
        · right; exact decide_eq_true e.symm
        · left; exact ⟨by omega, q2⟩
    · rw [if_neg c, ih]
      constructor
      · rintro ⟨q1, q2⟩; exact ⟨by omega, q2⟩
      · rintro ⟨q1, q2⟩
        by_cases e : p = n
        · subst e; exact absurd q2 c
        · exact ⟨by omega, q2⟩
theorem bit_or' {a p : Nat} (ha : a < 256) (hp : p < 8) : nI a ||| ((1 : Int32) <<< (nI p &&& 31)) = nI (a ||| 2 ^ p) := by
  have : ∀ p, p < 8 → ∀ a, a < 256 → nI a ||| ((1 : Int32) <<< (nI p &&& 31)) = nI (a ||| 2 ^ p) := by decide +kernel
  exact this p hp a ha
theorem fBs_N {b : Nat → Prop} [DecidablePred b] : ∀ n, n ≤ 8 → fold (fBs b) n = nI (bsN b n)
  | 0, _ => rfl
  | n + 1, hn => by
    have ih := fBs_N (b := b) n (by omega)
    have h1 := bsN_lt (b := b) n
    have h2 : 2 ^ n ≤ 256 := by
      have := Nat.pow_le_pow_right (n := 2) (by omega) (show n ≤ 8 by omega)
      omega
    show (if b n then fold (fBs b) n ||| _ else fold (fBs b) n) = _
    unfold bsN
    by_cases c : b n
    · rw [if_pos c, if_pos c, ih, bit_or' (by omega) (by omega)]
    · rw [if_neg c, if_neg c, ih]
theorem bit_get {a p : Nat} (ha : a < 256) (hp : p < 8) : ((nI a >>> (nI p &&& 31)) &&& 1) = if a.testBit p then 1 else 0 := by
  have : ∀ p, p < 8 → ∀ a, a < 256 → ((nI a >>> (nI p &&& 31)) &&& 1) = if a.testBit p then 1 else 0 := by decide +kernel
  exact this p hp a ha
theorem bit_low {a p : Nat} (ha : a < 256) (hp : p < 8) : (nI a &&& (((1 : Int32) <<< (nI p &&& 31)) - 1)) = 0 ↔ ∀ q, q < p → a.testBit q = false := by
  have : ∀ p, p < 8 → ∀ a, a < 256 → ((nI a &&& (((1 : Int32) <<< (nI p &&& 31)) - 1)) = 0 ↔ ∀ q, q < p → a.testBit q = false) := by decide +kernel
  exact this p hp a ha
theorem fBs_get {b : Nat → Prop} [DecidablePred b] {n p : Nat} (hn : n ≤ 8) (hp : p < n) : ((fold (fBs b) n >>> (nI p &&& 31)) &&& 1) = zb (b p) := by
  have h1 := bsN_lt (b := b) n
  have h2 := Nat.pow_le_pow_right (n := 2) (by omega) hn
  rw [fBs_N n hn, bit_get (by omega) (by omega)]
  by_cases c : b p
  · rw [if_pos ((bsN_bit n p).mpr ⟨hp, c⟩), zb_t c]
  · rw [if_neg (fun q => c ((bsN_bit n p).mp q).2), zb_f c]
theorem fBs_low {b : Nat → Prop} [DecidablePred b] {n p : Nat} (hn : n ≤ 8) (hp : p < n) : (fold (fBs b) n &&& (((1 : Int32) <<< (nI p &&& 31)) - 1)) = 0 ↔ ∀ q, q < p → ¬ b q := by
  have h1 := bsN_lt (b := b) n
  have h2 := Nat.pow_le_pow_right (n := 2) (by omega) hn
  rw [fBs_N n hn, bit_low (by omega) (by omega)]
  constructor
  · intro k q hq c
    have := k q hq
    rw [(bsN_bit n q).mpr ⟨by omega, c⟩] at this
    exact absurd this (by decide)
  · intro k q hq
    cases e : (bsN b n).testBit q with
    | false => rfl
    | true => exact absurd ((bsN_bit n q).mp e).2 (k q hq)
section WHOSE
variable {h : ZH} {ψ : Int32 → ZH → Prop} {np nm nh : Nat}
theorem s_X11_whoseOf {k : Nat} (S : Sh h np nm nh) (P : JP h np) (X : JH h nh) (hn : np ≤ 8) (c : zI h 200 9 = nI np) (hn2 : nh ≤ 10) (hk : k < nh) (e : ψ (fold (fBs (cb h k)) np) h) : ZcI mX11_whoseOf [.ref 200, .int (nI k)] h ψ := by
  refine wX11_whoseOf (down (I := fun j => Zt mX11_whoseOf (zPI ψ) 0 0 4 [some (.ref 200), some (.int (nI k)), some (.int (fold (fBs (cb h k)) j)), some (.int (nI j))] [] h) (n := np) ?_ (fun p hp q => ?_))
  · refine wX11_whoseOf_4 ?_
    rw [c]
    exact ⟨(shM S).1, fun _ => e, fun q => absurd (Int32.le_refl _) q⟩
  · refine wX11_whoseOf_4 ⟨(shM S).1, fun z => absurd z (by rw [c]; exact cnt_le (by omega) hp), fun _ => s_X11_canBe S P X hn hn2 hk hp ?_⟩
    have ef : fold (fBs (cb h k)) (p + 1) = if cb h k p then fold (fBs (cb h k)) p ||| ((1 : Int32) <<< (nI p &&& 31)) else fold (fBs (cb h k)) p := rfl
    rw [nI_1, i_or0]
    refine ⟨fun z => ?_, fun z => ?_⟩
    · rw [ef, if_neg (zb_eq0.mp z)] at q; exact q
    · rw [ef, if_pos (Classical.not_not.mp (fun x => z (zb_eq0.mpr x)))] at q; exact q
variable {i L : Nat} {xs : Nat → Int32}
set_option maxHeartbeats 4000000 in
theorem op_whose {l1 : Int32} (J : Jx h i L xs) : ZcI mX10_whose [.ref 10, .int l1] h (fun v h1 => ZcI mX11_whose [.ref 200, .int l1] h1 (fun v' h2 => v = v' ∧ Jx h2 (i + 1) L xs)) := by
  have J0 := J
  obtain ⟨np, nm, nh, nw, ns, mo, ⟨S, C, T, P, M, St, G, R, W, V, X⟩, q1, q2⟩ := J
  have kX : zK h 10 = 11 := (shX S).1
  have kM : zK h 200 = 12 := (shM S).1
  have cp := C.1
  have cm := C.2.1
  have ch := C.2.2.1
  have cw := C.2.2.2.1
  have cs := C.2.2.2.2.1
  have b1 : np < 2 ^ 31 := by omega
  have b2 : nm < 2 ^ 31 := by omega
  have b3 : nh < 2 ^ 31 := by omega
  by_cases c1 : 0 ≤ l1 ∧ l1 ≤ nI nh - 1
  rotate_left
  · exact wX10_whose ⟨kX, X10_harm_f kX ch.2.1 c1 (N0 (wX11_whose ⟨kM, X11_harm_f kM ch.1 c1 (Z0 ⟨rfl, J0.up⟩)⟩))⟩
  obtain ⟨k, hk, rfl⟩ := in_cnt b3 c1
  refine wX10_whose ⟨kX, X10_harm_t kX ch.2.1 b3 hk (N1 ?_)⟩
  refine down (I := fun j => Zt mX10_whose (zPI (fun v h1 => ZcI mX11_whose [.ref 200, .int (nI k)] h1 (fun v' h2 => v = v' ∧ Jx h2 (i + 1) L xs))) 0 0 14 [some (.ref 10), some (.int (nI k)), some (.int (fold (fBs (cb h k)) j)), some (.int (nI j))] [] h) (n := np) ?_ (fun p hp q => ?_)
  · refine wX10_whose_14 ⟨kX, fun _ => ?_, fun q => absurd (by rw [cp.2.1]; exact Int32.le_refl _) q⟩
    exact wX11_whose ⟨kM, X11_harm_t kM ch.1 b3 hk (Z1 ⟨kM, s_X11_whoseOf S P X cp.2.2.2 cp.1 ch.2.2 hk ⟨rfl, J0.up⟩⟩)⟩
  · refine wX10_whose_14 ⟨kX, fun z => absurd z (by rw [cp.2.1]; exact cnt_le b1 hp), fun _ => ?_⟩
    have e2 := nI_clamp (n := k) (by omega)
    have v2 : vp_in (nI k) 10 := vp_in_nI (by omega) (by omega)
    have hk1 := shHarm S hk
    have ef : fold (fBs (cb h k)) (p + 1) = if cb h k p then fold (fBs (cb h k)) p ||| ((1 : Int32) <<< (nI p &&& 31)) else fold (fBs (cb h k)) p := rfl
    simp only [shX S, hk1, e2, v2, ne_eq]
    refine ⟨by decide, trivial, trivial, by omega, s_X10_canBe S P X St cp.2.2.2 hk hp ?_⟩
    rw [nI_1]
    refine ⟨fun z => ?_, fun z => ?_⟩
    · rw [ef, if_neg (zb_eq0.mp z)] at q; exact q
    · rw [ef, if_pos (Classical.not_not.mp (fun x => z (zb_eq0.mpr x)))] at q; exact q
end WHOSE
