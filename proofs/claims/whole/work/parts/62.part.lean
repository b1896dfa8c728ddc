/-! the part of a harm -/
def fFst (b : Nat → Prop) [DecidablePred b] : Nat → Int32
  | 0 => -6
  | n + 1 => if b n ∧ fFst b n = -6 then nI n else fFst b n
theorem nI_ne6 {n : Nat} (hn : n < 2 ^ 31) : nI n ≠ -6 := fun e => by
  have := congrArg Int32.toInt e
  rw [nI_toInt hn] at this
  have h2 : (-6 : Int32).toInt = -6 := by decide
  omega
theorem nI_inj' {a b : Nat} (ha : a < 2 ^ 31) (hb : b < 2 ^ 31) (e : nI a = nI b) : a = b := by
  have := congrArg Int32.toInt e
  rw [nI_toInt ha, nI_toInt hb] at this
  omega
theorem fFst_none {b : Nat → Prop} [DecidablePred b] : ∀ n, n ≤ 8 → (fFst b n = -6 ↔ ∀ q, q < n → ¬ b q)
  | 0, _ => ⟨fun _ q hq => by omega, fun _ => rfl⟩
  | n + 1, hn => by
    have ih := fFst_none (b := b) n (by omega)
    unfold fFst
    by_cases c : b n ∧ fFst b n = -6
    · rw [if_pos c]
      exact ⟨fun e => absurd e (nI_ne6 (by omega)), fun k => absurd c.1 (k n (by omega))⟩
    · rw [if_neg c, ih]
      constructor
      · intro k q hq
        by_cases e : q = n
        · subst e; exact fun z => c ⟨z, ih.mpr k⟩
        · exact k q (by omega)
      · intro k q hq; exact k q (by omega)
theorem fFst_is {b : Nat → Prop} [DecidablePred b] {p : Nat} (hb : b p) : ∀ n, n ≤ 8 → p < n → (nI p = fFst b n ↔ ∀ q, q < p → ¬ b q)
  | 0, _, h => by omega
  | n + 1, hn, h => by
    by_cases e : p = n
    · subst e
      have k := fFst_none (b := b) p (by omega)
      unfold fFst
      by_cases c : fFst b p = -6
      · rw [if_pos ⟨hb, c⟩]
        exact ⟨fun _ => k.mp c, fun _ => rfl⟩
      · rw [if_neg (fun x => c x.2)]
        refine ⟨fun z => ?_, fun z => absurd (k.mpr z) c⟩
        exfalso
        have : ∀ n, n ≤ p → fFst b n = nI p → False := by
          intro n
          induction n with
          | zero => intro _ z; exact nI_ne6 (n := p) (by omega) z.symm
          | succ n ih =>
            intro hn2 z
            unfold fFst at z
            by_cases c2 : b n ∧ fFst b n = -6
            · rw [if_pos c2] at z
              have := nI_inj' (by omega) (by omega) z
              omega
            · rw [if_neg c2] at z
              exact ih (by omega) z
        exact this p (Nat.le_refl _) z.symm
    · have ih := fFst_is hb n (by omega) (by omega)
      have nn : fFst b n ≠ -6 := fun z => (fFst_none n (by omega)).mp z p (by omega) hb
      unfold fFst
      rw [if_neg (fun x => nn x.2)]
      exact ih
section PART
variable {h : ZH} {ψ : Int32 → ZH → Prop} {np nm nh : Nat}
abbrev fAll (h : ZH) (k : Nat) : Nat → Int32 → Int32 := fun p a => if cb h k p then a + (zI h 205 p + 1) else a
theorem fAll_rg (P : JP h np) (hn : np ≤ 8) : ∀ n, n ≤ np → (rg (fold (fAll h k) n) 0 (1001 * n) ∧ ∀ p, p < n → cb h k p → 0 < (fold (fAll h k) n).toInt)
  | 0, _ => ⟨⟨by decide, by decide⟩, fun p hp => by omega⟩
  | n + 1, hm => by
    obtain ⟨ih1, ih2⟩ := fAll_rg (k := k) P hn n (by omega)
    have h1 := ih1.1; have h2 := ih1.2
    have Pp := P.1 n (by omega)
    have t : rg (zI h 205 n) 0 1000 := by simp only [Pp, and_self]
    have t1 := t.1; have t2 := t.2
    have e1 : (zI h 205 n + 1).toInt = (zI h 205 n).toInt + 1 := by rw [tI_add (by rw [tI_1]; omega) (by rw [tI_1]; omega), tI_1]
    have ef : fold (fAll h k) (n + 1) = if cb h k n then fold (fAll h k) n + (zI h 205 n + 1) else fold (fAll h k) n := rfl
    have e2 : (fold (fAll h k) n + (zI h 205 n + 1)).toInt = (fold (fAll h k) n).toInt + ((zI h 205 n).toInt + 1) := by rw [tI_add (by rw [e1]; omega) (by rw [e1]; omega), e1]
    by_cases c : cb h k n
    · rw [ef, if_pos c]
      refine ⟨⟨by rw [e2]; omega, by rw [e2]; omega⟩, fun p hp cp => by rw [e2]; omega⟩
    · rw [ef, if_neg c]
      refine ⟨⟨by omega, by omega⟩, fun p hp cp => ?_⟩
      by_cases e : p = n
      · subst e; exact absurd cp c
      · exact ih2 p (by omega) cp
/-- one pit's share -/
abbrev shr (h : ZH) (k p : Nat) (all : Int32) : Int32 := (zI h 253 k * (zI h 205 p + 1)) / all
abbrev fOv (h : ZH) (k : Nat) (all : Int32) : Nat → Int32
  | 0 => zI h 253 k
  | n + 1 => if cb h k n then fOv h k all n - shr h k n all else fOv h k all n
theorem s_X10_share {k p : Nat} {all : Int32} (ha : 0 < all.toInt) (e : ψ (shr h k p all) h) : ZcI mX10_share [.int (zI h 253 k), .int (zI h 205 p + 1), .int all] h ψ := by
  refine wX10_share ⟨fun _ => ⟨fun z => ?_, e⟩, fun z => absurd (tI_lt.mpr (by rw [tI_0]; exact ha)) z⟩
  rw [z, tI_0] at ha
  omega
theorem toInt64_0 {a : Int32} (h : a.toInt64 = 0) : a.toInt = 0 := by
  have := congrArg Int64.toInt h
  rw [Int32.toInt_toInt64] at this
  exact this
theorem s_X11_shareOf {k p : Nat} {all : Int32} (S : Sh h np nm nh) (P : JP h np) (X : JH h nh) (hn : np ≤ 8) (hn2 : nh ≤ 10) (hk : k < nh) (hp : p < np) (ha : 0 < all.toInt) (e : ψ (shr h k p all) h) : ZcI mX11_shareOf [.ref 200, .int (nI k), .int (nI p), .int all] h ψ := by
  have e1 := nI_clamp (n := p) (by omega)
  have v1 : vp_in (nI p) 8 := vp_in_nI (by omega) (by omega)
  have e2 := nI_clamp (n := k) (by omega)
  have v2 : vp_in (nI k) 10 := vp_in_nI (by omega) (by omega)
  have Pp := P.1 p hp
  have t : rg (zI h 205 p) 0 1000 := by simp only [Pp, and_self]
  have Xk := X k hk
  have u : rg (zI h 253 k) 0 100000 := by simp only [Xk, and_self]
  have t1 := t.1; have t2 := t.2; have u1 := u.1; have u2 := u.2
  refine wX11_shareOf ?_
  simp only [shM S, e1, v1, e2, v2, ne_eq]
  refine ⟨trivial, by decide, trivial, trivial, by decide, trivial, trivial, fun z => ?_, ?_⟩
  · have := toInt64_0 z; omega
  have f1 : (zI h 205 p + 1).toInt = (zI h 205 p).toInt + 1 := by rw [tI_add (by rw [tI_1]; omega) (by rw [tI_1]; omega), tI_1]
  have m1 : 0 ≤ (zI h 253 k).toInt * ((zI h 205 p).toInt + 1) := Int.mul_nonneg u1 (by omega)
  have m2 : (zI h 253 k).toInt * ((zI h 205 p).toInt + 1) ≤ 100000 * 1001 := Int.mul_le_mul u2 (by omega) (by omega) (by omega)
  have f2 : (zI h 253 k * (zI h 205 p + 1)).toInt = (zI h 253 k).toInt * ((zI h 205 p).toInt + 1) := by rw [tI_mul (by rw [f1]; omega) (by rw [f1]; omega), f1]
  have g1 : (zI h 253 k).toInt64 * (zI h 205 p + 1).toInt64 = (zI h 253 k * (zI h 205 p + 1)).toInt64 := by
    apply Int64.toInt_inj.mp
    rw [Int64.toInt_mul, Int32.toInt_toInt64, Int32.toInt_toInt64, Int32.toInt_toInt64, f1, f2]
    exact Int.bmod_eq_of_le (by omega) (by omega)
  have g2 : (zI h 253 k * (zI h 205 p + 1)).toInt64 / all.toInt64 = (shr h k p all).toInt64 := by
    apply Int64.toInt_inj.mp
    have d1 := Int.ediv_le_self all.toInt m1
    have d2 := Int.ediv_nonneg m1 (show 0 ≤ all.toInt by omega)
    rw [Int64.toInt_div, Int32.toInt_toInt64, Int32.toInt_toInt64, Int32.toInt_toInt64, tI_div (by rw [f2]; exact m1) ha, f2, Int.tdiv_eq_ediv_of_nonneg m1]
    exact Int.bmod_eq_of_le (by omega) (by omega)
  rw [g1, g2, Int32.toInt32_toInt64]
  exact e
end PART
