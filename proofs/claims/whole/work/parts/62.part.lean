/-! the part of a harm -/
def fFst (b : Nat → Prop) [DecidablePred b] : Nat → Int32
  | 0 => -6
  | n + 1 => if b n ∧ fFst b n = -6 then nI n else fFst b n
theorem nI_ne6 {n : Nat} (hn : n < 2 ^ 31) : nI n ≠ -6 := fun e => by
  have := congrArg Int32.toInt e
  rw [nI_toInt hn] at this
  have h2 : (-6 : Int32).toInt = -6 := by decide
  omega
theorem nI_inj' {a b : Nat} (ha : a < 2 ^ 31) (hb : b < 2 ^ 31) (e : nI a = nI b) : a = b := by
  have := congrArg Int32.toInt e
  rw [nI_toInt ha, nI_toInt hb] at this
  omega
theorem fFst_none {b : Nat → Prop} [DecidablePred b] : ∀ n, n ≤ 8 → (fFst b n = -6 ↔ ∀ q, q < n → ¬ b q)
  | 0, _ => ⟨fun _ q hq => by omega, fun _ => rfl⟩
  | n + 1, hn => by
    have ih := fFst_none (b := b) n (by omega)
    unfold fFst
    by_cases c : b n ∧ fFst b n = -6
    · rw [if_pos c]
      exact ⟨fun e => absurd e (nI_ne6 (by omega)), fun k => absurd c.1 (k n (by omega))⟩
    · rw [if_neg c, ih]
      constructor
      · intro k q hq
        by_cases e : q = n
        · subst e; exact fun z => c ⟨z, ih.mpr k⟩
        · exact k q (by omega)
      · intro k q hq; exact k q (by omega)
theorem fFst_is {b : Nat → Prop} [DecidablePred b] {p : Nat} (hb : b p) : ∀ n, n ≤ 8 → p < n → (nI p = fFst b n ↔ ∀ q, q < p → ¬ b q)
  | 0, _, h => by omega
  | n + 1, hn, h => by
    by_cases e : p = n
    · subst e
      have k := fFst_none (b := b) p (by omega)
      unfold fFst
      by_cases c : fFst b p = -6
      · rw [if_pos ⟨hb, c⟩]
        exact ⟨fun _ => k.mp c, fun _ => rfl⟩
      · rw [if_neg (fun x => c x.2)]
        refine ⟨fun z => ?_, fun z => absurd (k.mpr z) c⟩
        exfalso
        have : ∀ n, n ≤ p → fFst b n = nI p → False := by
          intro n
          induction n with
          | zero => intro _ z; exact nI_ne6 (n := p) (by omega) z.symm
          | succ n ih =>
            intro hn2 z
            unfold fFst at z
            by_cases c2 : b n ∧ fFst b n = -6
            · rw [if_pos c2] at z
              have := nI_inj' (by omega) (by omega) z
              omega
            · rw [if_neg c2] at z
              exact ih (by omega) z
        exact this p (Nat.le_refl _) z.symm
    · have ih := fFst_is hb n (by omega) (by omega)
      have nn : fFst b n ≠ -6 := fun z => (fFst_none n (by omega)).mp z p (by omega) hb
      unfold fFst
      rw [if_neg (fun x => nn x.2)]
      exact ih
section PART
variable {h : ZH} {ψ : Int32 → ZH → Prop} {np nm nh : Nat}
abbrev fAll (h : ZH) (k : Nat) : Nat → Int32 → Int32 := fun p a => if cb h k p then a + (zI h 205 p + 1) else a
theorem fAll_rg {k : Nat} (P : JP h np) (hn : np ≤ 8) : ∀ n, n ≤ np → (rg (fold (fAll h k) n) 0 (1001 * n) ∧ ∀ p, p < n → cb h k p → 0 < (fold (fAll h k) n).toInt)
  | 0, _ => ⟨⟨by show 0 ≤ (0 : Int32).toInt; decide, by show (0 : Int32).toInt ≤ _; rw [tI_0]; omega⟩, fun p hp => by omega⟩
  | n + 1, hm => by
    obtain ⟨ih1, ih2⟩ := fAll_rg (k := k) P hn n (by omega)
    have h1 := ih1.1; have h2 := ih1.2
    have Pp := P.1 n (by omega)
    have t : rg (zI h 205 n) 0 1000 := by simp only [Pp, and_self]
    have t1 := t.1; have t2 := t.2
    have e1 : (zI h 205 n + 1).toInt = (zI h 205 n).toInt + 1 := by rw [tI_add (by rw [tI_1]; omega) (by rw [tI_1]; omega), tI_1]
    have ef : fold (fAll h k) (n + 1) = if cb h k n then fold (fAll h k) n + (zI h 205 n + 1) else fold (fAll h k) n := rfl
    have e2 : (fold (fAll h k) n + (zI h 205 n + 1)).toInt = (fold (fAll h k) n).toInt + ((zI h 205 n).toInt + 1) := by rw [tI_add (by rw [e1]; omega) (by rw [e1]; omega), e1]
    by_cases c : cb h k n
    · rw [ef, if_pos c]
      refine ⟨⟨by rw [e2]; omega, by rw [e2]; omega⟩, fun p hp cp => by rw [e2]; omega⟩
    · rw [ef, if_neg c]
      refine ⟨⟨by omega, by omega⟩, fun p hp cp => ?_⟩
      by_cases e : p = n
      · subst e; exact absurd cp c
      · exact ih2 p (by omega) cp
/-- one pit's share -/
abbrev shr (h : ZH) (k p : Nat) (all : Int32) : Int32 := (zI h 253 k * (zI h 205 p + 1)) / all
abbrev fOv (h : ZH) (k : Nat) (all : Int32) : Nat → Int32
  | 0 => zI h 253 k
  | n + 1 => if cb h k n then fOv h k all n - shr h k n all else fOv h k all n
theorem s_X10_share {k p : Nat} {all : Int32} (ha : 0 < all.toInt) (e : ψ (shr h k p all) h) : ZcI mX10_share [.int (zI h 253 k), .int (zI h 205 p + 1), .int all] h ψ := by
  refine wX10_share ⟨fun _ => ⟨fun z => ?_, e⟩, fun z => absurd (tI_lt.mpr (by rw [tI_0]; exact ha)) z⟩
  rw [z, tI_0] at ha
  omega
theorem toInt64_0 {a : Int32} (h : a.toInt64 = 0) : a.toInt = 0 := by
  have := congrArg Int64.toInt h
  rw [Int32.toInt_toInt64] at this
  exact this
theorem s_X11_shareOf {k p : Nat} {all : Int32} (S : Sh h np nm nh) (P : JP h np) (X : JH h nh) (hn : np ≤ 8) (hn2 : nh ≤ 10) (hk : k < nh) (hp : p < np) (ha : 0 < all.toInt) (e : ψ (shr h k p all) h) : ZcI mX11_shareOf [.ref 200, .int (nI k), .int (nI p), .int all] h ψ := by
  have e1 := nI_clamp (n := p) (by omega)
  have v1 : vp_in (nI p) 8 := vp_in_nI (by omega) (by omega)
  have e2 := nI_clamp (n := k) (by omega)
  have v2 : vp_in (nI k) 10 := vp_in_nI (by omega) (by omega)
  have Pp := P.1 p hp
  have t : rg (zI h 205 p) 0 1000 := by simp only [Pp, and_self]
  have Xk := X k hk
  have u : rg (zI h 253 k) 0 100000 := by simp only [Xk, and_self]
  have t1 := t.1; have t2 := t.2; have u1 := u.1; have u2 := u.2
  refine wX11_shareOf ?_
  simp only [shM S, e1, v1, e2, v2, ne_eq]
  refine ⟨trivial, by decide, trivial, trivial, by decide, trivial, trivial, fun z => ?_, ?_⟩
  · have := toInt64_0 z; omega
  have f1 : (zI h 205 p + 1).toInt = (zI h 205 p).toInt + 1 := by rw [tI_add (by rw [tI_1]; omega) (by rw [tI_1]; omega), tI_1]
  have m1 : 0 ≤ (zI h 253 k).toInt * ((zI h 205 p).toInt + 1) := Int.mul_nonneg u1 (by omega)
  have m2 : (zI h 253 k).toInt * ((zI h 205 p).toInt + 1) ≤ 100000 * 1001 := Int.mul_le_mul u2 (by omega) (by omega) (by omega)
  have f2 : (zI h 253 k * (zI h 205 p + 1)).toInt = (zI h 253 k).toInt * ((zI h 205 p).toInt + 1) := by rw [tI_mul (by rw [f1]; omega) (by rw [f1]; omega), f1]
  have g1 : (zI h 253 k).toInt64 * (zI h 205 p + 1).toInt64 = (zI h 253 k * (zI h 205 p + 1)).toInt64 := by
    apply Int64.toInt_inj.mp
    rw [Int64.toInt_mul, Int32.toInt_toInt64, Int32.toInt_toInt64, Int32.toInt_toInt64, f1, f2]
    exact Int.bmod_eq_of_le (by omega) (by omega)
  have g2 : (zI h 253 k * (zI h 205 p + 1)).toInt64 / all.toInt64 = (shr h k p all).toInt64 := by
    apply Int64.toInt_inj.mp
    have d1 := Int.ediv_le_self all.toInt m1
    have d2 := Int.ediv_nonneg m1 (show 0 ≤ all.toInt by omega)
    rw [Int64.toInt_div, Int32.toInt_toInt64, Int32.toInt_toInt64, Int32.toInt_toInt64, tI_div (by rw [f2]; exact m1) ha, f2, Int.tdiv_eq_ediv_of_nonneg m1]
    exact Int.bmod_eq_of_le (by omega) (by omega)
  rw [g1, g2, Int32.toInt32_toInt64]
  exact e

variable {i L : Nat} {xs : Nat → Int32}
set_option maxHeartbeats 4000000 in
theorem s_X10_partOf {k p : Nat} (S : Sh h np nm nh) (P : JP h np) (X : JH h nh) (St : JS h) (hn : np ≤ 8) (c : zI h 10 12 = nI np) (hk : k < nh) (hp : p < np) (cc : cb h k p)
    (e : ψ (shr h k p (fold (fAll h k) np) + if (∀ q, q < p → ¬ cb h k q) then fOv h k (fold (fAll h k) np) np else 0) h) : ZcI mX10_partOf [.ref 10, .ref (500 + 2 * k), .int (nI p)] h ψ := by
  have kX : zK h 10 = 11 := (shX S).1
  have hk1 := shHarm S hk
  have Xk := X k hk
  have pos : 0 < (fold (fAll h k) np).toInt := (fAll_rg P hn np (Nat.le_refl _)).2 p hp cc
  refine wX10_partOf (down (I := fun j => Zt mX10_partOf (zPI ψ) 0 0 9 [some (.ref 10), some (.ref (500 + 2 * k)), some (.int (nI p)), some (.int (fFst (cb h k) j)), some (.int (fold (fAll h k) j)), some (.int (nI j)), none] [] h) (n := np) ?_ (fun m hm q => ?_))
  · refine wX10_partOf_9 ⟨kX, fun _ => ⟨hk1.2.1, ?_⟩, fun q => absurd (by rw [c]; exact Int32.le_refl _) q⟩
    have e0 : zI h (500 + 2 * k) 2 = fOv h k (fold (fAll h k) np) 0 := by simp only [Xk]
    rw [e0]
    refine down (I := fun j => Zt mX10_partOf (zPI ψ) 0 0 73 [some (.ref 10), some (.ref (500 + 2 * k)), some (.int (nI p)), some (.int (fFst (cb h k) np)), some (.int (fold (fAll h k) np)), some (.int (fOv h k (fold (fAll h k) np) j)), some (.int (nI j))] [] h) (n := np) ?_ (fun m hm q => ?_)
    · refine wX10_partOf_73 ⟨kX, fun _ => ?_, fun q => absurd (by rw [c]; exact Int32.le_refl _) q⟩
      have e1 := nI_clamp (n := p) (by omega)
      have v1 : vp_in (nI p) 8 := vp_in_nI (by omega) (by omega)
      have hp1 := shPit S hp
      have Pp := P.1 p hp
      have fi := fFst_is (b := cb h k) cc np hn hp
      simp only [shX S, hp1, hk1, e1, v1, Pp, Xk, ne_eq]
      refine ⟨trivial, by decide, trivial, trivial, by omega, trivial, s_X10_share pos ⟨fun z => ?_, fun z => ?_⟩⟩
      · rw [if_neg (fun x => z (fi.mpr x)), i_add0] at e; exact e
      · rw [if_pos (fi.mp z)] at e; exact e
    · refine wX10_partOf_73 ⟨kX, fun z => absurd z (by rw [c]; exact cnt_le (by omega) hm), fun _ => s_X10_canBe S P X St hn hk hm ⟨fun z => ?_, fun z => ?_⟩⟩
      · rw [nI_1]
        have ef : fOv h k (fold (fAll h k) np) (m + 1) = fOv h k (fold (fAll h k) np) m := if_neg (zb_eq0.mp z)
        rw [ef] at q; exact q
      · have e1 := nI_clamp (n := m) (by omega)
        have v1 : vp_in (nI m) 8 := vp_in_nI (by omega) (by omega)
        have hp1 := shPit S hm
        have Pp := P.1 m hm
        have ef : fOv h k (fold (fAll h k) np) (m + 1) = fOv h k (fold (fAll h k) np) m - shr h k m (fold (fAll h k) np) := if_pos (Classical.not_not.mp (fun x => z (zb_eq0.mpr x)))
        simp only [shX S, hp1, hk1, e1, v1, Pp, Xk, ne_eq]
        refine ⟨trivial, trivial, by decide, trivial, trivial, by omega, trivial, s_X10_share pos ?_⟩
        rw [nI_1]
        rw [ef] at q; exact q
  · refine wX10_partOf_9 ⟨kX, fun z => absurd z (by rw [c]; exact cnt_le (by omega) hm), fun _ => s_X10_canBe S P X St hn hk hm ⟨fun z => ?_, fun z => ?_⟩⟩
    · rw [nI_1]
      have nb := zb_eq0.mp z
      have ef : fold (fAll h k) (m + 1) = fold (fAll h k) m := if_neg nb
      have eg : fFst (cb h k) (m + 1) = fFst (cb h k) m := if_neg (fun x => nb x.1)
      rw [ef, eg] at q; exact q
    · have e1 := nI_clamp (n := m) (by omega)
      have v1 : vp_in (nI m) 8 := vp_in_nI (by omega) (by omega)
      have hp1 := shPit S hm
      have Pp := P.1 m hm
      have yb : cb h k m := Classical.not_not.mp (fun x => z (zb_eq0.mpr x))
      have ef : fold (fAll h k) (m + 1) = fold (fAll h k) m + (zI h 205 m + 1) := if_pos yb
      simp only [shX S, hp1, hk1, e1, v1, Pp, ne_eq, forall_eq, nI_1]
      refine ⟨trivial, by decide, trivial, trivial, by omega, trivial, fun y => ?_, fun y => ?_⟩
      · have eg : fFst (cb h k) (m + 1) = fFst (cb h k) m := if_neg (fun x => y x.2)
        rw [ef, eg] at q; exact q
      · have eg : fFst (cb h k) (m + 1) = nI m := if_pos ⟨yb, y⟩
        rw [ef, eg] at q; exact q
set_option maxHeartbeats 4000000 in
theorem s_X11_part_40 {k p : Nat} (S : Sh h np nm nh) (P : JP h np) (X : JH h nh) (hn : np ≤ 8) (hn2 : nh ≤ 10) (c : zI h 200 9 = nI np) (hk : k < nh) (hp : p < np) (cc : cb h k p)
    (e : ψ (shr h k p (fold (fAll h k) np) + if (∀ q, q < p → ¬ cb h k q) then fOv h k (fold (fAll h k) np) np else 0) h) : Zt mX11_part (zPI ψ) 0 0 40 [some (.ref 200), some (.int (nI k)), some (.int (nI p)), some (.int (fold (fBs (cb h k)) np)), some (.int 0), some (.int 0), none] [] h := by
  have kM : zK h 200 = 12 := (shM S).1
  have pos : 0 < (fold (fAll h k) np).toInt := (fAll_rg P hn np (Nat.le_refl _)).2 p hp cc
  have e2 := nI_clamp (n := k) (by omega)
  have v2 : vp_in (nI k) 10 := vp_in_nI (by omega) (by omega)
  have g1 : ∀ m, m < np → (((fold (fBs (cb h k)) np >>> (nI m &&& 31)) &&& 1) = 1 ↔ cb h k m) := fun m hm => by
    rw [fBs_get hn hm]
    by_cases c : cb h k m
    · rw [zb_t c]; exact ⟨fun _ => c, fun _ => rfl⟩
    · rw [zb_f c]; exact ⟨fun q => absurd q (by decide), fun q => absurd q c⟩
  refine down (I := fun j => Zt mX11_part (zPI ψ) 0 0 40 [some (.ref 200), some (.int (nI k)), some (.int (nI p)), some (.int (fold (fBs (cb h k)) np)), some (.int (fold (fAll h k) j)), some (.int (nI j)), none] [] h) (n := np) ?_ (fun m hm q => ?_)
  · refine wX11_part_40 ⟨kM, fun _ => ?_, fun q => absurd (by rw [c]; exact Int32.le_refl _) q⟩
    simp only [shM S, e2, v2, ne_eq, forall_eq]
    refine ⟨by decide, trivial, trivial, ?_⟩
    refine down (I := fun j => Zt mX11_part (zPI ψ) 0 0 94 [some (.ref 200), some (.int (nI k)), some (.int (nI p)), some (.int (fold (fBs (cb h k)) np)), some (.int (fold (fAll h k) np)), some (.int (fOv h k (fold (fAll h k) np) j)), some (.int (nI j))] [] h) (n := np) ?_ (fun m hm q => ?_)
    · refine wX11_part_94 ⟨kM, fun _ => ⟨fun z => s_X11_shareOf S P X hn hn2 hk hp pos ?_, fun z => s_X11_shareOf S P X hn hn2 hk hp pos ?_⟩, fun q => absurd (by rw [c]; exact Int32.le_refl _) q⟩
      · rw [if_neg (fun x => z ((fBs_low hn hp).mpr x))] at e; exact e
      · rw [if_pos ((fBs_low hn hp).mp z)] at e; exact e
    · refine wX11_part_94 ⟨kM, fun z => absurd z (by rw [c]; exact cnt_le (by omega) hm), fun _ => ⟨fun z => ?_, fun z => ?_⟩⟩
      · have ef : fOv h k (fold (fAll h k) np) (m + 1) = fOv h k (fold (fAll h k) np) m := if_neg (fun x => z ((g1 m hm).mpr x))
        rw [nI_1, Int32.sub_zero]
        rw [ef] at q; exact q
      · have ef : fOv h k (fold (fAll h k) np) (m + 1) = fOv h k (fold (fAll h k) np) m - shr h k m (fold (fAll h k) np) := if_pos ((g1 m hm).mp z)
        refine s_X11_shareOf S P X hn hn2 hk hm pos ?_
        rw [nI_1]
        rw [ef] at q; exact q
  · refine wX11_part_40 ⟨kM, fun z => absurd z (by rw [c]; exact cnt_le (by omega) hm), fun _ => ⟨fun z => ?_, fun z => ?_⟩⟩
    · have ef : fold (fAll h k) (m + 1) = fold (fAll h k) m := if_neg (fun x => z ((g1 m hm).mpr x))
      rw [nI_1, i_add0]
      rw [ef] at q; exact q
    · have e1 := nI_clamp (n := m) (by omega)
      have v1 : vp_in (nI m) 8 := vp_in_nI (by omega) (by omega)
      have ef : fold (fAll h k) (m + 1) = fold (fAll h k) m + (zI h 205 m + 1) := if_pos ((g1 m hm).mp z)
      simp only [shM S, e1, v1, ne_eq, forall_eq, nI_1]
      rw [ef] at q
      exact ⟨by decide, trivial, trivial, q⟩
set_option maxHeartbeats 4000000 in
theorem op_part {l1 l2 : Int32} (J : Jx h i L xs) : ZcI mX10_part [.ref 10, .int l1, .int l2] h (fun v h1 => ZcI mX11_part [.ref 200, .int l1, .int l2] h1 (fun v' h2 => v = v' ∧ Jx h2 (i + 1) L xs)) := by
  have J0 := J
  obtain ⟨np, nm, nh, nw, ns, mo, ⟨S, C, T, P, M, St, G, R, W, V, X⟩, q1, q2⟩ := J
  have kX : zK h 10 = 11 := (shX S).1
  have kM : zK h 200 = 12 := (shM S).1
  have cp := C.1
  have cm := C.2.1
  have ch := C.2.2.1
  have cw := C.2.2.2.1
  have cs := C.2.2.2.2.1
  have b1 : np < 2 ^ 31 := by omega
  have b2 : nm < 2 ^ 31 := by omega
  have b3 : nh < 2 ^ 31 := by omega
  by_cases c1 : 0 ≤ l1 ∧ l1 ≤ nI nh - 1
  rotate_left
  · exact wX10_part ⟨kX, X10_harm_f kX ch.2.1 c1 (Z0 (wX11_part ⟨kM, X11_harm_f kM ch.1 c1 (Z0 ⟨rfl, J0.up⟩)⟩))⟩
  obtain ⟨k, hk, rfl⟩ := in_cnt b3 c1
  by_cases c2 : 0 ≤ l2 ∧ l2 ≤ nI np - 1
  rotate_left
  · exact wX10_part ⟨kX, X10_harm_t kX ch.2.1 b3 hk (Z1 ⟨kX, X10_pit_f kX cp.2.1 c2 (N0 (wX11_part ⟨kM, X11_harm_t kM ch.1 b3 hk (Z1 ⟨kM, X11_pit_f kM cp.1 c2 (N0 ⟨rfl, J0.up⟩)⟩)⟩))⟩)⟩
  obtain ⟨p, hp, rfl⟩ := in_cnt b1 c2
  refine wX10_part ⟨kX, X10_harm_t kX ch.2.1 b3 hk (Z1 ⟨kX, X10_pit_t kX cp.2.1 b1 hp (N1 ?_)⟩)⟩
  have e2 := nI_clamp (n := k) (by omega)
  have v2 : vp_in (nI k) 10 := vp_in_nI (by omega) (by omega)
  have hk1 := shHarm S hk
  have M1 : ∀ ψ : Int32 → ZH → Prop, (¬ zb (cb h k p) = 0 → Zt mX11_part (zPI ψ) 0 0 40 [some (.ref 200), some (.int (nI k)), some (.int (nI p)), some (.int (fold (fBs (cb h k)) np)), some (.int 0), some (.int 0), none] [] h) ∧ (zb (cb h k p) = 0 → ψ 0 h) → ZcI mX11_part [.ref 200, .int (nI k), .int (nI p)] h ψ := fun ψ q => by
    refine wX11_part ⟨kM, X11_harm_t kM ch.1 b3 hk (Z1 ⟨kM, X11_pit_t kM cp.1 b1 hp (N1 ⟨kM, s_X11_whoseOf S P X cp.2.2.2 cp.1 ch.2.2 hk ?_⟩)⟩)⟩
    rw [fBs_get cp.2.2.2 hp]
    exact q
  simp only [shX S, hk1, e2, v2, ne_eq]
  refine ⟨trivial, by decide, trivial, trivial, by omega, s_X10_canBe S P X St cp.2.2.2 hk hp ⟨fun z => ?_, fun z => ?_⟩⟩
  · have cc : cb h k p := Classical.not_not.mp (fun x => z (zb_eq0.mpr x))
    simp only [shX S, hk1, e2, v2, ne_eq]
    refine ⟨trivial, by decide, trivial, trivial, by omega, s_X10_partOf S P X St cp.2.2.2 cp.2.1 hk hp cc ?_⟩
    exact M1 _ ⟨fun _ => s_X11_part_40 S P X cp.2.2.2 ch.2.2 cp.1 hk hp cc ⟨rfl, J0.up⟩, fun y => absurd y z⟩
  · exact M1 _ ⟨fun y => absurd z y, fun _ => ⟨rfl, J0.up⟩⟩
end PART
