theorem sumN_inc {f g : Nat → Nat} {x : Nat} : ∀ {n : Nat}, x < n → (∀ c, c < n → c ≠ x → g c = f c) → g x = f x + 1 → sumN g n = sumN f n + 1
  | 0, h, _, _ => absurd h (by omega)
  | n + 1, h, e, ex => by
    show sumN g n + g n = sumN f n + f n + 1
    by_cases c : x = n
    · subst c
      rw [ex, sumN_congr (f := g) (g := f) (fun k hk => e k (by omega) (by omega))]
      omega
    · rw [sumN_inc (n := n) (by omega) (fun k hk => e k (by omega)) ex, e n (by omega) (by omega)]
      omega
theorem sumN_1 {f : Nat → Nat} (h1 : ∀ c, f c ≤ 1) : ∀ {n : Nat}, sumN f n ≤ n
  | 0 => Nat.le_refl _
  | n + 1 => by
    have := sumN_1 h1 (n := n)
    have := h1 n
    show sumN f n + f n ≤ n + 1
    omega
theorem sumN_lt {f : Nat → Nat} {x : Nat} (h1 : ∀ c, f c ≤ 1) (h0 : f x = 0) : ∀ {n : Nat}, x < n → sumN f n + 1 ≤ n
  | 0, h => absurd h (by omega)
  | n + 1, h => by
    show sumN f n + f n + 1 ≤ n + 1
    by_cases c : x = n
    · subst c
      have := sumN_1 h1 (n := x)
      omega
    · have := sumN_lt h1 h0 (n := n) (by omega)
      have := h1 n
      omega
theorem sumN_tail {f : Nat → Nat} {a : Nat} : ∀ {b : Nat}, (∀ i, a ≤ i → i < a + b → 1 ≤ f i) → b ≤ sumN f (a + b)
  | 0, _ => Nat.zero_le _
  | b + 1, e => by
    have := sumN_tail (a := a) (b := b) (fun i h1 h2 => e i h1 (by omega))
    have := e (a + b) (by omega) (by omega)
    show b + 1 ≤ sumN f (a + b) + f (a + b)
    omega
/-- m rows sit, as cheaply as they can -/
def BI (Ct : Nat → Nat → Int) (N m : Nat) (u v : Nat → Int) (ro : Nat → Nat) : Prop :=
  (∀ r c, 1 ≤ r → r ≤ m → 1 ≤ c → c ≤ N → u r + v c ≤ Ct (r - 1) (c - 1)) ∧
  (∀ c, 1 ≤ c → c ≤ N → v c ≤ 0 ∧ ro c ≤ m ∧ (ro c = 0 → v c = 0) ∧ (ro c ≠ 0 → u (ro c) + v c = Ct (ro c - 1) (c - 1))) ∧
  (∀ r, 1 ≤ r → r ≤ m → 0 ≤ u r) ∧ (∀ c c', 1 ≤ c → c ≤ N → 1 ≤ c' → c' ≤ N → ro c = ro c' → ro c ≠ 0 → c = c') ∧
  (∀ r, 1 ≤ r → r ≤ m → ∃ c, 1 ≤ c ∧ c ≤ N ∧ ro c = r) ∧ sumN (fun i => if ro (i + 1) = 0 then 0 else 1) N = m
theorem BI.free {Ct : Nat → Nat → Int} {N m : Nat} {u v : Nat → Int} {ro : Nat → Nat} (B : BI Ct N m u v ro) (h9 : 9 ≤ N) (hm : m < 9) : ∃ f, N - 9 < f ∧ f ≤ N ∧ ro f = 0 := by
  refine Classical.not_not.mp (fun q => ?_)
  have h1 : ∀ i, N - 9 ≤ i → i < N - 9 + 9 → 1 ≤ (fun i => if ro (i + 1) = 0 then 0 else 1) i := fun i a b => by
    show 1 ≤ if ro (i + 1) = 0 then 0 else 1
    rw [if_neg (fun z => q ⟨i + 1, by omega, by omega, z⟩)]
    exact Nat.le_refl _
  have h2 := sumN_tail h1
  rw [show N - 9 + 9 = N by omega, B.2.2.2.2.2] at h2
  omega
theorem BI.start {Ct : Nat → Nat → Int} {N m : Nat} {u v sl : Nat → Int} {ro cf : Nat → Nat} (B : BI Ct N m u v ro) (u0 : u (m + 1) = 0) (c0 : ∀ c, c < N → 0 ≤ Ct m c) (hsl : ∀ c, 1 ≤ c → c ≤ N → sl c = 4000000000000000000) : SE Ct N (m + 1) 0 0 u v sl (ps ro 0 (m + 1)) cf (fun _ => 1000) := by
  obtain ⟨b1, b2, b3, b4, b5, b6⟩ := B
  have n0 : ∀ c, 1 ≤ c → ps ro 0 (m + 1) c = ro c := fun c hc => ps_n (by omega)
  refine ⟨fun r c g1 g2 g3 g4 => ?_, fun c g1 g2 => ?_, fun r g1 g2 => ?_, ⟨by omega, ps_s, fun c c' g1 g2 g3 g4 => ?_⟩, fun c g1 => ⟨Or.inr rfl, fun z => absurd z (by omega)⟩, ⟨by omega, by omega, fun _ => rfl, fun z => absurd z (by omega)⟩, fun c g1 g2 _ => ⟨?_, ?_, fun c' _ z => absurd z (by omega), Or.inl ⟨rfl, hsl c g1 g2⟩⟩⟩
  · by_cases e : r = m + 1
    · subst e
      have h1 := (b2 c g3 g4).1
      have h2 := c0 (c - 1) (by omega)
      rw [u0, Nat.add_sub_cancel]
      omega
    · exact b1 r c g1 (by omega) g3 g4
  · rw [n0 c g1]
    obtain ⟨w1, w2, w3, w4⟩ := b2 c g1 g2
    exact ⟨w1, by omega, w3, w4⟩
  · by_cases e : r = m + 1
    · rw [e, u0]; exact Int.le_refl _
    · exact b3 r g1 (by omega)
  · by_cases e : c = 0
    · by_cases e' : c' = 0
      · omega
      · rw [e, ps_s, n0 c' (by omega)] at g3
        have := (b2 c' (by omega) g2).2.1
        omega
    · by_cases e' : c' = 0
      · rw [e', ps_s, n0 c (by omega)] at g3
        have := (b2 c (by omega) g1).2.1
        omega
      · rw [n0 c (by omega), n0 c' (by omega)] at g3
        rw [n0 c (by omega)] at g4
        exact b4 c c' (by omega) g1 (by omega) g2 g3 g4
  · rw [hsl c g1 g2]; omega
  · rw [hsl c g1 g2]; exact Int.le_refl _
/-- while the columns are handed on: x waits for its row -/
def AU (Ct : Nat → Nat → Int) (N n s x0 x : Nat) (u v : Nat → Int) (ro T rc : Nat → Nat) : Prop :=
  (x ≤ N ∧ (x = x0 ∨ T x < s)) ∧ (∀ c, c ≤ N → T c < (if x = x0 then s else T x) → rc c = ro c) ∧
  (∀ c, c ≤ N → c ≠ x → rc c ≤ n ∧ (1 ≤ c → (rc c = 0 → v c = 0) ∧ (rc c ≠ 0 → u (rc c) + v c = Ct (rc c - 1) (c - 1)))) ∧
  (∀ c c', c ≤ N → c' ≤ N → c ≠ x → c' ≠ x → rc c = rc c' → rc c ≠ 0 → c = c') ∧
  (∀ r, 1 ≤ r → r ≤ n → ∃ c, c ≤ N ∧ c ≠ x ∧ rc c = r) ∧ (∀ c, 1 ≤ c → c ≤ N → c ≠ x → (rc c = 0 ↔ ro c = 0 ∧ c ≠ x0))
theorem AU.start {Ct : Nat → Nat → Int} {N m s x0 : Nat} {u v sl : Nat → Int} {ro cf T : Nat → Nat} (E : SE Ct N (m + 1) s x0 u v sl ro cf T) (h0 : ro x0 = 0) (cov : ∀ r, 1 ≤ r → r ≤ m → ∃ c, 1 ≤ c ∧ c ≤ N ∧ ro c = r) : AU Ct N (m + 1) s x0 x0 u v ro T ro := by
  refine ⟨⟨E.2.2.2.2.2.1.1, Or.inl rfl⟩, fun _ _ _ => rfl, fun c g1 g2 => ⟨?_, fun g3 => ?_⟩, fun c c' g1 g2 _ _ g3 g4 => E.2.2.2.1.2.2 c c' g1 g2 g3 g4, fun r g1 g2 => ?_, fun c g1 g2 g3 => ⟨fun q => ⟨q, g3⟩, fun q => q.1⟩⟩
  · by_cases e : ro c = 0
    · omega
    · exact (E.row g1 e).2
  · exact (E.2.1 c g3 g1).2.2
  · by_cases e : r = m + 1
    · refine ⟨0, by omega, fun z => ?_, by rw [E.2.2.2.1.2.1, e]⟩
      rw [← z, E.2.2.2.1.2.1] at h0
      omega
    · obtain ⟨c, c1, c2, c3⟩ := cov r g1 (by omega)
      exact ⟨c, c2, fun z => by rw [z, h0] at c3; omega, c3⟩
theorem AU.next {Ct : Nat → Nat → Int} {N n s x0 x : Nat} {u v sl : Nat → Int} {ro cf T rc : Nat → Nat} (E : SE Ct N n s x0 u v sl ro cf T) (h0 : ro x0 = 0) (A : AU Ct N n s x0 x u v ro T rc) (hx : x ≠ 0) :
    cf x ≤ N ∧ T (cf x) < (if x = x0 then s else T x) ∧ cf x ≠ x0 ∧ AU Ct N n s x0 (cf x) u v ro T (ps rc x (rc (cf x))) := by
  obtain ⟨⟨a0, a1⟩, a2, a3, a4, a5, a6⟩ := A
  have s0 : 0 < s := by
    refine Nat.pos_of_ne_zero (fun z => ?_)
    have := E.2.2.2.2.2.1.2.2.1 z
    rw [this, E.2.2.2.1.2.1] at h0
    have := E.2.2.2.1.1
    omega
  have x0T : s ≤ T x0 := E.2.2.2.2.2.1.2.1
  have base : cf x ≤ N ∧ T (cf x) < (if x = x0 then s else T x) ∧ T (cf x) < s ∧ u (ro (cf x)) + v x = Ct (ro (cf x) - 1) (x - 1) := by
    by_cases e : x = x0
    · subst e
      obtain ⟨w1, w2, w3, w4⟩ := E.2.2.2.2.2.1.2.2.2 s0
      rw [if_pos rfl]
      exact ⟨w2, w3, w3, w4⟩
    · have t := a1.resolve_left e
      obtain ⟨_, w⟩ := (E.2.2.2.2.1 x a0).2 t
      obtain ⟨w1, w2, w3⟩ := w hx
      rw [if_neg e]
      exact ⟨w1, w2, by omega, w3⟩
  obtain ⟨y1, y2, y3, y4⟩ := base
  have yx0 : cf x ≠ x0 := fun z => by rw [z] at y3; omega
  have yx : cf x ≠ x := fun z => by
    by_cases e : x = x0
    · exact yx0 (z.trans e)
    · rw [if_neg e, z] at y2; omega
  have ry : rc (cf x) = ro (cf x) := a2 _ y1 y2
  have rn : ro (cf x) ≠ 0 := ((E.2.2.2.2.1 _ y1).2 y3).1
  have rr := E.row y1 rn
  refine ⟨y1, y2, yx0, ⟨y1, Or.inr y3⟩, fun c g1 g2 => ?_, fun c g1 g2 => ?_, fun c c' g1 g2 g3 g4 g5 g6 => ?_, fun r g1 g2 => ?_, fun c g1 g2 g3 => ?_⟩
  · rw [if_neg yx0] at g2
    have n1 : c ≠ x := fun z => by
      subst z
      by_cases e : c = x0
      · subst e; omega
      · rw [if_neg e] at y2; omega
    rw [ps_n n1]
    exact a2 c g1 (by omega)
  · by_cases e : c = x
    · subst e
      rw [ps_s, ry]
      exact ⟨rr.2, fun _ => ⟨fun z => absurd z rn, fun _ => y4⟩⟩
    · rw [ps_n e]; exact a3 c g1 e
  · by_cases e : c = x
    · by_cases e' : c' = x
      · omega
      · rw [e, ps_s, ps_n e'] at g5
        exact absurd (a4 (cf x) c' y1 g2 yx e' g5 (by rw [ry]; exact rn)).symm g4
    · by_cases e' : c' = x
      · rw [e', ps_s, ps_n e] at g5
        rw [ps_n e] at g6
        exact absurd (a4 c (cf x) g1 y1 e yx g5 g6) g3
      · rw [ps_n e, ps_n e'] at g5
        rw [ps_n e] at g6
        exact a4 c c' g1 g2 e e' g5 g6
  · obtain ⟨c, c1, c2, c3⟩ := a5 r g1 g2
    by_cases e : c = cf x
    · exact ⟨x, a0, yx.symm, by rw [ps_s, ← e]; exact c3⟩
    · exact ⟨c, c1, e, by rw [ps_n c2]; exact c3⟩
  · by_cases e : c = x
    · subst e
      rw [ps_s, ry]
      refine ⟨fun z => absurd z rn, fun z => ?_⟩
      by_cases e : c = x0
      · exact absurd e z.2
      · exact absurd z.1 ((E.2.2.2.2.1 c a0).2 (a1.resolve_left e)).1
    · rw [ps_n e]; exact a6 c g1 g2 e
theorem AU.done {Ct : Nat → Nat → Int} {N m s x0 : Nat} {u v sl : Nat → Int} {ro cf T rc : Nat → Nat} (E : SE Ct N (m + 1) s x0 u v sl ro cf T) (h0 : ro x0 = 0) (A : AU Ct N (m + 1) s x0 0 u v ro T rc) (cnt : sumN (fun i => if ro (i + 1) = 0 then 0 else 1) N = m) : BI Ct N (m + 1) u v rc := by
  obtain ⟨⟨a0, a1⟩, a2, a3, a4, a5, a6⟩ := A
  have x1 : 1 ≤ x0 ∧ x0 ≤ N := by
    refine ⟨?_, E.2.2.2.2.2.1.1⟩
    refine Nat.pos_of_ne_zero (fun z => ?_)
    rw [z, E.2.2.2.1.2.1] at h0
    omega
  refine ⟨E.1, fun c g1 g2 => ?_, E.2.2.1, fun c c' g1 g2 g3 g4 g5 g6 => a4 c c' g2 g4 (by omega) (by omega) g5 g6, fun r g1 g2 => ?_, ?_⟩
  · have w := a3 c g2 (by omega)
    exact ⟨(E.2.1 c g1 g2).1, w.1, (w.2 g1).1, (w.2 g1).2⟩
  · obtain ⟨c, c1, c2, c3⟩ := a5 r g1 g2
    exact ⟨c, by omega, c1, c3⟩
  · rw [← cnt]
    refine sumN_inc (x := x0 - 1) (by omega) (fun i hi ne => ?_) ?_
    · have w := a6 (i + 1) (by omega) (by omega) (by omega)
      by_cases e : ro (i + 1) = 0
      · rw [if_pos e, if_pos (w.mpr ⟨e, by omega⟩)]
      · rw [if_neg e, if_neg (fun z => e (w.mp z).1)]
    · have w := a6 x0 x1.1 x1.2 (by omega)
      rw [show x0 - 1 + 1 = x0 by omega, h0, if_pos rfl, if_neg (fun z => (w.mp z).2 rfl)]
