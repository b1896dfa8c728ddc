/-! the cheapest pairing: what holds while a row seeks its column -/
def SE (Ct : Nat → Nat → Int) (N n s x : Nat) (u v sl : Nat → Int) (ro cf T : Nat → Nat) : Prop :=
  (∀ r c, 1 ≤ r → r ≤ n → 1 ≤ c → c ≤ N → u r + v c ≤ Ct (r - 1) (c - 1)) ∧
  (∀ c, 1 ≤ c → c ≤ N → v c ≤ 0 ∧ ro c < n ∧ (ro c = 0 → v c = 0) ∧ (ro c ≠ 0 → u (ro c) + v c = Ct (ro c - 1) (c - 1))) ∧
  (∀ r, 1 ≤ r → r ≤ n → 0 ≤ u r) ∧
  (1 ≤ n ∧ ro 0 = n ∧ ∀ c c', c ≤ N → c' ≤ N → ro c = ro c' → ro c ≠ 0 → c = c') ∧
  (∀ c, c ≤ N → (T c < s ∨ T c = 1000) ∧ (T c < s → ro c ≠ 0 ∧ (c ≠ 0 → cf c ≤ N ∧ T (cf c) < T c ∧ u (ro (cf c)) + v c = Ct (ro (cf c) - 1) (c - 1)))) ∧
  (x ≤ N ∧ s ≤ T x ∧ (s = 0 → x = 0) ∧ (0 < s → 1 ≤ x ∧ cf x ≤ N ∧ T (cf x) < s ∧ u (ro (cf x)) + v x = Ct (ro (cf x) - 1) (x - 1))) ∧
  (∀ c, 1 ≤ c → c ≤ N → s ≤ T c → 0 ≤ sl c ∧ sl c ≤ 4000000000000000000 ∧ (∀ c', c' ≤ N → T c' < s → sl c ≤ Ct (ro c' - 1) (c - 1) - u (ro c') - v c) ∧ ((s = 0 ∧ sl c = 4000000000000000000) ∨ (cf c ≤ N ∧ T (cf c) < s ∧ sl c = Ct (ro (cf c) - 1) (c - 1) - u (ro (cf c)) - v c)))
theorem SE.row {Ct : Nat → Nat → Int} {N n s x : Nat} {u v sl : Nat → Int} {ro cf T : Nat → Nat} (h : SE Ct N n s x u v sl ro cf T) {c : Nat} (hc : c ≤ N) (h0 : ro c ≠ 0) : 1 ≤ ro c ∧ ro c ≤ n := by
  by_cases e : c = 0
  · subst e; rw [h.2.2.2.1.2.1]; exact ⟨h.2.2.2.1.1, Nat.le_refl _⟩
  · have := (h.2.1 c (by omega) hc).2.1
    omega
set_option maxHeartbeats 1000000 in
theorem SE.step {Ct : Nat → Nat → Int} {N n s x y : Nat} {u v sl u' v' sl' sl2 : Nat → Int} {ro cf cf' T : Nat → Nat} {δ : Int} (h : SE Ct N n s x u v sl ro cf T) (hs : s < 1000) (hx : ro x ≠ 0)
    (bd : ∀ c, 1 ≤ c → c ≤ N → Ct (ro x - 1) (c - 1) - u (ro x) - v c < 4000000000000000000)
    (hy : 1 ≤ y ∧ y ≤ N ∧ s + 1 ≤ ps T x s y)
    (h1 : ∀ c, 1 ≤ c → c ≤ N → s + 1 ≤ ps T x s c → Ct (ro x - 1) (c - 1) - u (ro x) - v c < sl c → sl' c = Ct (ro x - 1) (c - 1) - u (ro x) - v c ∧ cf' c = x)
    (h2 : ∀ c, 1 ≤ c → c ≤ N → s + 1 ≤ ps T x s c → ¬ Ct (ro x - 1) (c - 1) - u (ro x) - v c < sl c → sl' c = sl c ∧ cf' c = cf c)
    (h3 : ∀ c, c ≤ N → ps T x s c < s + 1 → cf' c = cf c)
    (h4 : ∀ c, 1 ≤ c → c ≤ N → s + 1 ≤ ps T x s c → sl' y ≤ sl' c) (hd : δ = sl' y)
    (hu1 : ∀ c, c ≤ N → ps T x s c < s + 1 → u' (ro c) = u (ro c) + δ) (hu2 : ∀ r, (∀ c, c ≤ N → ps T x s c < s + 1 → ro c ≠ r) → u' r = u r)
    (hv1 : ∀ c, c ≤ N → ps T x s c < s + 1 → v' c = v c - δ) (hv2 : ∀ c, c ≤ N → s + 1 ≤ ps T x s c → v' c = v c)
    (hl : ∀ c, 1 ≤ c → c ≤ N → s + 1 ≤ ps T x s c → sl2 c = sl' c - δ) : SE Ct N n (s + 1) y u' v' sl2 ro cf' (ps T x s) := by
  have rx := h.row h.2.2.2.2.2.1.1 hx
  obtain ⟨a1, a2, a3, a4, a5, a6, a7⟩ := h
  have R : ∀ c, c ≤ N → (ps T x s c < s + 1 ↔ c = x ∨ T c < s) := fun c hc => by
    by_cases e : c = x
    · subst e; rw [ps_s]; exact ⟨fun _ => Or.inl rfl, fun _ => by omega⟩
    · rw [ps_n e]
      have := (a5 c hc).1
      constructor
      · intro q; right; omega
      · intro q
        rcases q with q | q
        · exact absurd q e
        · omega
  have NR : ∀ c, c ≤ N → s + 1 ≤ ps T x s c → c ≠ x ∧ s ≤ T c ∧ ¬ T c < s ∧ ps T x s c = T c := fun c hc q => by
    have h1 : ¬ (c = x ∨ T c < s) := fun z => by have := (R c hc).mpr z; omega
    have h2 : c ≠ x := fun z => h1 (Or.inl z)
    exact ⟨h2, by have : ¬ T c < s := fun z => h1 (Or.inr z)
                  omega, fun z => h1 (Or.inr z), ps_n h2⟩
  have rne : ∀ c, c ≤ N → ps T x s c < s + 1 → ro c ≠ 0 := fun c hc q => by
    rcases (R c hc).mp q with e | e
    · rw [e]; exact hx
    · exact ((a5 c hc).2 e).1
  have inj := a4.2.2
  have upd : ∀ r, (∃ c, c ≤ N ∧ ps T x s c < s + 1 ∧ ro c = r ∧ u' r = u r + δ) ∨ ((∀ c, c ≤ N → ps T x s c < s + 1 → ro c ≠ r) ∧ u' r = u r) := fun r => by
    by_cases e : ∃ c, c ≤ N ∧ ps T x s c < s + 1 ∧ ro c = r
    · obtain ⟨c, h1, h2, h3⟩ := e
      exact Or.inl ⟨c, h1, h2, h3, by rw [← h3]; exact hu1 c h1 h2⟩
    · have : ∀ c, c ≤ N → ps T x s c < s + 1 → ro c ≠ r := fun c h1 h2 h3 => e ⟨c, h1, h2, h3⟩
      exact Or.inr ⟨this, hu2 r this⟩
  -- the new slack, before the shift
  have q1 : ∀ c, 1 ≤ c → c ≤ N → s + 1 ≤ ps T x s c → 0 ≤ sl' c ∧ sl' c ≤ 4000000000000000000 ∧ (∀ c', c' ≤ N → ps T x s c' < s + 1 → sl' c ≤ Ct (ro c' - 1) (c - 1) - u (ro c') - v c) ∧ (cf' c ≤ N ∧ ps T x s (cf' c) < s + 1 ∧ sl' c = Ct (ro (cf' c) - 1) (c - 1) - u (ro (cf' c)) - v c) := fun c g1 g2 g3 => by
    obtain ⟨n1, n2, n3, n4⟩ := NR c g2 g3
    obtain ⟨b1, b2, b3, b4⟩ := a7 c g1 g2 n2
    have f := a1 (ro x) c rx.1 rx.2 g1 g2
    have bx := bd c g1 g2
    by_cases e : Ct (ro x - 1) (c - 1) - u (ro x) - v c < sl c
    · obtain ⟨e1, e2⟩ := h1 c g1 g2 g3 e
      rw [e1, e2]
      refine ⟨by omega, by omega, fun c' g4 g5 => ?_, a6.1, (R x a6.1).mpr (Or.inl rfl), rfl⟩
      rcases (R c' g4).mp g5 with z | z
      · rw [z]; exact Int.le_refl _
      · have := b3 c' g4 z; omega
    · obtain ⟨e1, e2⟩ := h2 c g1 g2 g3 e
      rw [e1, e2]
      refine ⟨b1, b2, fun c' g4 g5 => ?_, ?_⟩
      · rcases (R c' g4).mp g5 with z | z
        · rw [z]; omega
        · exact b3 c' g4 z
      · rcases b4 with ⟨z1, z2⟩ | ⟨z1, z2, z3⟩
        · omega
        · exact ⟨z1, (R _ z1).mpr (Or.inr z2), z3⟩
  have d0 : 0 ≤ δ := by rw [hd]; exact (q1 y hy.1 hy.2.1 hy.2.2).1
  refine ⟨fun r c g1 g2 g3 g4 => ?_, fun c g1 g2 => ?_, fun r g1 g2 => ?_, a4, fun c g1 => ⟨?_, fun g2 => ⟨rne c g1 g2, fun g3 => ?_⟩⟩, ⟨hy.2.1, hy.2.2, fun z => absurd z (by omega), fun _ => ⟨hy.1, ?_⟩⟩, fun c g1 g2 g3 => ?_⟩
  · have f := a1 r c g1 g2 g3 g4
    by_cases e : ps T x s c < s + 1
    · rw [hv1 c g4 e]
      rcases upd r with ⟨c0, _, _, _, z⟩ | ⟨_, z⟩
      · rw [z]; omega
      · rw [z]; omega
    · have e' : s + 1 ≤ ps T x s c := by omega
      rw [hv2 c g4 e']
      rcases upd r with ⟨c0, z1, z2, z3, z⟩ | ⟨_, z⟩
      · have w1 := (q1 c g3 g4 e').2.2.1 c0 z1 z2
        have w2 := h4 c g3 g4 e'
        rw [z3] at w1
        rw [z]
        omega
      · rw [z]; exact f
  · obtain ⟨b1, b2, b3, b4⟩ := a2 c g1 g2
    by_cases e : ps T x s c < s + 1
    · rw [hv1 c g2 e]
      refine ⟨by omega, b2, fun z => absurd z (rne c g2 e), fun z => ?_⟩
      rw [hu1 c g2 e]
      have := b4 z
      omega
    · have e' : s + 1 ≤ ps T x s c := by omega
      rw [hv2 c g2 e']
      refine ⟨b1, b2, b3, fun z => ?_⟩
      rw [hu2 (ro c) (fun c0 z1 z2 z3 => ?_)]
      · exact b4 z
      · have := inj c0 c z1 g2 z3 (by rw [z3]; exact z)
        subst this
        exact e z2
  · have := a3 r g1 g2
    rcases upd r with ⟨_, _, _, _, z⟩ | ⟨_, z⟩
    · rw [z]; omega
    · rw [z]; exact this
  · by_cases e : c = x
    · subst e; rw [ps_s]; left; omega
    · rw [ps_n e]
      have := (a5 c g1).1
      omega
  · have key : cf c ≤ N → T (cf c) < s → (u (ro (cf c)) + v c = Ct (ro (cf c) - 1) (c - 1)) → u' (ro (cf c)) + v' c = Ct (ro (cf c) - 1) (c - 1) := fun z1 z2 z3 => by
      rw [hu1 (cf c) z1 ((R _ z1).mpr (Or.inr z2)), hv1 c g1 g2]
      omega
    rw [h3 c g1 g2]
    rcases (R c g1).mp g2 with e | e
    · subst e
      have s0 : 0 < s := by
        refine Nat.pos_of_ne_zero (fun z => ?_)
        exact g3 (a6.2.2.1 z)
      obtain ⟨b1, b2, b3, b4⟩ := a6.2.2.2 s0
      refine ⟨b2, ?_, key b2 b3 b4⟩
      have : cf c ≠ c := fun z => by have w := a6.2.1; rw [z] at b3; omega
      rw [ps_s, ps_n this]
      exact b3
    · obtain ⟨_, b⟩ := (a5 c g1).2 e
      obtain ⟨b1, b2, b3⟩ := b g3
      have n1 : c ≠ x := fun z => by have w := a6.2.1; rw [← z] at w; omega
      have n2 : cf c ≠ x := fun z => by have w := a6.2.1; rw [← z] at w; omega
      refine ⟨b1, ?_, key b1 (by omega) b3⟩
      rw [ps_n n1, ps_n n2]
      exact b2
  · obtain ⟨_, _, _, w1, w2, w3⟩ := q1 y hy.1 hy.2.1 hy.2.2
    refine ⟨w1, w2, ?_⟩
    rw [hu1 (cf' y) w1 w2, hv2 y hy.2.1 hy.2.2]
    omega
  · obtain ⟨w1, w2, w3, w4, w5, w6⟩ := q1 c g1 g2 g3
    have w7 := h4 c g1 g2 g3
    rw [hl c g1 g2 g3, hv2 c g2 g3]
    refine ⟨by omega, by omega, fun c' g4 g5 => ?_, Or.inr ⟨w4, w5, ?_⟩⟩
    · have := w3 c' g4 g5
      rw [hu1 c' g4 g5]
      omega
    · rw [hu1 _ w4 w5]
      omega
/-- a free column bounds the worths -/
theorem SE.bd {Ct : Nat → Nat → Int} {N n s x f : Nat} {u v sl : Nat → Int} {ro cf T : Nat → Nat} {W : Int} (h : SE Ct N n s x u v sl ro cf T) (f1 : 1 ≤ f) (f2 : f ≤ N) (f3 : ro f = 0) (fw : ∀ r, r < n → Ct r (f - 1) ≤ W) (c0 : ∀ r c, r < n → c < N → 0 ≤ Ct r c) :
    (∀ r, 1 ≤ r → r ≤ n → u r ≤ W) ∧ ∀ c, 1 ≤ c → c ≤ N → -W ≤ v c := by
  have hu : ∀ r, 1 ≤ r → r ≤ n → u r ≤ W := fun r g1 g2 => by
    have h1 := h.1 r f g1 g2 f1 f2
    have h2 := (h.2.1 f f1 f2).2.2.1 f3
    have h3 := fw (r - 1) (by omega)
    omega
  refine ⟨hu, fun c g1 g2 => ?_⟩
  obtain ⟨b1, b2, b3, b4⟩ := h.2.1 c g1 g2
  have w0 : 0 ≤ W := by
    have h1 := h.2.2.1 n h.2.2.2.1.1 (Nat.le_refl _)
    have h2 := hu n h.2.2.2.1.1 (Nat.le_refl _)
    omega
  by_cases e : ro c = 0
  · have := b3 e; omega
  · have h1 := b4 e
    have h2 := hu (ro c) (by omega) (by omega)
    have h3 := c0 (ro c - 1) (c - 1) (by omega) (by omega)
    omega
