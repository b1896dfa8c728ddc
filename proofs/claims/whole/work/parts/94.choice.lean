/-! who gets which slot: the model's table, and its choice -/
def byS (al : Nat → Nat → Bool) (cs : Nat → Nat → Nat) (L : Nat → Nat) (k t s : Nat) : Nat := if t.testBit s = true ∨ al k s = false then 1000000000 else L (t ||| 2 ^ s) + cs k s
def mnF (f : Nat → Nat) (a : Nat) : Nat → Nat
  | 0 => a
  | s + 1 => if f s < mnF f a s then f s else mnF f a s
def Lf (al : Nat → Nat → Bool) (cs : Nat → Nat → Nat) (S : Nat) : Nat → Nat → Nat → Nat
  | 0, _, _ => 0
  | i + 1, k, t => mnF (byS al cs (Lf al cs S i (k + 1)) k t) (Lf al cs S i (k + 1) t + 10000000) S
def fsS (f : Nat → Nat) (v : Nat) : Nat → Nat
  | 0 => 12
  | n + 1 => if fsS f v n = 12 then (if f n = v then n else 12) else fsS f v n
def tM (al : Nat → Nat → Bool) (cs : Nat → Nat → Nat) (S n : Nat) : Nat → Nat
  | 0 => 0
  | k + 1 => if fsS (byS al cs (Lf al cs S (n - (k + 1)) (k + 1)) k (tM al cs S n k)) (Lf al cs S (n - k) k (tM al cs S n k)) S = 12 then tM al cs S n k else tM al cs S n k ||| 2 ^ fsS (byS al cs (Lf al cs S (n - (k + 1)) (k + 1)) k (tM al cs S n k)) (Lf al cs S (n - k) k (tM al cs S n k)) S
def cM (al : Nat → Nat → Bool) (cs : Nat → Nat → Nat) (S n k : Nat) : Nat := fsS (byS al cs (Lf al cs S (n - (k + 1)) (k + 1)) k (tM al cs S n k)) (Lf al cs S (n - k) k (tM al cs S n k)) S
theorem tM_s {al : Nat → Nat → Bool} {cs : Nat → Nat → Nat} {S n k : Nat} : tM al cs S n (k + 1) = if cM al cs S n k = 12 then tM al cs S n k else tM al cs S n k ||| 2 ^ cM al cs S n k := rfl
def mcS (cs : Nat → Nat → Nat) (j s : Nat) : Nat := if s = 12 then 10000000 else cs j s
def sR (f : Nat → Nat) : Nat → Nat → Nat
  | 0, _ => 0
  | i + 1, k => f k + sR f i (k + 1)
def Dn (χ : Nat → Nat) : Nat → Nat → Nat
  | 0, _ => 0
  | i + 1, k => χ k * 13 ^ (8 - k) + Dn χ i (k + 1)
/-- a choice that may be -/
def vC (al : Nat → Nat → Bool) (S i k t : Nat) (χ : Nat → Nat) : Prop := (∀ j, k ≤ j → j < k + i → χ j = 12 ∨ (χ j < S ∧ al j (χ j) = true ∧ t.testBit (χ j) = false)) ∧ ∀ j j', k ≤ j → j < k + i → k ≤ j' → j' < k + i → χ j = χ j' → χ j ≠ 12 → j = j'
theorem mnF_a {f : Nat → Nat} {a : Nat} : ∀ {n : Nat}, mnF f a n ≤ a
  | 0 => Nat.le_refl _
  | n + 1 => by
    have := mnF_a (f := f) (a := a) (n := n)
    show (if f n < mnF f a n then f n else mnF f a n) ≤ a
    by_cases c : f n < mnF f a n
    · rw [if_pos c]; omega
    · rw [if_neg c]; exact this
theorem mnF_s {f : Nat → Nat} {a s : Nat} : ∀ {n : Nat}, s < n → mnF f a n ≤ f s
  | 0, h => absurd h (by omega)
  | n + 1, h => by
    show (if f n < mnF f a n then f n else mnF f a n) ≤ f s
    by_cases c : f n < mnF f a n
    · rw [if_pos c]
      by_cases e : s = n
      · subst e; exact Nat.le_refl _
      · have := mnF_s (f := f) (a := a) (s := s) (n := n) (by omega); omega
    · rw [if_neg c]
      by_cases e : s = n
      · subst e; omega
      · exact mnF_s (by omega)
theorem mnF_at {f : Nat → Nat} {a : Nat} : ∀ {n : Nat}, mnF f a n = a ∨ ∃ s, s < n ∧ mnF f a n = f s
  | 0 => Or.inl rfl
  | n + 1 => by
    show (if f n < mnF f a n then f n else mnF f a n) = a ∨ ∃ s, s < n + 1 ∧ (if f n < mnF f a n then f n else mnF f a n) = f s
    by_cases c : f n < mnF f a n
    · rw [if_pos c]; exact Or.inr ⟨n, by omega, rfl⟩
    · rw [if_neg c]
      rcases mnF_at (f := f) (a := a) (n := n) with q | ⟨s, h1, h2⟩
      · exact Or.inl q
      · exact Or.inr ⟨s, by omega, h2⟩
theorem fsS_12 {f : Nat → Nat} {v : Nat} : ∀ {n : Nat}, n ≤ 12 → fsS f v n = 12 → ∀ s, s < n → f s ≠ v
  | 0, _, _, s, h => absurd h (by omega)
  | n + 1, h12, e, s, h => by
    have e' : (if fsS f v n = 12 then (if f n = v then n else 12) else fsS f v n) = 12 := e
    by_cases c : fsS f v n = 12
    · rw [if_pos c] at e'
      by_cases c2 : f n = v
      · rw [if_pos c2] at e'; omega
      · by_cases es : s = n
        · subst es; exact c2
        · exact fsS_12 (by omega) c s (by omega)
    · rw [if_neg c] at e'; exact absurd e' c
theorem fsS_n {f : Nat → Nat} {v : Nat} : ∀ {n : Nat}, n ≤ 12 → fsS f v n ≠ 12 → fsS f v n < n ∧ f (fsS f v n) = v ∧ ∀ s, s < fsS f v n → f s ≠ v
  | 0, _, e => absurd rfl e
  | n + 1, h12, e => by
    have ee : fsS f v (n + 1) = if fsS f v n = 12 then (if f n = v then n else 12) else fsS f v n := rfl
    rw [ee] at e ⊢
    by_cases c : fsS f v n = 12
    · rw [if_pos c] at e ⊢
      by_cases c2 : f n = v
      · rw [if_pos c2]
        exact ⟨by omega, c2, fun s hs => fsS_12 (by omega) c s hs⟩
      · rw [if_neg c2] at e; exact absurd rfl e
    · rw [if_neg c] at e ⊢
      have := fsS_n (f := f) (v := v) (n := n) (by omega) c
      exact ⟨by omega, this.2⟩
section CHOICE
variable {al : Nat → Nat → Bool} {cs : Nat → Nat → Nat} {S : Nat}
theorem Lf_bd : ∀ {i k t : Nat}, Lf al cs S i k t ≤ i * 10000000
  | 0, _, _ => Nat.le_refl _
  | i + 1, k, t => by
    have h1 := Lf_bd (i := i) (k := k + 1) (t := t)
    have h2 : Lf al cs S (i + 1) k t ≤ Lf al cs S i (k + 1) t + 10000000 := mnF_a
    rw [Nat.succ_mul]; omega
theorem bitOr {t s b : Nat} : (t ||| 2 ^ s).testBit b = false ↔ t.testBit b = false ∧ s ≠ b := by
  rw [Nat.testBit_or, Nat.testBit_two_pow, Bool.or_eq_false_iff, decide_eq_false_iff_not]
theorem vC_next {i k t : Nat} {χ : Nat → Nat} (v : vC al S (i + 1) k t χ) : vC al S i (k + 1) (if χ k = 12 then t else t ||| 2 ^ χ k) χ := by
  refine ⟨fun j h1 h2 => ?_, fun j j' h1 h2 h3 h4 => v.2 j j' (by omega) (by omega) (by omega) (by omega)⟩
  rcases v.1 j (by omega) (by omega) with q | ⟨q1, q2, q3⟩
  · exact Or.inl q
  · by_cases e : χ k = 12
    · rw [if_pos e]; exact Or.inr ⟨q1, q2, q3⟩
    · rw [if_neg e]
      by_cases e2 : χ j = 12
      · exact Or.inl e2
      · refine Or.inr ⟨q1, q2, bitOr.mpr ⟨q3, fun z => ?_⟩⟩
        have := v.2 k j (by omega) (by omega) (by omega) (by omega) z e
        omega
theorem Lf_le (hS : S ≤ 12) : ∀ {i k t : Nat} {χ : Nat → Nat}, vC al S i k t χ → Lf al cs S i k t ≤ sR (fun j => mcS cs j (χ j)) i k
  | 0, _, _, _, _ => Nat.le_refl _
  | i + 1, k, t, χ, v => by
    have ih := Lf_le hS (vC_next v)
    show mnF (byS al cs (Lf al cs S i (k + 1)) k t) (Lf al cs S i (k + 1) t + 10000000) S ≤ mcS cs k (χ k) + sR (fun j => mcS cs j (χ j)) i (k + 1)
    rcases v.1 k (by omega) (by omega) with q | ⟨q1, q2, q3⟩
    · rw [if_pos q] at ih
      have : mnF (byS al cs (Lf al cs S i (k + 1)) k t) (Lf al cs S i (k + 1) t + 10000000) S ≤ Lf al cs S i (k + 1) t + 10000000 := mnF_a
      unfold mcS
      rw [if_pos q]
      unfold mcS at ih
      omega
    · have n12 : χ k ≠ 12 := by omega
      rw [if_neg n12] at ih
      have := mnF_s (f := byS al cs (Lf al cs S i (k + 1)) k t) (a := Lf al cs S i (k + 1) t + 10000000) q1
      have e : byS al cs (Lf al cs S i (k + 1)) k t (χ k) = Lf al cs S i (k + 1) (t ||| 2 ^ χ k) + cs k (χ k) := by
        unfold byS
        rw [if_neg (fun z => by rcases z with z | z <;> simp_all)]
      have m : mcS cs k (χ k) = cs k (χ k) := if_neg n12
      omega
theorem cM_ok {n : Nat} (hS : S ≤ 12) (hn : n ≤ 9) : ∀ (i k : Nat), k + i = n → vC al S i k (tM al cs S n k) (cM al cs S n) ∧ sR (fun j => mcS cs j (cM al cs S n j)) i k = Lf al cs S i k (tM al cs S n k)
  | 0, k, _ => ⟨⟨fun j h1 h2 => absurd h2 (by omega), fun j j' h1 h2 => absurd h2 (by omega)⟩, rfl⟩
  | i + 1, k, e => by
    obtain ⟨⟨v1, v2⟩, se⟩ := cM_ok hS hn i (k + 1) (by omega)
    have L0 : Lf al cs S (i + 1) k (tM al cs S n k) = mnF (byS al cs (Lf al cs S i (k + 1)) k (tM al cs S n k)) (Lf al cs S i (k + 1) (tM al cs S n k) + 10000000) S := rfl
    have lb := Lf_bd (al := al) (cs := cs) (S := S) (i := i + 1) (k := k) (t := tM al cs S n k)
    have lb9 : (i + 1) * 10000000 ≤ 9 * 10000000 := Nat.mul_le_mul_right _ (by omega)
    have cD : cM al cs S n k = fsS (byS al cs (Lf al cs S i (k + 1)) k (tM al cs S n k)) (Lf al cs S (i + 1) k (tM al cs S n k)) S := by
      unfold cM
      rw [show n - (k + 1) = i by omega, show n - k = i + 1 by omega]
    rw [tM_s] at v1 se
    have main : cM al cs S n k = 12 ∨ (cM al cs S n k ≠ 12 ∧ cM al cs S n k < S ∧ byS al cs (Lf al cs S i (k + 1)) k (tM al cs S n k) (cM al cs S n k) = Lf al cs S (i + 1) k (tM al cs S n k) ∧ al k (cM al cs S n k) = true ∧ (tM al cs S n k).testBit (cM al cs S n k) = false) := by
      by_cases q : cM al cs S n k = 12
      · exact Or.inl q
      · have w := fsS_n hS (by rw [← cD]; exact q)
        rw [← cD] at w
        refine Or.inr ⟨q, w.1, w.2.1, ?_⟩
        have b := w.2.1
        unfold byS at b
        by_cases z : (tM al cs S n k).testBit (cM al cs S n k) = true ∨ al k (cM al cs S n k) = false
        · rw [if_pos z] at b; omega
        · refine ⟨?_, ?_⟩
          · cases h : al k (cM al cs S n k) with
            | true => rfl
            | false => exact absurd (Or.inr h) z
          · cases h : (tM al cs S n k).testBit (cM al cs S n k) with
            | false => rfl
            | true => exact absurd (Or.inl h) z
    refine ⟨⟨fun j h1 h2 => ?_, fun j j' h1 h2 h3 h4 h5 h6 => ?_⟩, ?_⟩
    · by_cases ej : j = k
      · subst ej
        rcases main with q | ⟨_, q1, _, q2, q3⟩
        · exact Or.inl q
        · exact Or.inr ⟨q1, q2, q3⟩
      · rcases v1 j (by omega) (by omega) with q | ⟨q1, q2, q3⟩
        · exact Or.inl q
        · refine Or.inr ⟨q1, q2, ?_⟩
          by_cases c : cM al cs S n k = 12
          · rw [if_pos c] at q3; exact q3
          · rw [if_neg c] at q3; exact (bitOr.mp q3).1
    · have key : ∀ j, k < j → j < k + (i + 1) → cM al cs S n k = cM al cs S n j → cM al cs S n k ≠ 12 → False := fun j g1 g2 g3 g4 => by
        rcases v1 j (by omega) (by omega) with q | ⟨q1, q2, q3⟩
        · rw [q] at g3; exact g4 g3
        · rw [if_neg g4] at q3
          exact (bitOr.mp q3).2 g3
      by_cases ej : j = k
      · by_cases ej' : j' = k
        · omega
        · subst ej
          exact (key j' (by omega) h4 h5 h6).elim
      · by_cases ej' : j' = k
        · subst ej'
          exact (key j (by omega) h2 h5.symm (by rw [← h5]; exact h6)).elim
        · exact v2 j j' (by omega) (by omega) (by omega) (by omega) h5 h6
    · show mcS cs k (cM al cs S n k) + sR (fun j => mcS cs j (cM al cs S n j)) i (k + 1) = _
      rw [se]
      rcases main with q | ⟨q0, q1, q2, q3, q4⟩
      · have nf := fsS_12 hS (by rw [← cD]; exact q)
        unfold mcS
        rw [if_pos q, if_pos q]
        rcases mnF_at (f := byS al cs (Lf al cs S i (k + 1)) k (tM al cs S n k)) (a := Lf al cs S i (k + 1) (tM al cs S n k) + 10000000) (n := S) with z | ⟨s, z1, z2⟩
        · rw [L0, z]; omega
        · rw [← L0] at z2
          exact absurd z2.symm (nf s z1)
      · unfold mcS
        rw [if_neg q0, if_neg q0, ← q2]
        unfold byS
        rw [if_neg (fun z => by rcases z with z | z <;> simp_all)]
        omega
theorem Dn_bd {χ : Nat → Nat} : ∀ {i k : Nat}, k + i ≤ 9 → (∀ j, k ≤ j → j < k + i → χ j ≤ 12) → Dn χ i k < 13 ^ (9 - k)
  | 0, k, _, _ => Nat.pow_pos (by omega)
  | i + 1, k, e, d => by
    have ih := Dn_bd (χ := χ) (i := i) (k := k + 1) (by omega) (fun j h1 h2 => d j (by omega) (by omega))
    have dk := d k (by omega) (by omega)
    show χ k * 13 ^ (8 - k) + Dn χ i (k + 1) < 13 ^ (9 - k)
    rw [show 9 - (k + 1) = 8 - k by omega] at ih
    rw [show 9 - k = (8 - k) + 1 by omega, Nat.pow_succ]
    have : χ k * 13 ^ (8 - k) ≤ 12 * 13 ^ (8 - k) := Nat.mul_le_mul_right _ dk
    omega
theorem vC_12 {i k t : Nat} {χ : Nat → Nat} (hS : S ≤ 12) (v : vC al S i k t χ) : ∀ j, k ≤ j → j < k + i → χ j ≤ 12 := fun j h1 h2 => by
  rcases v.1 j h1 h2 with q | q
  · omega
  · have := q.1; omega
theorem cM_lex {n : Nat} (hS : S ≤ 12) (hn : n ≤ 9) : ∀ (i k : Nat) (χ : Nat → Nat), k + i = n → vC al S i k (tM al cs S n k) χ → sR (fun j => mcS cs j (χ j)) i k = Lf al cs S i k (tM al cs S n k) → Dn (cM al cs S n) i k ≤ Dn χ i k ∧ (Dn (cM al cs S n) i k = Dn χ i k → ∀ j, k ≤ j → j < k + i → cM al cs S n j = χ j)
  | 0, k, _, _, _, _ => ⟨Nat.le_refl _, fun _ j h1 h2 => absurd h2 (by omega)⟩
  | i + 1, k, χ, e, v, se => by
    have vM := (cM_ok (al := al) (cs := cs) hS hn (i + 1) k e).1
    have cD : cM al cs S n k = fsS (byS al cs (Lf al cs S i (k + 1)) k (tM al cs S n k)) (Lf al cs S (i + 1) k (tM al cs S n k)) S := by
      unfold cM
      rw [show n - (k + 1) = i by omega, show n - k = i + 1 by omega]
    have vn := vC_next v
    have ln := Lf_le (cs := cs) hS vn
    have se' : mcS cs k (χ k) + sR (fun j => mcS cs j (χ j)) i (k + 1) = Lf al cs S (i + 1) k (tM al cs S n k) := se
    have x12 := vC_12 hS v k (by omega) (by omega)
    have m12 := vC_12 hS vM k (by omega) (by omega)
    -- what is chosen there is one that the table allows
    have tight : sR (fun j => mcS cs j (χ j)) i (k + 1) = Lf al cs S i (k + 1) (if χ k = 12 then tM al cs S n k else tM al cs S n k ||| 2 ^ χ k) ∧ (χ k ≠ 12 → byS al cs (Lf al cs S i (k + 1)) k (tM al cs S n k) (χ k) = Lf al cs S (i + 1) k (tM al cs S n k)) := by
      by_cases q : χ k = 12
      · rw [if_pos q] at ln ⊢
        have a1 : Lf al cs S (i + 1) k (tM al cs S n k) ≤ Lf al cs S i (k + 1) (tM al cs S n k) + 10000000 := mnF_a
        have a2 : mcS cs k (χ k) = 10000000 := if_pos q
        exact ⟨by omega, fun z => absurd q z⟩
      · rw [if_neg q] at ln ⊢
        obtain ⟨q1, q2, q3⟩ := (v.1 k (by omega) (by omega)).resolve_left q
        have a1 : Lf al cs S (i + 1) k (tM al cs S n k) ≤ byS al cs (Lf al cs S i (k + 1)) k (tM al cs S n k) (χ k) := mnF_s q1
        have a2 : mcS cs k (χ k) = cs k (χ k) := if_neg q
        have a3 : byS al cs (Lf al cs S i (k + 1)) k (tM al cs S n k) (χ k) = Lf al cs S i (k + 1) (tM al cs S n k ||| 2 ^ χ k) + cs k (χ k) := by
          unfold byS
          rw [if_neg (fun z => by rcases z with z | z <;> simp_all)]
        exact ⟨by omega, fun _ => by omega⟩
    have le : cM al cs S n k ≤ χ k := by
      by_cases q : χ k = 12
      · omega
      · have t2 := tight.2 q
        obtain ⟨q1, _⟩ := (v.1 k (by omega) (by omega)).resolve_left q
        by_cases c : cM al cs S n k = 12
        · exact absurd t2 (fsS_12 hS (by rw [← cD]; exact c) (χ k) q1)
        · have w := fsS_n hS (by rw [← cD]; exact c)
          rw [← cD] at w
          refine Nat.not_lt.mp (fun z => ?_)
          exact w.2.2 (χ k) z t2
    have D1 : Dn (cM al cs S n) (i + 1) k = cM al cs S n k * 13 ^ (8 - k) + Dn (cM al cs S n) i (k + 1) := rfl
    have D2 : Dn χ (i + 1) k = χ k * 13 ^ (8 - k) + Dn χ i (k + 1) := rfl
    by_cases eq : cM al cs S n k = χ k
    · have ts : tM al cs S n (k + 1) = if χ k = 12 then tM al cs S n k else tM al cs S n k ||| 2 ^ χ k := by rw [tM_s, eq]
      have ih := cM_lex hS hn i (k + 1) χ (by omega) (by rw [ts]; exact vn) (by rw [ts]; exact tight.1)
      rw [D1, D2, eq]
      refine ⟨by have := ih.1; omega, fun z j h1 h2 => ?_⟩
      by_cases ej : j = k
      · subst ej; exact eq
      · exact ih.2 (by omega) j (by omega) (by omega)
    · have lt : cM al cs S n k + 1 ≤ χ k := by omega
      have bd := Dn_bd (χ := cM al cs S n) (i := i) (k := k + 1) (by omega) (fun j h1 h2 => vC_12 hS vM j (by omega) (by omega))
      rw [show 9 - (k + 1) = 8 - k by omega] at bd
      have ml : (cM al cs S n k + 1) * 13 ^ (8 - k) ≤ χ k * 13 ^ (8 - k) := Nat.mul_le_mul_right _ lt
      rw [Nat.succ_mul] at ml
      rw [D1, D2]
      exact ⟨by omega, fun z => by omega⟩
end CHOICE
