def rkS (rk : Nat → Nat → Nat) (j s : Nat) : Nat := if s = 12 then 20000 else rk j s
theorem sR_app {f : Nat → Nat} : ∀ {i k : Nat}, sR f (i + 1) k = sR f i k + f (k + i)
  | 0, k => by
    show f k + 0 = 0 + f (k + 0)
    rw [Nat.add_zero, Nat.add_zero, Nat.zero_add]
  | i + 1, k => by
    show f k + sR f (i + 1) (k + 1) = f k + sR f i (k + 1) + f (k + (i + 1))
    rw [sR_app (i := i) (k := k + 1), show k + 1 + i = k + (i + 1) by omega]
    omega
theorem Dn_sR {χ : Nat → Nat} : ∀ {i k : Nat}, Dn χ i k = sR (fun j => χ j * 13 ^ (8 - j)) i k
  | 0, _ => rfl
  | i + 1, k => by
    show χ k * 13 ^ (8 - k) + Dn χ i (k + 1) = χ k * 13 ^ (8 - k) + sR _ i (k + 1)
    rw [Dn_sR]
/-- the class's sum of costs, as ranks and digits -/
theorem sum_VD {rk : Nat → Nat → Nat} {χ : Nat → Nat} : ∀ {n : Nat}, sumI (fun j => ((rkS rk j (χ j) * 10604499373 + χ j * 13 ^ (8 - j) : Nat) : Int)) n = ((sR (fun j => rkS rk j (χ j)) n 0 * 10604499373 + Dn χ n 0 : Nat) : Int)
  | 0 => by
    have e1 : sR (fun j => rkS rk j (χ j)) 0 0 = 0 := rfl
    have e2 : Dn χ 0 0 = 0 := rfl
    rw [e1, e2, Nat.zero_mul]
    rfl
  | n + 1 => by
    show sumI (fun j => ((rkS rk j (χ j) * 10604499373 + χ j * 13 ^ (8 - j) : Nat) : Int)) n + ((rkS rk n (χ n) * 10604499373 + χ n * 13 ^ (8 - n) : Nat) : Int) = _
    rw [sum_VD, Dn_sR, Dn_sR, sR_app, sR_app, Nat.zero_add]
    have : (sR (fun j => rkS rk j (χ j)) n 0 + rkS rk n (χ n)) * 10604499373 = sR (fun j => rkS rk j (χ j)) n 0 * 10604499373 + rkS rk n (χ n) * 10604499373 := Nat.add_mul _ _ _
    rw [this]
    omega
section UNIQ
variable {al : Nat → Nat → Bool} {wy : Nat → Nat → Nat} {fr : Nat → Nat → Bool} {S : Nat}
def csW (wy : Nat → Nat → Nat) (fr : Nat → Nat → Bool) (j s : Nat) : Nat := wy j s + if fr j s = true then 100000 else 0
def rkW (wy : Nat → Nat → Nat) (fr : Nat → Nat → Bool) (j s : Nat) : Nat := wy j s + if fr j s = true then 2000 else 0
theorem dec3 {χ : Nat → Nat} : ∀ {i k : Nat}, (∀ j, k ≤ j → j < k + i → χ j ≠ 12 → wy j (χ j) ≤ 198) → ∃ a b x, a ≤ i ∧ b ≤ i ∧ x ≤ 198 * i ∧ sR (fun j => mcS (csW wy fr) j (χ j)) i k = 10000000 * a + 100000 * b + x ∧ sR (fun j => rkS (rkW wy fr) j (χ j)) i k = 20000 * a + 2000 * b + x
  | 0, _, _ => ⟨0, 0, 0, by omega, by omega, by omega, rfl, rfl⟩
  | i + 1, k, h => by
    obtain ⟨a, b, x, h1, h2, h3, h4, h5⟩ := dec3 (χ := χ) (i := i) (k := k + 1) (fun j g1 g2 => h j (by omega) (by omega))
    have e1 : sR (fun j => mcS (csW wy fr) j (χ j)) (i + 1) k = mcS (csW wy fr) k (χ k) + sR (fun j => mcS (csW wy fr) j (χ j)) i (k + 1) := rfl
    have e2 : sR (fun j => rkS (rkW wy fr) j (χ j)) (i + 1) k = rkS (rkW wy fr) k (χ k) + sR (fun j => rkS (rkW wy fr) j (χ j)) i (k + 1) := rfl
    by_cases c : χ k = 12
    · have m1 : mcS (csW wy fr) k (χ k) = 10000000 := if_pos c
      have m2 : rkS (rkW wy fr) k (χ k) = 20000 := if_pos c
      exact ⟨a + 1, b, x, by omega, by omega, by omega, by omega, by omega⟩
    · have w := h k (by omega) (by omega) c
      have m1 : mcS (csW wy fr) k (χ k) = wy k (χ k) + (if fr k (χ k) = true then 100000 else 0) := if_neg c
      have m2 : rkS (rkW wy fr) k (χ k) = wy k (χ k) + (if fr k (χ k) = true then 2000 else 0) := if_neg c
      by_cases f : fr k (χ k) = true
      · rw [if_pos f] at m1 m2
        exact ⟨a, b + 1, x + wy k (χ k), by omega, by omega, by omega, by omega, by omega⟩
      · rw [if_neg f] at m1 m2
        exact ⟨a, b, x + wy k (χ k), by omega, by omega, by omega, by omega, by omega⟩
/-- the cheapest choice is the model's -/
theorem uniq {n : Nat} {χ : Nat → Nat} (hS : S ≤ 12) (hn : n ≤ 9) (hw : ∀ j s, j < n → s < S → wy j s ≤ 198) (v : vC al S n 0 0 χ)
    (mn : ∀ χ', vC al S n 0 0 χ' → sR (fun j => rkS (rkW wy fr) j (χ j)) n 0 * 10604499373 + Dn χ n 0 ≤ sR (fun j => rkS (rkW wy fr) j (χ' j)) n 0 * 10604499373 + Dn χ' n 0) :
    (∀ j, j < n → cM al (csW wy fr) S n j = χ j) ∧ ∃ a b x, a ≤ 9 ∧ b ≤ 9 ∧ x ≤ 1782 ∧ Lf al (csW wy fr) S n 0 0 = 10000000 * a + 100000 * b + x ∧ sR (fun j => rkS (rkW wy fr) j (χ j)) n 0 = 20000 * a + 2000 * b + x := by
  obtain ⟨vM, sM⟩ := cM_ok (al := al) (cs := csW wy fr) hS hn n 0 (by omega)
  have tm0 : tM al (csW wy fr) S n 0 = 0 := rfl
  rw [tm0] at vM sM
  have wb : ∀ χ', vC al S n 0 0 χ' → ∀ j, 0 ≤ j → j < 0 + n → χ' j ≠ 12 → wy j (χ' j) ≤ 198 := fun χ' v' j h1 h2 h3 => hw j _ (by omega) ((v'.1 j h1 h2).resolve_left h3).1
  obtain ⟨a, b, x, a1, b1, x1, m1, r1⟩ := dec3 (wy := wy) (fr := fr) (wb χ v)
  obtain ⟨a', b', x', a2, b2, x2, m2, r2⟩ := dec3 (wy := wy) (fr := fr) (wb _ vM)
  have le := Lf_le (cs := csW wy fr) hS v
  have mm := mn _ vM
  have d1 := Dn_bd (χ := χ) (i := n) (k := 0) (by omega) (vC_12 hS v)
  have d2 := Dn_bd (χ := cM al (csW wy fr) S n) (i := n) (k := 0) (by omega) (vC_12 hS vM)
  have p9 : 13 ^ (9 - 0) = 10604499373 := by decide
  rw [p9] at d1 d2
  rw [← sM, m2, m1] at le
  rw [r1, r2] at mm
  have x198 : 198 * n ≤ 198 * 9 := Nat.mul_le_mul_left _ hn
  have same : a = a' ∧ b = b' ∧ x = x' := by omega
  obtain ⟨rfl, rfl, rfl⟩ := same
  have lex := cM_lex (al := al) (cs := csW wy fr) hS hn n 0 χ (by omega) (by rw [tm0]; exact v) (by rw [tm0, m1, ← sM, m2])
  refine ⟨fun j hj => lex.2 (by omega) j (by omega) (by omega), a, b, x, by omega, by omega, by omega, by rw [← sM, m2], r1⟩
end UNIQ
