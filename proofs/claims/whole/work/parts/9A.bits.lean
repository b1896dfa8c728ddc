theorem sh12 : ∀ p, p < 13 → (1 : Int32) <<< (nI p &&& 31) = nI (2 ^ p) := by decide +kernel
theorem or12a : ∀ s, s < 12 → ∀ a, a < 64 → ∀ b, b < 64 → nI (64 * a + b) ||| nI (2 ^ s) = nI ((64 * a + b) ||| 2 ^ s) := by decide +kernel
theorem tb12a : ∀ s, s < 12 → ∀ a, a < 64 → ∀ b, b < 64 → ((((nI (64 * a + b) >>> (nI s &&& 31)) &&& 1) = 1) ↔ (64 * a + b).testBit s = true) := by decide +kernel
theorem or12 {s t : Nat} (hs : s < 12) (ht : t < 4096) : nI t ||| nI (2 ^ s) = nI (t ||| 2 ^ s) := by
  have := or12a s hs (t / 64) (by omega) (t % 64) (by omega)
  rwa [show 64 * (t / 64) + t % 64 = t by omega] at this
theorem tb12 {s t : Nat} (hs : s < 12) (ht : t < 4096) : (((nI t >>> (nI s &&& 31)) &&& 1) = 1) ↔ t.testBit s = true := by
  have := tb12a s hs (t / 64) (by omega) (t % 64) (by omega)
  rwa [show 64 * (t / 64) + t % 64 = t by omega] at this
theorem or_lt {s t S : Nat} (hs : s < S) (ht : t < 2 ^ S) : t ||| 2 ^ s < 2 ^ S := Nat.or_lt_two_pow ht (Nat.pow_lt_pow_right (by omega) hs)
