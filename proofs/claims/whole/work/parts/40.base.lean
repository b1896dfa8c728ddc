/-- a truth as an int -/
def zb (p : Prop) [Decidable p] : Int32 := if p then 1 else 0
theorem zb_t {p : Prop} [Decidable p] (h : p) : zb p = 1 := if_pos h
theorem zb_f {p : Prop} [Decidable p] (h : ¬ p) : zb p = 0 := if_neg h
theorem zb_eq0 {p : Prop} [Decidable p] : zb p = 0 ↔ ¬ p := by
  by_cases h : p
  · rw [zb_t h]; simp [h]
  · rw [zb_f h]; simp [h]
theorem zb_01 {p : Prop} [Decidable p] : zb p = 0 ∨ zb p = 1 := by
  by_cases h : p
  · exact Or.inr (zb_t h)
  · exact Or.inl (zb_f h)
theorem zb_congr {p q : Prop} [Decidable p] [Decidable q] (h : p ↔ q) : zb p = zb q := by
  by_cases hp : p
  · rw [zb_t hp, zb_t (h.mp hp)]
  · rw [zb_f hp, zb_f (fun x => hp (h.mpr x))]
theorem i64_le (a b : Int32) : a.toInt64 ≤ b.toInt64 ↔ a ≤ b := by
  rw [Int64.le_iff_toInt_le, Int32.toInt_toInt64, Int32.toInt_toInt64, Int32.le_iff_toInt_le]
theorem i64_lt (a b : Int32) : a.toInt64 < b.toInt64 ↔ a < b := by
  rw [Int64.lt_iff_toInt_lt, Int32.toInt_toInt64, Int32.toInt_toInt64, Int32.lt_iff_toInt_lt]
theorem lgc_lt (a b : Int64) : lg_cmp a b < 0 ↔ a < b := by
  unfold lg_cmp
  by_cases h1 : a > b
  · rw [if_pos h1]
    have : ¬ a < b := Int64.not_lt.mpr (Int64.le_of_lt h1)
    simp [this]
  · rw [if_neg h1]
    by_cases h2 : a = b
    · rw [if_pos h2, h2]; simp
    · rw [if_neg h2]
      have : a < b := Int64.lt_of_le_of_ne (Int64.not_lt.mp h1) h2
      simp [this]
theorem lgc_gt (a b : Int64) : 0 < lg_cmp a b ↔ b < a := by
  unfold lg_cmp
  by_cases h1 : a > b
  · rw [if_pos h1]; simpa using h1
  · rw [if_neg h1]
    by_cases h2 : a = b
    · rw [if_pos h2, h2]; simp
    · rw [if_neg h2]
      simpa using h1
section S1
variable {ψ : Int32 → ZH → Prop} {h : ZH}
theorem s_X10_isWithin {a b c : Int32} (k : ψ (zb (b ≤ a ∧ a ≤ c)) h) : ZcI mX10_isWithin [.int a, .int b, .int c] h ψ := by
  refine wX10_isWithin ⟨fun q => ?_, fun q => ⟨fun q2 => ?_, fun q2 => ?_⟩⟩
  · rwa [zb_f (fun x => Int32.not_lt.mpr x.1 q)] at k
  · rwa [zb_f (fun x => Int32.not_lt.mpr x.2 q2)] at k
  · rwa [zb_t ⟨Int32.not_lt.mp q, Int32.not_lt.mp q2⟩] at k
theorem s_X11_in {a b c : Int64} (k : ψ (zb (b ≤ a ∧ a ≤ c)) h) : ZcI mX11_in [.long a, .long b, .long c] h ψ := by
  refine wX11_in ⟨fun q => ?_, fun q => ⟨fun q2 => ?_, fun q2 => ?_⟩⟩
  · rw [lgc_lt] at q
    rwa [zb_f (fun x => Int64.not_lt.mpr x.1 q)] at k
  · rw [lgc_gt] at q2
    rwa [zb_f (fun x => Int64.not_lt.mpr x.2 q2)] at k
  · rw [lgc_lt] at q
    rw [lgc_gt] at q2
    rwa [zb_t ⟨Int64.not_lt.mp q, Int64.not_lt.mp q2⟩] at k
/-- the model's in, of an int between ints -/
theorem s_X11_inI {a b c : Int32} {b' c' : Int64} (hb : b' = b.toInt64) (hc : c' = c.toInt64) (k : ψ (zb (b ≤ a ∧ a ≤ c)) h) : ZcI mX11_in [.long a.toInt64, .long b', .long c'] h ψ := by
  subst hb hc
  refine s_X11_in ?_
  rwa [zb_congr (and_congr (i64_le b a) (i64_le a c))]
theorem s_X10_isPlace {a b : Int32} (k : ψ (zb ((0 ≤ a ∧ a ≤ 99) ∧ 0 ≤ b ∧ b ≤ 99)) h) : ZcI mX10_isPlace [.int a, .int b] h ψ := by
  refine wX10_isPlace (s_X10_isWithin ⟨fun q => ?_, fun q => s_X10_isWithin ⟨fun q2 => ?_, fun q2 => ?_⟩⟩)
  · rwa [zb_f (fun x => zb_eq0.mp q x.1)] at k
  · rwa [zb_f (fun x => zb_eq0.mp q2 x.2)] at k
  · rwa [zb_t ⟨Classical.not_not.mp (fun x => q (zb_eq0.mpr x)), Classical.not_not.mp (fun x => q2 (zb_eq0.mpr x))⟩] at k
theorem s_X11_isPlace {a b : Int32} (k : ψ (zb ((0 ≤ a ∧ a ≤ 99) ∧ 0 ≤ b ∧ b ≤ 99)) h) : ZcI mX11_isPlace [.int a, .int b] h ψ := by
  refine wX11_isPlace (s_X11_inI (b := 0) (c := 99) rfl rfl ⟨fun q => ?_, fun q => s_X11_inI (b := 0) (c := 99) rfl rfl ⟨fun q2 => ?_, fun q2 => ?_⟩⟩)
  · rwa [zb_f (fun x => zb_eq0.mp q x.1)] at k
  · rwa [zb_f (fun x => zb_eq0.mp q2 x.2)] at k
  · rwa [zb_t ⟨Classical.not_not.mp (fun x => q (zb_eq0.mpr x)), Classical.not_not.mp (fun x => q2 (zb_eq0.mpr x))⟩] at k
theorem s_X10_isTown {a : Int32} (k : ψ (zb (0 ≤ a ∧ a ≤ 5)) h) : ZcI mX10_isTown [.int a] h ψ := wX10_isTown (s_X10_isWithin ⟨zb_01, k⟩)
theorem s_X10_isTrade {a : Int32} (k : ψ (zb (0 ≤ a ∧ a ≤ 2)) h) : ZcI mX10_isTrade [.int a] h ψ := wX10_isTrade (s_X10_isWithin ⟨zb_01, k⟩)
theorem s_X10_isRule {a : Int32} (k : ψ (zb (0 ≤ a ∧ a ≤ 2)) h) : ZcI mX10_isRule [.int a] h ψ := wX10_isRule (s_X10_isWithin ⟨zb_01, k⟩)
theorem s_X11_isTown {a : Int32} (k : ψ (zb (0 ≤ a ∧ a ≤ 5)) h) : ZcI mX11_isTown [.int a] h ψ := wX11_isTown (s_X11_inI (b := 0) (c := 5) rfl rfl ⟨zb_01, k⟩)
theorem s_X10_isPit {x : Nat} {a : Int32} (hx : zK h x = 11) (k : ψ (zb (0 ≤ a ∧ a ≤ zI h x 12 - 1)) h) : ZcI mX10_isPit [.ref x, .int a] h ψ := wX10_isPit ⟨hx, s_X10_isWithin ⟨zb_01, k⟩⟩
theorem s_X10_isMan {x : Nat} {a : Int32} (hx : zK h x = 11) (k : ψ (zb (0 ≤ a ∧ a ≤ zI h x 13 - 1)) h) : ZcI mX10_isMan [.ref x, .int a] h ψ := wX10_isMan ⟨hx, s_X10_isWithin ⟨zb_01, k⟩⟩
theorem s_X10_isHarm {x : Nat} {a : Int32} (hx : zK h x = 11) (k : ψ (zb (0 ≤ a ∧ a ≤ zI h x 14 - 1)) h) : ZcI mX10_isHarm [.ref x, .int a] h ψ := wX10_isHarm ⟨hx, s_X10_isWithin ⟨zb_01, k⟩⟩
theorem s_X11_isPit {x : Nat} {a : Int32} (hx : zK h x = 12) (k : ψ (zb (0 ≤ a ∧ a ≤ zI h x 9 - 1)) h) : ZcI mX11_isPit [.ref x, .int a] h ψ := wX11_isPit ⟨hx, s_X11_inI (b := 0) rfl rfl ⟨zb_01, k⟩⟩
theorem s_X11_isMan {x : Nat} {a : Int32} (hx : zK h x = 12) (k : ψ (zb (0 ≤ a ∧ a ≤ zI h x 17 - 1)) h) : ZcI mX11_isMan [.ref x, .int a] h ψ := wX11_isMan ⟨hx, s_X11_inI (b := 0) rfl rfl ⟨zb_01, k⟩⟩
theorem s_X11_isHarm {x : Nat} {a : Int32} (hx : zK h x = 12) (k : ψ (zb (0 ≤ a ∧ a ≤ zI h x 53 - 1)) h) : ZcI mX11_isHarm [.ref x, .int a] h ψ := wX11_isHarm ⟨hx, s_X11_inI (b := 0) rfl rfl ⟨zb_01, k⟩⟩
theorem s_X10_asOne {a : Int32} (ha : a = 0 ∨ a = 1) (k : ψ a h) : ZcI mX10_asOne [.int a] h ψ := by
  refine wX10_asOne ⟨fun q => ?_, fun q => ?_⟩
  · rwa [q] at k
  · rwa [ha.resolve_left q] at k
end S1
