/-! ints as whole numbers, where nothing wraps around -/
theorem tI_of {x : Int} (h1 : -2147483648 ≤ x) (h2 : x < 2147483648) : x.bmod (2 ^ 32) = x := Int.bmod_eq_of_le (by omega) (by omega)
theorem tI_sub {a b : Int32} (h1 : -2147483648 ≤ a.toInt - b.toInt) (h2 : a.toInt - b.toInt < 2147483648) : (a - b).toInt = a.toInt - b.toInt := by rw [Int32.toInt_sub, tI_of h1 h2]
theorem tI_add {a b : Int32} (h1 : -2147483648 ≤ a.toInt + b.toInt) (h2 : a.toInt + b.toInt < 2147483648) : (a + b).toInt = a.toInt + b.toInt := by rw [Int32.toInt_add, tI_of h1 h2]
theorem tI_mul {a b : Int32} (h1 : -2147483648 ≤ a.toInt * b.toInt) (h2 : a.toInt * b.toInt < 2147483648) : (a * b).toInt = a.toInt * b.toInt := by rw [Int32.toInt_mul, tI_of h1 h2]
theorem tI_div {a b : Int32} (ha : 0 ≤ a.toInt) (hb : 0 < b.toInt) : (a / b).toInt = a.toInt / b.toInt := by
  have h1 : a.toInt / b.toInt ≤ a.toInt := Int.ediv_le_self _ ha
  have h2 : 0 ≤ a.toInt / b.toInt := Int.ediv_nonneg ha (by omega)
  have h3 := a.toInt_lt
  rw [Int32.toInt_div, Int.tdiv_eq_ediv_of_nonneg ha, tI_of (by omega) (by omega)]
theorem tI_mod {a b : Int32} (ha : 0 ≤ a.toInt) (hb : 0 < b.toInt) : (a % b).toInt = a.toInt % b.toInt := by
  rw [Int32.toInt_mod, Int.tmod_eq_emod_of_nonneg ha]
theorem tI_lt {a b : Int32} : a < b ↔ a.toInt < b.toInt := Int32.lt_iff_toInt_lt
theorem tI_le {a b : Int32} : a ≤ b ↔ a.toInt ≤ b.toInt := Int32.le_iff_toInt_le
theorem tI_eq {a b : Int32} (h : a.toInt = b.toInt) : a = b := Int32.toInt_inj.mp h
theorem tI_0 : (0 : Int32).toInt = 0 := by decide
theorem tI_1 : (1 : Int32).toInt = 1 := by decide
theorem tI_2 : (2 : Int32).toInt = 2 := by decide
theorem tI_3 : (3 : Int32).toInt = 3 := by decide
theorem tI_10 : (10 : Int32).toInt = 10 := by decide
theorem tI_30 : (30 : Int32).toInt = 30 := by decide
def far1 (v : Int32) : Int32 := if 0 ≤ v then v else 0 - v
theorem far1_toInt {a b : Int32} (ha : rg a 0 99) (hb : rg b 0 99) : (far1 (a - b)).toInt = if b.toInt ≤ a.toInt then a.toInt - b.toInt else b.toInt - a.toInt := by
  have h1 := ha.1; have h2 := ha.2; have h3 := hb.1; have h4 := hb.2
  have e : (a - b).toInt = a.toInt - b.toInt := tI_sub (by omega) (by omega)
  unfold far1
  by_cases c : b.toInt ≤ a.toInt
  · rw [if_pos c, if_pos (by rw [tI_le, e, tI_0]; omega), e]
  · rw [if_neg c, if_neg (by rw [tI_le, e, tI_0]; omega), tI_sub (by rw [e, tI_0]; omega) (by rw [e, tI_0]; omega), e, tI_0]; omega
theorem far1_comm {a b : Int32} (ha : rg a 0 99) (hb : rg b 0 99) : far1 (a - b) = far1 (b - a) := by
  refine tI_eq ?_
  rw [far1_toInt ha hb, far1_toInt hb ha]
  by_cases c : b.toInt ≤ a.toInt
  · by_cases d : a.toInt ≤ b.toInt
    · rw [if_pos c, if_pos d]; omega
    · rw [if_pos c, if_neg d]
  · rw [if_neg c, if_pos (by omega)]
theorem far1_rg {a b : Int32} (ha : rg a 0 99) (hb : rg b 0 99) : rg (far1 (a - b)) 0 99 := by
  have h1 := ha.1; have h2 := ha.2; have h3 := hb.1; have h4 := hb.2
  unfold rg
  rw [far1_toInt ha hb]
  by_cases c : b.toInt ≤ a.toInt
  · rw [if_pos c]; omega
  · rw [if_neg c]; omega
section FAR
variable {h : ZH} {ψ : Int32 → ZH → Prop}
theorem s_X11_size {v : Int32} (k : ψ (far1 v) h) : ZcI mX11_size [.int v] h ψ := by
  unfold far1 at k
  refine wX11_size ⟨fun q => ?_, fun q => ?_⟩
  · rw [if_pos q] at k; exact k
  · rw [if_neg q, Int32.zero_sub] at k; exact k
theorem s_X5_farFrom {a b : Nat} (ha : zK h a = 6) (hb : zK h b = 6) (k : ψ (far1 (zI h a 0 - zI h b 0) + far1 (zI h a 1 - zI h b 1)) h) : ZcI mX5_farFrom [.ref a, .ref b] h ψ := wX5_farFrom ⟨ha, hb, k⟩
end FAR
theorem d30 {v : Int32} (hv : rg v 1 1000) : v / 3 / 10 = v / 30 := by
  have h1 := hv.1; have h2 := hv.2
  have e1 : (v / 3).toInt = v.toInt / 3 := by rw [tI_div (by omega) (by decide), tI_3]
  refine tI_eq ?_
  rw [tI_div (by rw [e1]; omega) (by decide), e1, tI_div (by omega) (by decide), tI_10, tI_30]
  omega
