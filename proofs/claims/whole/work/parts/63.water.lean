/-! a month of water, as numbers: h0 holds what stays -/
def upI (f : Nat → Int32) (a : Nat) (v : Int32) : Nat → Int32 := fun p => if p = a then v else f p
def wat1 (h0 : ZH) (f : Nat → Int32) (k : Nat) : Nat → Int32 := fun p => if p < k then f p + zI h0 233 p else f p
def mx (a b : Int32) : Int32 := if a < b then b else a
def rn1 (f : Nat → Int32) (x y : Nat) (ht : Int32) : Nat → Int32 := if mx ht (f y) < f x then upI (upI f x (f x - (f x - mx ht (f y)) / 2)) y (f y + (f x - mx ht (f y)) / 2) else f
def rnP (f : Nat → Int32) (a b : Nat) (ht : Int32) : Nat → Int32 := if f b < f a then rn1 f a b ht else rn1 f b a ht
def wat2 (h0 : ZH) (f : Nat → Int32) : Nat → Nat → Int32
  | 0 => f
  | k + 1 => rnP (wat2 h0 f k) (zI h0 237 k).toNatClampNeg (zI h0 238 k).toNatClampNeg (zI h0 239 k)
def dr1 (h0 : ZH) (r f : Nat → Int32) (p : Nat) : Int32 := if r p = 0 then (if zI h0 207 p < f p then zI h0 207 p else f p) else 0
def wat3 (h0 : ZH) (r f : Nat → Int32) (k : Nat) : Nat → Int32 := fun p => if p < k then dr1 h0 r f p else f p
def watP (r f : Nat → Int32) (pu : Int32) : Nat → Int32
  | 0 => pu
  | k + 1 => if r k = 0 then watP r f pu k else watP r f pu k + f k
def watS (h0 : ZH) (r f : Nat → Int32) (sp : Int32) : Nat → Int32
  | 0 => sp
  | k + 1 => if r k = 0 ∧ zI h0 207 k < f k then watS h0 r f sp k + (f k - zI h0 207 k) else watS h0 r f sp k
def watD (h0 : ZH) (g dr : Nat → Int32) (mo : Int32) (k : Nat) : Nat → Int32 := fun p => if p < k ∧ dr p = -6 ∧ zI h0 207 p / 3 < g p then mo else dr p
def watC (h0 : ZH) (g dr : Nat → Int32) : Nat → Int32
  | 0 => 0
  | k + 1 => if dr k = -6 ∧ zI h0 207 k / 3 < g k then watC h0 g dr k + 1 else watC h0 g dr k
/-! the same in a heap: levels at L, months of drowning at D, counters in the cells j, j+1, j+2 of O -/
def Wx (H h0 : ZH) (L D O j np : Nat) (f : Nat → Int32) (pu sp : Int32) (dr : Nat → Int32) (mo : Int32) : Prop :=
  zK H = zK h0 ∧ zN H = zN h0 ∧ zR H = zR h0 ∧ (∀ a i, ¬ (a = L ∨ a = D ∨ (a = O ∧ (i = j ∨ i = j + 1 ∨ i = j + 2))) → zI H a i = zI h0 a i) ∧ (∀ p, p < 8 → zI H L p = f p) ∧ (∀ p, p < np → zI H D p = dr p) ∧ zI H O j = mo ∧ zI H O (j + 1) = pu ∧ zI H O (j + 2) = sp
section WX
variable {H h0 : ZH} {L D O j np p : Nat} {f g dr : Nat → Int32} {pu sp mo v : Int32}
theorem Wx.ext (W : Wx H h0 L D O j np f pu sp dr mo) (e : ∀ p, p < 8 → f p = g p) : Wx H h0 L D O j np g pu sp dr mo := by
  obtain ⟨a1, a2, a3, a4, a5, a6, a7, a8, a9⟩ := W
  exact ⟨a1, a2, a3, a4, fun p hp => (a5 p hp).trans (e p hp), a6, a7, a8, a9⟩
theorem Wx.extD {dr' : Nat → Int32} (W : Wx H h0 L D O j np f pu sp dr mo) (e : ∀ p, p < np → dr p = dr' p) : Wx H h0 L D O j np f pu sp dr' mo := by
  obtain ⟨a1, a2, a3, a4, a5, a6, a7, a8, a9⟩ := W
  exact ⟨a1, a2, a3, a4, a5, fun p hp => (a6 p hp).trans (e p hp), a7, a8, a9⟩
theorem Wx.setF (d : L ≠ D ∧ L ≠ O ∧ D ≠ O) (W : Wx H h0 L D O j np f pu sp dr mo) : Wx (zsI H L p v) h0 L D O j np (upI f p v) pu sp dr mo := by
  obtain ⟨a1, a2, a3, a4, a5, a6, a7, a8, a9⟩ := W
  refine ⟨by rw [zK_sI, a1], by rw [zN_sI, a2], by rw [zR_sI, a3], fun a i q => ?_, fun q hq => ?_, fun q hq => ?_, ?_, ?_, ?_⟩
  · rw [zI_sIa (by omega), a4 a i q]
  · unfold upI
    by_cases e : q = p
    · rw [if_pos e, e, zI_sIs]
    · rw [if_neg e, zI_sIj e, a5 q hq]
  · rw [zI_sIa (by omega), a6 q hq]
  · rw [zI_sIa (by omega), a7]
  · rw [zI_sIa (by omega), a8]
  · rw [zI_sIa (by omega), a9]
theorem Wx.setD (d : L ≠ D ∧ L ≠ O ∧ D ≠ O) (W : Wx H h0 L D O j np f pu sp dr mo) : Wx (zsI H D p v) h0 L D O j np f pu sp (upI dr p v) mo := by
  obtain ⟨a1, a2, a3, a4, a5, a6, a7, a8, a9⟩ := W
  refine ⟨by rw [zK_sI, a1], by rw [zN_sI, a2], by rw [zR_sI, a3], fun a i q => ?_, fun q hq => ?_, fun q hq => ?_, ?_, ?_, ?_⟩
  · rw [zI_sIa (by omega), a4 a i q]
  · rw [zI_sIa (by omega), a5 q hq]
  · unfold upI
    by_cases e : q = p
    · rw [if_pos e, e, zI_sIs]
    · rw [if_neg e, zI_sIj e, a6 q hq]
  · rw [zI_sIa (by omega), a7]
  · rw [zI_sIa (by omega), a8]
  · rw [zI_sIa (by omega), a9]
theorem Wx.setM (d : L ≠ D ∧ L ≠ O ∧ D ≠ O) (W : Wx H h0 L D O j np f pu sp dr mo) : Wx (zsI H O j v) h0 L D O j np f pu sp dr v := by
  obtain ⟨a1, a2, a3, a4, a5, a6, a7, a8, a9⟩ := W
  refine ⟨by rw [zK_sI, a1], by rw [zN_sI, a2], by rw [zR_sI, a3], fun a i q => ?_, fun q hq => ?_, fun q hq => ?_, ?_, ?_, ?_⟩
  · rw [zI_sIn (by omega), a4 a i q]
  · rw [zI_sIa (by omega), a5 q hq]
  · rw [zI_sIa (by omega), a6 q hq]
  · rw [zI_sIs]
  · rw [zI_sIj (by omega), a8]
  · rw [zI_sIj (by omega), a9]
theorem Wx.setP (d : L ≠ D ∧ L ≠ O ∧ D ≠ O) (W : Wx H h0 L D O j np f pu sp dr mo) : Wx (zsI H O (j + 1) v) h0 L D O j np f v sp dr mo := by
  obtain ⟨a1, a2, a3, a4, a5, a6, a7, a8, a9⟩ := W
  refine ⟨by rw [zK_sI, a1], by rw [zN_sI, a2], by rw [zR_sI, a3], fun a i q => ?_, fun q hq => ?_, fun q hq => ?_, ?_, ?_, ?_⟩
  · rw [zI_sIn (by omega), a4 a i q]
  · rw [zI_sIa (by omega), a5 q hq]
  · rw [zI_sIa (by omega), a6 q hq]
  · rw [zI_sIj (by omega), a7]
  · rw [zI_sIs]
  · rw [zI_sIj (by omega), a9]
theorem Wx.setS (d : L ≠ D ∧ L ≠ O ∧ D ≠ O) (W : Wx H h0 L D O j np f pu sp dr mo) : Wx (zsI H O (j + 2) v) h0 L D O j np f pu v dr mo := by
  obtain ⟨a1, a2, a3, a4, a5, a6, a7, a8, a9⟩ := W
  refine ⟨by rw [zK_sI, a1], by rw [zN_sI, a2], by rw [zR_sI, a3], fun a i q => ?_, fun q hq => ?_, fun q hq => ?_, ?_, ?_, ?_⟩
  · rw [zI_sIn (by omega), a4 a i q]
  · rw [zI_sIa (by omega), a5 q hq]
  · rw [zI_sIa (by omega), a6 q hq]
  · rw [zI_sIj (by omega), a7]
  · rw [zI_sIj (by omega), a8]
  · rw [zI_sIs]
end WX
/-! bounds -/
theorem mx_rg {a b : Int32} {n : Int} (ha : rg a 0 n) (hb : rg b 0 n) : rg (mx a b) 0 n := by
  unfold mx
  by_cases c : a < b
  · rw [if_pos c]; exact hb
  · rw [if_neg c]; exact ha
theorem mx_ge (a b : Int32) : b.toInt ≤ (mx a b).toInt := by
  unfold mx
  by_cases c : a < b
  · rw [if_pos c]; omega
  · rw [if_neg c]
    have := tI_le.mp (Int32.not_lt.mp c)
    exact this
/-- what may flow: the numbers of it -/
theorem flow {x y m : Int32} (hx : rg x 0 1100) (hm : rg m 0 1100) (hym : y.toInt ≤ m.toInt) (hy : 0 ≤ y.toInt) (c : m < x) : ((x - m).toInt = x.toInt - m.toInt ∧ 0 < x.toInt - m.toInt) ∧ rg (x - (x - m) / 2) 0 1100 ∧ rg (y + (x - m) / 2) 0 1100 := by
  have h1 := hx.1; have h2 := hx.2; have h3 := hm.1; have h4 := hm.2
  have c := tI_lt.mp c
  have e1 : (x - m).toInt = x.toInt - m.toInt := tI_sub (by omega) (by omega)
  have e2 : ((x - m) / 2).toInt = (x.toInt - m.toInt) / 2 := by rw [tI_div (by omega) (by decide), e1, tI_2]
  have e3 : (x - (x - m) / 2).toInt = x.toInt - (x.toInt - m.toInt) / 2 := by rw [tI_sub (by omega) (by omega), e2]
  have e4 : (y + (x - m) / 2).toInt = y.toInt + (x.toInt - m.toInt) / 2 := by rw [tI_add (by omega) (by omega), e2]
  exact ⟨⟨e1, by omega⟩, ⟨by omega, by omega⟩, ⟨by omega, by omega⟩⟩
theorem rn1_rg {f : Nat → Int32} {x y n : Nat} {ht : Int32} (B : ∀ p, p < n → rg (f p) 0 1100) (hx : x < n) (hy : y < n) (hh : rg ht 0 1100) : ∀ p, p < n → rg (rn1 f x y ht p) 0 1100 := by
  intro p hp
  unfold rn1
  by_cases c : mx ht (f y) < f x
  · rw [if_pos c]
    have k := flow (B x hx) (mx_rg hh (B y hy)) (mx_ge _ _) (B y hy).1 c
    unfold upI
    by_cases e : p = y
    · rw [if_pos e]; exact k.2.2
    · rw [if_neg e]
      by_cases e2 : p = x
      · rw [if_pos e2]; exact k.2.1
      · rw [if_neg e2]; exact B p hp
  · rw [if_neg c]; exact B p hp
theorem rnP_rg {f : Nat → Int32} {x y n : Nat} {ht : Int32} (B : ∀ p, p < n → rg (f p) 0 1100) (hx : x < n) (hy : y < n) (hh : rg ht 0 1100) : ∀ p, p < n → rg (rnP f x y ht p) 0 1100 := by
  intro p hp
  unfold rnP
  by_cases c : f y < f x
  · rw [if_pos c]; exact rn1_rg B hx hy hh p hp
  · rw [if_neg c]; exact rn1_rg B hy hx hh p hp
/-- what stays while months pass -/
def WC (h0 : ZH) (np nw : Nat) : Prop := np ≤ 8 ∧ nw ≤ 12 ∧ (∀ p, p < np → rg (zI h0 207 p) 1 1000 ∧ rg (zI h0 233 p) 0 100) ∧ ∀ v, v < nw → (∃ a b, a < np ∧ b < np ∧ a ≠ b ∧ zI h0 237 v = nI a ∧ zI h0 238 v = nI b) ∧ rg (zI h0 239 v) 0 1000
def WB (h0 : ZH) (np : Nat) (f : Nat → Int32) : Prop := ∀ p, p < np → 0 ≤ (f p).toInt ∧ (f p).toInt ≤ (zI h0 207 p).toInt
theorem wat1_rg {h0 : ZH} {np nw : Nat} {f : Nat → Int32} (C : WC h0 np nw) (B : WB h0 np f) : ∀ p, p < np → rg (wat1 h0 f np p) 0 1100 := by
  intro p hp
  obtain ⟨c1, c2⟩ := C.2.2.1 p hp
  obtain ⟨b1, b2⟩ := B p hp
  have h1 := c1.2; have h2 := c2.1; have h3 := c2.2
  unfold wat1
  rw [if_pos hp]
  have e : (f p + zI h0 233 p).toInt = (f p).toInt + (zI h0 233 p).toInt := tI_add (by omega) (by omega)
  exact ⟨by omega, by omega⟩
theorem wat2_rg {h0 : ZH} {np nw : Nat} {f : Nat → Int32} (C : WC h0 np nw) (B : ∀ p, p < np → rg (f p) 0 1100) : ∀ k, k ≤ nw → ∀ p, p < np → rg (wat2 h0 f k p) 0 1100
  | 0, _ => B
  | k + 1, hk => by
    obtain ⟨⟨a, b, ha, hb, -, ea, eb⟩, hh⟩ := C.2.2.2 k (by omega)
    unfold wat2
    have := C.1
    rw [ea, eb, nI_clamp (by omega), nI_clamp (by omega)]
    exact rnP_rg (wat2_rg C B k (by omega)) ha hb (rg_mono hh (by omega) (by omega))
theorem wat3_WB {h0 : ZH} {np nw : Nat} {r f : Nat → Int32} (C : WC h0 np nw) (B : ∀ p, p < np → rg (f p) 0 1100) : WB h0 np (wat3 h0 r f np) := by
  intro p hp
  have h1 := (C.2.2.1 p hp).1.1
  have b := B p hp
  unfold wat3 dr1
  rw [if_pos hp]
  by_cases c : r p = 0
  · rw [if_pos c]
    by_cases c2 : zI h0 207 p < f p
    · rw [if_pos c2]; omega
    · rw [if_neg c2]
      have := tI_le.mp (Int32.not_lt.mp c2)
      exact ⟨b.1, this⟩
  · rw [if_neg c, tI_0]; omega
theorem wat_out {h0 : ZH} {np nw : Nat} {f : Nat → Int32} (C : WC h0 np nw) {p : Nat} (hp : np ≤ p) : ∀ k, k ≤ nw → wat2 h0 f k p = f p
  | 0, _ => rfl
  | k + 1, hk => by
    obtain ⟨⟨a, b, ha, hb, -, ea, eb⟩, hh⟩ := C.2.2.2 k (by omega)
    have ih := wat_out (f := f) C hp k (by omega)
    have := C.1
    unfold wat2
    rw [ea, eb, nI_clamp (by omega), nI_clamp (by omega)]
    unfold rnP rn1 upI
    split <;> split <;> simp only [show p ≠ a by omega, show p ≠ b by omega, if_false, ih]
