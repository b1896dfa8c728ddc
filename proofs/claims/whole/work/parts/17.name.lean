/-- the heap gets a name -/
theorem z_nameH {y : ZM} {Φ : Option Value → ZH → Prop} {rc rs pc : Nat} {L : List (Option Value)} {S : List Value} {h : ZH} (k : ∀ h1 : ZH, h1 = h → Zt y Φ rc rs pc L S h1) : Zt y Φ rc rs pc L S h := k h rfl
theorem zadd0 {a b n m : Nat} (ha : a = 0) (hb : b = n) (h : n ≤ m) : a + b ≤ m := by omega
theorem y_alen {y : ZM} {Φ : Option Value → ZH → Prop} {rc rs pc q : Nat} {L : List (Option Value)} {S : List Value} {h : ZH} {a kd : Nat} (hd : decode (zm_c y) pc = .ok (.arraylength, 1)) (hk : zK h a = kd) (h1 : 20 ≤ kd) (h2 : kd ≤ 30) (hq : pc + 1 = q) (k : Zt y Φ rc rs q L (.int (Int32.ofNat (zN h a)) :: S) h) : Zt y Φ rc rs pc L (.ref a :: S) h := z_alen hd (by rw [hk]; exact h1) (by rw [hk]; exact h2) hq k
