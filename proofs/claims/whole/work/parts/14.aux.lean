theorem zvin {i : Int32} {j n : Nat} (hj : i.toNatClampNeg = j) (h0 : ¬ i < 0) (h : j < n) : vp_in i n := by
  rintro (q | q)
  · exact h0 q
  · omega
/-- the answers of a method: an int, a long, nothing -/
abbrev zPI (ψ : Int32 → ZH → Prop) : Option Value → ZH → Prop := fun v h1 => ∃ x : Int32, v = some (.int x) ∧ ψ x h1
abbrev zPL (ψ : Int64 → ZH → Prop) : Option Value → ZH → Prop := fun v h1 => ∃ x : Int64, v = some (.long x) ∧ ψ x h1
abbrev zPV (ψ : ZH → Prop) : Option Value → ZH → Prop := fun v h1 => v = none ∧ ψ h1
theorem zsw_ne {x c : Int32} {k : Int} (h : ¬ x = c) (hk : c.toInt = k) : x.toInt ≠ k := fun e => h (Int32.toInt_inj.mp (e.trans hk.symm))
section ZAUX
variable {y : ZM} {Φ : Option Value → ZH → Prop} {rc rs pc q : Nat} {L : List (Option Value)} {S : List Value} {h : ZH}
theorem y_iald {a j : Nat} {i : Int32} (hd : decode (zm_c y) pc = .ok (.iaload, 1)) (hk : zK h a = 20 ∨ zK h a = 30) (hin : vp_in i (zN h a)) (hj : i.toNatClampNeg = j) (hq : pc + 1 = q) (k : Zt y Φ rc rs q L (.int (zI h a j) :: S) h) : Zt y Φ rc rs pc L (.int i :: .ref a :: S) h := by
  subst hj
  exact z_iald hd hk hin hq k
theorem y_bald {a j : Nat} {i : Int32} (hd : decode (zm_c y) pc = .ok (.baload, 1)) (hk : zK h a = 21) (hin : vp_in i (zN h a)) (hj : i.toNatClampNeg = j) (hq : pc + 1 = q) (k : Zt y Φ rc rs q L (.int (zI h a j) :: S) h) : Zt y Φ rc rs pc L (.int i :: .ref a :: S) h := by
  subst hj
  exact z_bald hd hk hin hq k
theorem y_lald {a j : Nat} {i : Int32} (hd : decode (zm_c y) pc = .ok (.laload, 1)) (hk : zK h a = 22) (hin : vp_in i (zN h a)) (hj : i.toNatClampNeg = j) (hq : pc + 1 = q) (k : Zt y Φ rc rs q L (.long (zL h a j) :: S) h) : Zt y Φ rc rs pc L (.int i :: .ref a :: S) h := by
  subst hj
  exact z_lald hd hk hin hq k
theorem y_aald {a kd j : Nat} {i : Int32} (hd : decode (zm_c y) pc = .ok (.aaload, 1)) (hk : zK h a = kd) (h1 : 23 ≤ kd) (h2 : kd < 30) (ht : (zat kd).isReference = true) (hin : vp_in i (zN h a)) (hj : i.toNatClampNeg = j) (hn : zR h a j ≠ 0) (hq : pc + 1 = q) (k : Zt y Φ rc rs q L (.ref (zR h a j) :: S) h) : Zt y Φ rc rs pc L (.int i :: .ref a :: S) h := by
  subst hj
  exact z_aald hd hk h1 h2 ht hin hn hq k
theorem y_iast {a j : Nat} {i v : Int32} (hd : decode (zm_c y) pc = .ok (.iastore, 1)) (hk : zK h a = 20) (hin : vp_in i (zN h a)) (hj : i.toNatClampNeg = j) (hq : pc + 1 = q) (k : Zt y Φ rc rs q L S (zsI h a j v)) : Zt y Φ rc rs pc L (.int v :: .int i :: .ref a :: S) h := by
  subst hj
  exact z_iast hd hk hin hq k
theorem y_bast {a j : Nat} {i v : Int32} (hd : decode (zm_c y) pc = .ok (.bastore, 1)) (hk : zK h a = 21) (hin : vp_in i (zN h a)) (hv : v = 0 ∨ v = 1) (hj : i.toNatClampNeg = j) (hq : pc + 1 = q) (k : Zt y Φ rc rs q L S (zsI h a j v)) : Zt y Φ rc rs pc L (.int v :: .int i :: .ref a :: S) h := by
  subst hj
  exact z_bast hd hk hin hv hq k
theorem y_last {a j : Nat} {i : Int32} {v : Int64} (hd : decode (zm_c y) pc = .ok (.lastore, 1)) (hk : zK h a = 22) (hin : vp_in i (zN h a)) (hj : i.toNatClampNeg = j) (hq : pc + 1 = q) (k : Zt y Φ rc rs q L S (zsL h a j v)) : Zt y Φ rc rs pc L (.long v :: .int i :: .ref a :: S) h := by
  subst hj
  exact z_last hd hk hin hq k
theorem y_aast {a v kd c j : Nat} {i : Int32} {r : vw_C} (hd : decode (zm_c y) pc = .ok (.aastore, 1)) (hk : zK h a = kd) (h1 : 23 ≤ kd) (h2 : kd < 30) (hr : vwCl[c]? = some r) (ht : zat kd = .object r.1) (hv : zK h v = c + 1) (hin : vp_in i (zN h a)) (hj : i.toNatClampNeg = j) (hq : pc + 1 = q) (k : Zt y Φ rc rs q L S (zsR h a j v)) : Zt y Φ rc rs pc L (.ref v :: .int i :: .ref a :: S) h := by
  subst hj
  exact z_aast hd hk h1 h2 hr ht hv hin hq k
theorem z_acp7 {n : Int32} (e : n = 7) (k : Zt y Φ rc rs pc L (.int 7 :: S) h) : Zt y Φ rc rs pc L (.int n :: S) h := by
  subst e
  exact k
/-- a computed number gets a name -/
theorem z_nameI {n : Int32} (k : ∀ v : Int32, v = n → Zt y Φ rc rs pc L (.int v :: S) h) : Zt y Φ rc rs pc L (.int n :: S) h := k n rfl
theorem z_nameJ {n : Int64} (k : ∀ v : Int64, v = n → Zt y Φ rc rs pc L (.long v :: S) h) : Zt y Φ rc rs pc L (.long n :: S) h := k n rfl
end ZAUX
