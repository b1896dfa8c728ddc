/-! plans, in whole numbers -/
def nv (v : Int32) : Nat := v.toNatClampNeg
theorem nv_of {v c : Int32} {b : Nat} (hc : c.toInt = b) (r : rg v 0 b) : v = nI (nv v) ∧ nv v ≤ b := by
  obtain ⟨t, ht, e⟩ := in_nI (a := v) (c := c) (n := b) hc ⟨tI_le.mpr (by rw [tI_0]; exact r.1), tI_le.mpr (by rw [hc]; exact r.2)⟩
  have hb : b < 2 ^ 31 := by
    have := c.toInt_lt
    omega
  have : nv v = t := by unfold nv; rw [e, nI_clamp (by omega)]
  rw [this]
  exact ⟨e, ht⟩
def tN (h : ZH) (p : Nat) : Nat := nv (zI h 205 p)
def kN (h : ZH) (p : Nat) : Nat := nv (zI h 206 p)
def vN (h : ZH) (r y : Nat) : Nat := nv (zI h 245 (5 * r + y))
abbrev oN (h : ZH) (p : Nat) : Prop := ¬ zI h 208 p = 0
def spN (h : ZH) : Nat := nv (zI h 219 5)
def buN (h : ZH) : Nat := nv (zI h 219 2)
def owN (h : ZH) : Nat := nv (zI h 219 3)
def onN (h : ZH) : Nat := nv (zI h 219 4)
/-- what plans need of the state -/
def PQ (h : ZH) (np nm nh : Nat) : Prop := Sh h np nm nh ∧ np ≤ 8 ∧ (zI h 200 9 = nI np ∧ zI h 10 12 = nI np) ∧
  (∀ p, p < np → (zI h 205 p = nI (tN h p) ∧ tN h p ≤ 1000) ∧ (zI h 206 p = nI (kN h p) ∧ kN h p ≤ 200) ∧ (zI h (300 + 3 * p) 1 = zI h 205 p ∧ zI h (300 + 3 * p) 2 = zI h 206 p ∧ zI h (300 + 3 * p) 5 = zI h 208 p) ∧ (zI h 208 p = 0 ∨ zI h 208 p = 1)) ∧
  (∀ r t, r < 3 → t < 5 → zI h (90 + r) t = zI h 245 (5 * r + t) ∧ zI h 245 (5 * r + t) = nI (vN h r t) ∧ vN h r t ≤ 200) ∧
  (zI h 23 2 = zI h 219 2 ∧ zI h 23 3 = zI h 219 3 ∧ zI h 23 4 = zI h 219 4 ∧ zI h 23 5 = zI h 219 5) ∧
  (zI h 219 5 = nI (spN h) ∧ 1 ≤ spN h ∧ spN h ≤ 5) ∧ (zI h 219 2 = nI (buN h) ∧ buN h ≤ 10000) ∧ (zI h 219 3 = nI (owN h) ∧ owN h ≤ 5000) ∧ (zI h 219 4 = nI (onN h) ∧ 1 ≤ onN h ∧ onN h ≤ 8)
theorem nv_st {v : Int32} {lo hi : Int32} {a b : Nat} (ha : lo.toInt = a) (hb : hi.toInt = b) (h1 : lo ≤ v) (h2 : v ≤ hi) : v = nI (nv v) ∧ a ≤ nv v ∧ nv v ≤ b := by
  rw [tI_le] at h1 h2
  obtain ⟨e, q⟩ := nv_of (v := v) hb ⟨by omega, by omega⟩
  refine ⟨e, ?_, q⟩
  have hb' := hi.toInt_lt
  have t := nI_toInt (n := nv v) (by omega)
  rw [← e] at t
  omega
theorem PQ.of {h : ZH} {i np nm nh nw ns mo : Nat} (J : Jn h i np nm nh nw ns mo) : PQ h np nm nh := by
  obtain ⟨S, C, T, P, M, St, G, R, W, V, X⟩ := J
  have s2 := St 2 (by omega)
  have s3 := St 3 (by omega)
  have s4 := St 4 (by omega)
  have s5 := St 5 (by omega)
  refine ⟨S, C.1.2.2.2, ⟨C.1.1, C.1.2.1⟩, fun p hp => ?_, fun r t hr ht => ?_, ⟨s2.1, s3.1, s4.1, s5.1⟩, ?_, ?_, ?_, ?_⟩
  · obtain ⟨p1, p2, p3, p4, p5, p6, p7, p8, p9, p10, p11, p12, p13, p14, p15, p16⟩ := P.1 p hp
    exact ⟨nv_of (c := 1000) (by decide) p11, nv_of (c := 200) (by decide) p12, ⟨p3, p4, p6⟩, p14⟩
  · have v := V r t hr ht
    exact ⟨v.1, nv_of (c := 200) (by decide) v.2⟩
  · exact nv_st (lo := sLo 5) (hi := sHi 5) (by decide) (by decide) s5.2.1 s5.2.2.1
  · have := nv_st (lo := sLo 2) (hi := sHi 2) (a := 0) (b := 10000) (by decide) (by decide) s2.2.1 s2.2.2.1
    exact ⟨this.1, this.2.2⟩
  · have := nv_st (lo := sLo 3) (hi := sHi 3) (a := 0) (b := 5000) (by decide) (by decide) s3.2.1 s3.2.2.1
    exact ⟨this.1, this.2.2⟩
  · exact nv_st (lo := sLo 4) (hi := sHi 4) (by decide) (by decide) s4.2.1 s4.2.2.1
def sumN (f : Nat → Nat) : Nat → Nat
  | 0 => 0
  | n + 1 => sumN f n + f n
theorem sumN_congr {f g : Nat → Nat} : ∀ {n : Nat}, (∀ k, k < n → f k = g k) → sumN f n = sumN g n
  | 0, _ => rfl
  | n + 1, e => by
    show sumN f n + f n = sumN g n + g n
    rw [sumN_congr (fun k hk => e k (by omega)), e n (by omega)]
theorem sumN_le {f g : Nat → Nat} : ∀ {n : Nat}, (∀ k, k < n → f k ≤ g k) → sumN f n ≤ sumN g n
  | 0, _ => Nat.le_refl _
  | n + 1, e => by
    show sumN f n + f n ≤ sumN g n + g n
    have := sumN_le (n := n) (fun k hk => e k (by omega))
    have := e n (by omega)
    omega
theorem sumN_bd {f : Nat → Nat} {b : Nat} : ∀ {n : Nat}, (∀ k, k < n → f k ≤ b) → sumN f n ≤ n * b
  | 0, _ => by unfold sumN; omega
  | n + 1, e => by
    show sumN f n + f n ≤ (n + 1) * b
    have := sumN_bd (n := n) (fun k hk => e k (by omega))
    have := e n (by omega)
    rw [Nat.succ_mul]; omega
theorem sumN_add {f g : Nat → Nat} : ∀ {n : Nat}, sumN (fun k => f k + g k) n = sumN f n + sumN g n
  | 0 => rfl
  | n + 1 => by
    show sumN (fun k => f k + g k) n + (f n + g n) = (sumN f n + f n) + (sumN g n + g n)
    rw [sumN_add]; omega
theorem sumN_zero : ∀ {n : Nat}, sumN (fun _ => 0) n = 0
  | 0 => rfl
  | n + 1 => by show sumN (fun _ => 0) n + 0 = 0; rw [sumN_zero]
theorem sumN_swap {f : Nat → Nat → Nat} {m : Nat} : ∀ {n : Nat}, sumN (fun a => sumN (fun b => f a b) m) n = sumN (fun b => sumN (fun a => f a b) n) m
  | 0 => sumN_zero.symm
  | n + 1 => by
    show sumN (fun a => sumN (fun b => f a b) m) n + sumN (fun b => f n b) m = sumN (fun b => sumN (fun a => f a b) n + f n b) m
    rw [sumN_swap, sumN_add]
def wN (h : ZH) (p r y : Nat) : Nat := tN h p * (kN h p - vN h r y)
def cst (h : ZH) (p d r : Nat) : Nat := sumN (fun y => if y < d then wN h p r y else buN h) (spN h)
def tot (h : ZH) (np : Nat) (π : Nat → Nat) (r : Nat) : Nat := sumN (fun p => cst h p (π p) r) np
def wrw (h : ZH) (np : Nat) (π : Nat → Nat) : Nat :=
  if tot h np π (if tot h np π 0 < tot h np π 1 then 1 else 0) < tot h np π 2 then 2 else (if tot h np π 0 < tot h np π 1 then 1 else 0)
def wst (h : ZH) (np : Nat) (π : Nat → Nat) : Nat := tot h np π (wrw h np π)
def cnt (h : ZH) (π : Nat → Nat) (y n : Nat) : Nat := sumN (fun p => if oN h p ∧ π p = y then 1 else 0) n
def won (h : ZH) (π : Nat → Nat) (y n : Nat) : Nat := sumN (fun p => if oN h p ∧ y < π p then tN h p else 0) n
abbrev kept (h : ZH) (np : Nat) (π : Nat → Nat) : Prop := ∀ y, y < spN h → owN h ≤ won h π y np ∧ cnt h π y np ≤ onN h
theorem wN_bd {h : ZH} {np nm nh p r y : Nat} (Q : PQ h np nm nh) (hp : p < np) : wN h p r y ≤ 200000 := by
  have q := Q.2.2.2.1 p hp
  have h1 := q.1.2
  have h2 := q.2.1.2
  unfold wN
  calc tN h p * (kN h p - vN h r y) ≤ 1000 * 200 := Nat.mul_le_mul h1 (by omega)
    _ = 200000 := rfl
theorem cst_bd {h : ZH} {np nm nh p d r : Nat} (Q : PQ h np nm nh) (hp : p < np) : cst h p d r ≤ 1000000 := by
  unfold cst
  have h1 := sumN_bd (f := fun y => if y < d then wN h p r y else buN h) (b := 200000) (n := spN h) (fun y _ => by
    by_cases c : y < d
    · rw [if_pos c]; exact wN_bd Q hp
    · rw [if_neg c]; have := Q.2.2.2.2.2.2.2.1.2; omega)
  have h2 := Q.2.2.2.2.2.2.1.2.2
  have : spN h * 200000 ≤ 5 * 200000 := Nat.mul_le_mul_right _ h2
  omega
theorem tot_bd {h : ZH} {np nm nh r : Nat} {π : Nat → Nat} (Q : PQ h np nm nh) : ∀ {n : Nat}, n ≤ np → tot h n π r ≤ n * 1000000 := fun hn => by
  unfold tot
  exact sumN_bd (fun p hp => cst_bd Q (by omega))
/-- a year's cost at a pit, as the class works it -/
theorem mx_C {k v : Nat} (hk : k ≤ 200) (hv : v ≤ 200) : (if 0 < nI k - nI v then nI k - nI v else 0) = nI (k - v) := by
  by_cases c : v < k
  · obtain ⟨d, rfl⟩ : ∃ d, k = v + d := ⟨k - v, by omega⟩
    have e : nI (v + d) - nI v = nI d := by rw [← nI_add, Int32.add_comm, Int32.add_sub_cancel]
    rw [e, if_pos (show (0 : Int32) < nI d from nI_lt (a := 0) (b := d) (by omega) (by omega)), Nat.add_sub_cancel_left]
  · have e : (nI k - nI v).toInt = (k : Int) - v := by rw [tI_sub (by rw [nI_toInt (by omega), nI_toInt (by omega)]; omega) (by rw [nI_toInt (by omega), nI_toInt (by omega)]; omega), nI_toInt (by omega), nI_toInt (by omega)]
    rw [if_neg (by rw [tI_lt, tI_0, e]; omega), show k - v = 0 by omega]
    rfl
/-- and as the model works it -/
theorem mx_M {t k v : Nat} (ht : t ≤ 1000) (hk : k ≤ 200) (hv : v ≤ 200) : (nI t * (nI k - nI v) ≤ 0 → t * (k - v) = 0) ∧ (¬ nI t * (nI k - nI v) ≤ 0 → nI t * (nI k - nI v) = nI (t * (k - v))) := by
  have bd : t * (k - v) ≤ 1000 * 200 := Nat.mul_le_mul ht (by omega)
  by_cases c : v < k
  · obtain ⟨d, rfl⟩ : ∃ d, k = v + d := ⟨k - v, by omega⟩
    have e : nI (v + d) - nI v = nI d := by rw [← nI_add, Int32.add_comm, Int32.add_sub_cancel]
    rw [Nat.add_sub_cancel_left] at bd ⊢
    rw [e, nI_mul]
    refine ⟨fun q => ?_, fun _ => rfl⟩
    rw [tI_le, tI_0, nI_toInt (by omega)] at q
    omega
  · have e : (nI k - nI v).toInt = (k : Int) - v := by rw [tI_sub (by rw [nI_toInt (by omega), nI_toInt (by omega)]; omega) (by rw [nI_toInt (by omega), nI_toInt (by omega)]; omega), nI_toInt (by omega), nI_toInt (by omega)]
    have e0 : k - v = 0 := by omega
    have lo : (-200000 : Int) ≤ (t : Int) * ((k : Int) - v) := by
      have h1 : (t : Int) * ((v : Int) - k) ≤ 1000 * 200 := Int.mul_le_mul (by omega) (by omega) (by omega) (by omega)
      have h2 : (t : Int) * ((k : Int) - v) = - ((t : Int) * ((v : Int) - k)) := by rw [← Int.mul_neg]; congr 1; omega
      omega
    have up : (t : Int) * ((k : Int) - v) ≤ 0 := Int.mul_nonpos_of_nonneg_of_nonpos (by omega) (by omega)
    have em : (nI t * (nI k - nI v)).toInt = (t : Int) * ((k : Int) - v) := by
      rw [tI_mul (by rw [e, nI_toInt (by omega)]; omega) (by rw [e, nI_toInt (by omega)]; omega), e, nI_toInt (by omega)]
    refine ⟨fun _ => by rw [e0, Nat.mul_zero], fun q => absurd ?_ q⟩
    rw [tI_le, tI_0, em]
    exact up
