/-- the state between two calls of the law, i calls made, the script at 4 -/
def Jx (h : ZH) (i L : Nat) (xs : Nat → Int32) : Prop := ∃ np nm nh nw ns mo : Nat, Jn h i np nm nh nw ns mo ∧ zN h 4 = L ∧ ∀ j, j < L → zI h 4 j = xs j
theorem JC.up {h : ZH} {i np nm nh nw ns mo : Nat} (k : JC h i np nm nh nw ns mo) : JC h (i + 1) np nm nh nw ns mo :=
  ⟨k.1, k.2.1, k.2.2.1, k.2.2.2.1, k.2.2.2.2.1, ⟨k.2.2.2.2.2.1.1, k.2.2.2.2.2.1.2.1, by have := k.2.2.2.2.2.1.2.2; omega⟩, k.2.2.2.2.2.2⟩
theorem Jn.up {h : ZH} {i np nm nh nw ns mo : Nat} (k : Jn h i np nm nh nw ns mo) : Jn h (i + 1) np nm nh nw ns mo := ⟨k.1, k.2.1.up, k.2.2⟩
theorem Jx.up {h : ZH} {i L : Nat} {xs : Nat → Int32} (k : Jx h i L xs) : Jx h (i + 1) L xs := by
  obtain ⟨np, nm, nh, nw, ns, mo, k, q⟩ := k
  exact ⟨np, nm, nh, nw, ns, mo, k.up, q⟩
theorem Jx.same {h h1 : ZH} {i L : Nat} {xs : Nat → Int32} (k : Jx h i L xs) (e : zsame h h1) : Jx h1 i L xs := by
  obtain ⟨np, nm, nh, nw, ns, mo, k, q1, q2⟩ := k
  exact ⟨np, nm, nh, nw, ns, mo, k.same e, by rw [e.2.1]; exact q1, fun j hj => by rw [e.2.2.2 4 j (by unfold scr; omega)]; exact q2 j hj⟩
theorem zb_nt {p : Prop} [Decidable p] (h : p) : ¬ zb p = 0 := fun q => zb_eq0.mp q h
/-- an int within two numbers, as a Nat -/
theorem in_nI {a c : Int32} {n : Nat} (hc : c.toInt = n) (h : 0 ≤ a ∧ a ≤ c) : ∃ t : Nat, t ≤ n ∧ a = nI t := nI_of2 hc (Int32.not_lt.mpr h.1) h.2
theorem in_cnt {a : Int32} {n : Nat} (hn : n < 2 ^ 31) (h : 0 ≤ a ∧ a ≤ nI n - 1) : ∃ t : Nat, t < n ∧ a = nI t := by
  cases n with
  | zero =>
    exfalso
    have h1 := Int32.le_trans h.1 h.2
    revert h1
    decide
  | succ n =>
    rw [nI_pred] at h
    obtain ⟨t, ht, e⟩ := in_nI (n := n) (nI_toInt (by omega)) h
    exact ⟨t, by omega, e⟩
theorem cnt_in {t n : Nat} (hn : n < 2 ^ 31) (h : t < n) : 0 ≤ nI t ∧ nI t ≤ nI n - 1 := by
  cases n with
  | zero => omega
  | succ n =>
    rw [nI_pred]
    exact ⟨nI_pos' (by omega), nI_le (by omega) (by omega)⟩
theorem rg_of {v a b : Int32} {x y : Int} (h : a ≤ v ∧ v ≤ b) (hx : a.toInt = x) (hy : b.toInt = y) : rg v x y := by
  rw [Int32.le_iff_toInt_le, Int32.le_iff_toInt_le] at h
  exact ⟨by omega, by omega⟩
section OPS
variable {h : ZH} {i L : Nat} {xs : Nat → Int32}
set_option maxHeartbeats 4000000 in
theorem op_town {l1 l2 l3 : Int32} (J : Jx h i L xs) : ZcI mX10_town [.ref 10, .int l1, .int l2, .int l3] h (fun v h1 => ZcI mX11_town [.ref 200, .int l1, .int l2, .int l3] h1 (fun v' h2 => v = v' ∧ Jx h2 (i + 1) L xs)) := by
  by_cases c1 : 0 ≤ l1 ∧ l1 ≤ 5
  · by_cases c2 : (0 ≤ l2 ∧ l2 ≤ 99) ∧ 0 ≤ l3 ∧ l3 ≤ 99
    · refine wX10_town (s_X10_isTown ⟨fun _ => s_X10_isPlace ⟨fun _ => ?_, fun q => absurd q (zb_nt c2)⟩, fun q => absurd q (zb_nt c1)⟩)
      obtain ⟨np, nm, nh, nw, ns, mo, ⟨S, C, T, P, M, St, G, R, W, V, X⟩, q1, q2⟩ := J
      obtain ⟨t, ht, rfl⟩ := in_nI (n := 5) (by decide) c1
      have ht6 : t < 6 := by omega
      have e1 := nI_clamp (n := t) (by omega)
      have F := shX S
      have F2 := shTw S
      have F3 := shTown S ht6
      have F4 := shM S
      simp only [F, F2, F3, e1]
      refine ⟨trivial, by decide, trivial, vp_in_nI ht6 (by omega), by omega, trivial, ?_⟩
      refine wX11_town (s_X11_isTown ⟨fun _ => s_X11_isPlace ⟨fun _ => ?_, fun q => absurd q (zb_nt c2)⟩, fun q => absurd q (zb_nt c1)⟩)
      simp only [zK_sI, zN_sI, zR_sI, F4, e1]
      refine ⟨trivial, by decide, trivial, vp_in_nI ht6 (by omega), by decide, trivial, vp_in_nI ht6 (by omega), trivial, ?_⟩
      have E : ∀ a j, ¬ ((12 ≤ a ∧ a < 18) ∨ a = 201 ∨ a = 202) → zI (zsI (zsI (zsI (zsI h (12 + t) 0 l2) (12 + t) 1 l3) 201 t l2) 202 t l3) a j = zI h a j := fun a j q => by
        simp (disch := omega) only [zI_sIs, zI_sIa, zI_sIj]
      refine ⟨np, nm, nh, nw, ns, mo, ⟨S, C.up.congr (fun a j q => E a j (by omega)), fun t' ht' => ?_, P.congr (fun a j q => E a j (by omega)) C.1.2.2.2, M.congr (fun a j q => E a j (by omega)) C.2.1.2.2, St.congr (fun a j q => E a j (by omega)), G.congr (fun a j q => E a j (by omega)), R.congr (fun a j q => E a j (by omega)), W.congr (fun a j q => E a j (by omega)), V.congr (fun a j q => E a j (by omega)), X.congr (fun a j q => E a j (by omega)) C.2.2.1.2.2⟩, q1, fun j hj => by rw [E 4 j (by omega)]; exact q2 j hj⟩
      by_cases e : t' = t
      · subst e
        simp (disch := omega) only [zI_sIs, zI_sIa, zI_sIj]
        exact ⟨trivial, trivial, rg_of c2.1 (by decide) (by decide), rg_of c2.2 (by decide) (by decide)⟩
      · have := T t' ht'
        simp (disch := omega) only [zI_sIs, zI_sIa, zI_sIj]
        exact this
    · refine wX10_town (s_X10_isTown ⟨fun _ => s_X10_isPlace ⟨fun q => absurd (zb_f c2) q, fun _ => ?_⟩, fun q => absurd q (zb_nt c1)⟩)
      refine wX11_town (s_X11_isTown ⟨fun _ => s_X11_isPlace ⟨fun q => absurd (zb_f c2) q, fun _ => ?_⟩, fun q => absurd q (zb_nt c1)⟩)
      exact ⟨rfl, J.up⟩
  · refine wX10_town (s_X10_isTown ⟨fun q => absurd (zb_f c1) q, fun _ => ?_⟩)
    refine wX11_town (s_X11_isTown ⟨fun q => absurd (zb_f c1) q, fun _ => ?_⟩)
    exact ⟨rfl, J.up⟩
end OPS
