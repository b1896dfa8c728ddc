section FAULT4
variable {h : ZH} {np nm nh : Nat} {i L : Nat} {xs : Nat → Int32}
theorem tx24 {ns : Nat} (S : Sh h np nm nh) (c : zI h 24 1 = nI ns) (hn : ns ≤ 40) (G : JG h ns) : Tx h 24 (fun j => zI h 220 (120 + j)) ns :=
  ⟨S.1 24 (by decide), S.2.2.1 24 0 (by decide), S.1 25 (by decide), S.2.1 25 (by decide) (by decide), c, hn, fun j hj => (G j hj).1⟩
set_option maxHeartbeats 4000000 in
theorem op_fault (J : Jx h i L xs) : ZcI mX10_fault [.ref 10] h (fun v h1 => ZcI mX11_fault [.ref 200] h1 (fun v' h2 => v = v' ∧ Jx h2 (i + 1) L xs)) := by
  have J0 := J
  obtain ⟨np, nm, nh, nw, ns, mo, ⟨S, C, T, P, M, St, G, R, W, V, X⟩, q1, q2⟩ := J
  have kX : zK h 10 = 11 := (shX S).1
  have kM : zK h 200 = 12 := (shM S).1
  have cp := C.1
  have cm := C.2.1
  have ch := C.2.2.1
  have cw := C.2.2.2.1
  have cs := C.2.2.2.2.1
  have b1 : np < 2 ^ 31 := by omega
  have b2 : nm < 2 ^ 31 := by omega
  have b3 : nh < 2 ^ 31 := by omega
  refine wX10_fault ?_
  simp only [shX S, (tx24 S cs.2.1 cs.2.2 G).1, ne_eq]
  exact ⟨trivial, by decide, trivial, s_X8_firstFault (tx24 S cs.2.1 cs.2.2 G) (s_X11_fault S cs.1 cs.2.2 ⟨rfl, J0.up⟩)⟩
end FAULT4
