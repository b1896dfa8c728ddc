section HARMS
variable {h : ZH} {ψ : Int32 → ZH → Prop} {np nm nh : Nat}
/-- pit p can be harm k -/
abbrev cb (h : ZH) (k p : Nat) : Prop := ¬ (zI h 207 p / 30) < far1 (zI h 203 p - zI h 250 k) + far1 (zI h 204 p - zI h 251 k) ∧ ¬ zI h 252 k < zI h 248 p ∧ ¬ zI h 249 p < zI h 252 k - zI h 219 6
theorem s_X10_canBe {k p : Nat} (S : Sh h np nm nh) (P : JP h np) (X : JH h nh) (St : JS h) (hn : np ≤ 8) (hk : k < nh) (hp : p < np) (e : ψ (zb (cb h k p)) h) : ZcI mX10_canBe [.ref 10, .int (nI p), .ref (500 + 2 * k)] h ψ := by
  have e1 := nI_clamp (n := p) (by omega)
  have v1 : vp_in (nI p) 8 := vp_in_nI (by omega) (by omega)
  have hp1 := shPit S hp
  have hk1 := shHarm S hk
  have Pp := P.1 p hp
  have Xk := X k hk
  have s6 := (St 6 (by omega)).1
  refine wX10_canBe ?_
  simp only [shX S, hp1, hk1, e1, v1, ne_eq]
  refine ⟨trivial, by decide, trivial, trivial, by omega, trivial, by omega, trivial, by omega, trivial, s_X5_farFrom hp1.2.2.1 hk1.2.2.1 ?_⟩
  simp only [shX S, hp1, hk1, Pp, Xk, s6, ne_eq]
  refine ⟨trivial, fun z => ?_, fun z => ⟨trivial, fun y => ?_, fun y => ⟨trivial, by decide, trivial, by decide, fun w => ?_, fun w => ?_⟩⟩⟩
  · rw [zb_f (fun q => q.1 z)] at e; exact e
  · rw [zb_f (fun q => q.2.1 y)] at e; exact e
  · rw [zb_f (fun q => q.2.2 w)] at e; exact e
  · rw [zb_t ⟨z, y, w⟩] at e; exact e
theorem s_X11_canBe {k p : Nat} (S : Sh h np nm nh) (P : JP h np) (X : JH h nh) (hn : np ≤ 8) (hn2 : nh ≤ 10) (hk : k < nh) (hp : p < np) (e : ψ (zb (cb h k p)) h) : ZcI mX11_canBe [.ref 200, .int (nI p), .int (nI k)] h ψ := by
  have e1 := nI_clamp (n := p) (by omega)
  have v1 : vp_in (nI p) 8 := vp_in_nI (by omega) (by omega)
  have e2 := nI_clamp (n := k) (by omega)
  have v2 : vp_in (nI k) 10 := vp_in_nI (by omega) (by omega)
  have Pp := P.1 p hp
  have Xk := X k hk
  refine wX11_canBe ?_
  simp only [shM S, e1, v1, e2, v2, ne_eq]
  refine ⟨trivial, by decide, trivial, trivial, by decide, trivial, trivial, s_X11_size ?_⟩
  simp only [shM S, e1, v1, e2, v2, ne_eq]
  refine ⟨trivial, by decide, trivial, trivial, by decide, trivial, trivial, s_X11_size ?_⟩
  have d := d30 (v := zI h 207 p) (by simp only [Pp, and_self])
  have f1 := far1_comm (a := zI h 250 k) (b := zI h 203 p) (by simp only [Xk, and_self]) (by simp only [Pp, and_self])
  have f2 := far1_comm (a := zI h 251 k) (b := zI h 204 p) (by simp only [Xk, and_self]) (by simp only [Pp, and_self])
  simp only [shM S, e1, v1, e2, v2, ne_eq, d, f1, f2]
  refine ⟨trivial, by decide, trivial, trivial, by decide, trivial, trivial, fun z => ?_, fun z => ⟨by decide, trivial, trivial, by decide, trivial, by decide, fun y => ?_, fun y => ?_⟩⟩
  · rw [zb_f (fun q => q.2.1 z)] at e
    exact ⟨by decide, trivial, trivial, fun _ => e, fun _ => e⟩
  · rw [zb_f (fun q => q.2.2 y)] at e
    exact ⟨by decide, trivial, trivial, fun _ => e, fun _ => e⟩
  · refine ⟨by decide, trivial, trivial, fun w => ?_, fun w => ?_⟩
    · rw [zb_f (fun q => q.1 w)] at e; exact e
    · rw [zb_t ⟨w, z, y⟩] at e; exact e
end HARMS
