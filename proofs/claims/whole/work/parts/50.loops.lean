/-- a loop whose states are numbered: from its end down to its start -/
theorem down {I : Nat → Prop} {n : Nat} (e : I n) (s : ∀ k, k < n → I (k + 1) → I k) : I 0 := by
  have : ∀ d k, k + d = n → I k := by
    intro d
    induction d with
    | zero => intro k hk; rw [show k = n by omega]; exact e
    | succ d ih => intro k hk; exact s k (by omega) (ih (k + 1) (by omega))
  exact this n 0 (by omega)
def fold (f : Nat → Int32 → Int32) : Nat → Int32
  | 0 => 0
  | n + 1 => f n (fold f n)
theorem fold_congr {f g : Nat → Int32 → Int32} {n : Nat} (e : ∀ k, k < n → ∀ a, f k a = g k a) : fold f n = fold g n := by
  induction n with
  | zero => rfl
  | succ n ih =>
    show f n (fold f n) = g n (fold g n)
    rw [ih (fun k hk => e k (by omega)), e n (by omega)]
theorem i_or0 (a : Int32) : a ||| 0 = a := by simp
theorem i_add0 (a : Int32) : a + 0 = a := by simp
section LOOPS
variable {h : ZH} {ψ : Int32 → ZH → Prop} {np nm nh : Nat}
/-- what the loops over men need of the state -/
def LMe (h : ZH) (np nm nh : Nat) : Prop := Sh h np nm nh ∧ zI h 10 13 = nI nm ∧ zI h 200 17 = nI nm ∧ nm ≤ 24 ∧ JM h np nm
/-- what the loops over pits need of the state -/
def LPi (h : ZH) (np nm nh : Nat) : Prop := Sh h np nm nh ∧ zI h 10 12 = nI np ∧ zI h 200 9 = nI np ∧ np ≤ 8 ∧ JP h np
theorem cnt_le {n k : Nat} (hn : n < 2 ^ 31) (hk : k < n) : ¬ nI n ≤ nI k := nI_ge hk hn
def fAt (h : ZH) (pit : Int32) : Nat → Int32 → Int32 := fun m a => if zI h 215 m = pit then a + 1 else a
theorem s_X10_menAt {pit : Int32} (H : LMe h np nm nh) (k : ψ (fold (fAt h pit) nm) h) : ZcI mX10_menAt [.ref 10, .int pit] h ψ := by
  obtain ⟨S, c, -, hn, M⟩ := H
  refine wX10_menAt (down (I := fun k => Zt mX10_menAt (zPI ψ) 0 0 4 [some (.ref 10), some (.int pit), some (.int (fold (fAt h pit) k)), some (.int (nI k))] [] h) (n := nm) ?_ (fun m hm q => ?_))
  · refine wX10_menAt_4 ?_
    rw [c]
    exact ⟨(shX S).1, fun _ => k, fun q => absurd (Int32.le_refl _) q⟩
  · refine wX10_menAt_4 ?_
    have e1 := nI_clamp (n := m) (by omega)
    have v1 : vp_in (nI m) 24 := vp_in_nI (by omega) (by omega)
    have hm1 := shMan S hm
    have Mm := M m hm
    simp only [shX S, c, hm1, e1, v1, Mm, ne_eq, nI_1]
    refine ⟨trivial, Bf (cnt_le (by omega) hm) ⟨by decide, trivial, trivial, by omega, trivial, fun z => ?_, fun z => ?_⟩⟩
    · have e : fold (fAt h pit) (m + 1) = fold (fAt h pit) m := if_neg z
      rw [e] at q
      exact q
    · have e : fold (fAt h pit) (m + 1) = fold (fAt h pit) m + 1 := if_pos z
      rw [e] at q
      exact q
theorem s_X11_menAt {pit : Int32} (S : Sh h np nm nh) (c : zI h 200 17 = nI nm) (hn : nm ≤ 24) (k : ψ (fold (fAt h pit) nm) h) : ZcI mX11_menAt [.ref 200, .int pit] h ψ := by
  refine wX11_menAt (down (I := fun k => Zt mX11_menAt (zPI ψ) 0 0 4 [some (.ref 200), some (.int pit), some (.int (fold (fAt h pit) k)), some (.int (nI k))] [] h) (n := nm) ?_ (fun m hm q => ?_))
  · refine wX11_menAt_4 ?_
    rw [c]
    exact ⟨(shM S).1, fun _ => k, fun q => absurd (Int32.le_refl _) q⟩
  · refine wX11_menAt_4 ?_
    have e1 := nI_clamp (n := m) (by omega)
    have v1 : vp_in (nI m) 24 := vp_in_nI (by omega) (by omega)
    simp only [shM S, c, e1, v1, ne_eq, nI_1, i_add0]
    refine ⟨trivial, Bf (cnt_le (by omega) hm) ⟨by decide, trivial, trivial, fun z => ?_, fun z => ?_⟩⟩
    · have e : fold (fAt h pit) (m + 1) = fold (fAt h pit) m := if_neg z
      rw [e] at q
      exact q
    · have e : fold (fAt h pit) (m + 1) = fold (fAt h pit) m + 1 := if_pos z
      rw [e] at q
      exact q
def fWho (h : ZH) (s : Int32) : Nat → Int32 → Int32 := fun m a => if zI h 217 m = s then a + 1 else a
theorem s_X10_menWhoAre {s : Int32} (H : LMe h np nm nh) (k : ψ (fold (fWho h s) nm) h) : ZcI mX10_menWhoAre [.ref 10, .int s] h ψ := by
  obtain ⟨S, c, -, hn, M⟩ := H
  refine wX10_menWhoAre (down (I := fun k => Zt mX10_menWhoAre (zPI ψ) 0 0 4 [some (.ref 10), some (.int s), some (.int (fold (fWho h s) k)), some (.int (nI k))] [] h) (n := nm) ?_ (fun m hm q => ?_))
  · refine wX10_menWhoAre_4 ?_
    rw [c]
    exact ⟨(shX S).1, fun _ => k, fun q => absurd (Int32.le_refl _) q⟩
  · refine wX10_menWhoAre_4 ?_
    have e1 := nI_clamp (n := m) (by omega)
    have v1 : vp_in (nI m) 24 := vp_in_nI (by omega) (by omega)
    have hm1 := shMan S hm
    have Mm := M m hm
    simp only [shX S, c, hm1, e1, v1, Mm, ne_eq, nI_1]
    refine ⟨trivial, Bf (cnt_le (by omega) hm) ⟨by decide, trivial, trivial, by omega, trivial, fun z => ?_, fun z => ?_⟩⟩
    · have e : fold (fWho h s) (m + 1) = fold (fWho h s) m := if_neg z
      rw [e] at q
      exact q
    · have e : fold (fWho h s) (m + 1) = fold (fWho h s) m + 1 := if_pos z
      rw [e] at q
      exact q
theorem s_X11_told_42 {l1 : Int32} (S : Sh h np nm nh) (c : zI h 200 17 = nI nm) (hn : nm ≤ 24) (k : ψ (fold (fWho h (l1 - 10)) nm) h) : Zt mX11_told (zPI ψ) 0 0 42 [some (.ref 200), some (.int l1), some (.int 0), some (.int 0)] [] h := by
  refine down (I := fun k => Zt mX11_told (zPI ψ) 0 0 42 [some (.ref 200), some (.int l1), some (.int (fold (fWho h (l1 - 10)) k)), some (.int (nI k))] [] h) (n := nm) ?_ (fun m hm q => ?_)
  · refine wX11_told_42 ?_
    rw [c]
    exact ⟨(shM S).1, fun _ => k, fun q => absurd (Int32.le_refl _) q⟩
  · refine wX11_told_42 ?_
    have e1 := nI_clamp (n := m) (by omega)
    have v1 : vp_in (nI m) 24 := vp_in_nI (by omega) (by omega)
    simp only [shM S, c, e1, v1, ne_eq, nI_1, i_add0]
    refine ⟨trivial, Bf (cnt_le (by omega) hm) ⟨by decide, trivial, trivial, fun z => ?_, fun z => ?_⟩⟩
    · have e : fold (fWho h (l1 - 10)) (m + 1) = fold (fWho h (l1 - 10)) m := if_neg z
      rw [e] at q
      exact q
    · have e : fold (fWho h (l1 - 10)) (m + 1) = fold (fWho h (l1 - 10)) m + 1 := if_pos z
      rw [e] at q
      exact q
def fOp (h : ZH) : Nat → Int32 → Int32 := fun p a => if zI h 208 p = 0 then a else a ||| ((1 : Int32) <<< (nI p &&& 31))
theorem s_X10_openPits (H : LPi h np nm nh) (k : ψ (fold (fOp h) np) h) : ZcI mX10_openPits [.ref 10] h ψ := by
  obtain ⟨S, c, -, hn, P⟩ := H
  refine wX10_openPits (down (I := fun k => Zt mX10_openPits (zPI ψ) 0 0 4 [some (.ref 10), some (.int (fold (fOp h) k)), some (.int (nI k))] [] h) (n := np) ?_ (fun p hp q => ?_))
  · refine wX10_openPits_4 ?_
    rw [c]
    exact ⟨(shX S).1, fun _ => k, fun q => absurd (Int32.le_refl _) q⟩
  · refine wX10_openPits_4 ?_
    have e1 := nI_clamp (n := p) (by omega)
    have v1 : vp_in (nI p) 8 := vp_in_nI (by omega) (by omega)
    have hp1 := shPit S hp
    have Pp := P.1 p hp
    simp only [shX S, c, hp1, e1, v1, Pp, ne_eq, nI_1]
    refine ⟨trivial, Bf (cnt_le (by omega) hp) ⟨by decide, trivial, trivial, by omega, trivial, fun z => ?_, fun z => ?_⟩⟩
    · have e : fold (fOp h) (p + 1) = fold (fOp h) p := if_pos z
      rw [e] at q
      exact q
    · have e : fold (fOp h) (p + 1) = fold (fOp h) p ||| ((1 : Int32) <<< (nI p &&& 31)) := if_neg z
      rw [e] at q
      exact q
/-- the model's told, behind its loop over pits -/
theorem s_X11_told_81 {l1 : Int32} (S : Sh h np nm nh) (c : zI h 200 9 = nI np) (hn : np ≤ 8)
    (k : ((l1 = 0 → ψ (zI h 200 9) h) ∧ (l1 = 1 → ψ (zI h 200 17) h) ∧ (l1 = 2 → ψ (zI h 221 3) h) ∧ (l1 = 3 → ψ (zI h 200 39) h) ∧ (l1 = 4 → ψ (zI h 200 53) h) ∧ (l1 = 5 → ψ (zI h 200 40) h) ∧ (l1 = 6 → ψ (zI h 200 41) h) ∧ (l1 = 7 → ψ (zI h 200 42) h) ∧ (l1 = 8 → ψ (fold (fOp h) np) h) ∧ (¬ l1 = 0 → ¬ l1 = 1 → ¬ l1 = 2 → ¬ l1 = 3 → ¬ l1 = 4 → ¬ l1 = 5 → ¬ l1 = 6 → ¬ l1 = 7 → ¬ l1 = 8 → ψ (-2) h))) : Zt mX11_told (zPI ψ) 0 0 81 [some (.ref 200), some (.int l1), some (.int 0), some (.int 0)] [] h := by
  refine down (I := fun k => Zt mX11_told (zPI ψ) 0 0 81 [some (.ref 200), some (.int l1), some (.int (fold (fOp h) k)), some (.int (nI k))] [] h) (n := np) ?_ (fun p hp q => ?_)
  · refine wX11_told_81 ?_
    refine ⟨(shM S).1, fun _ => ⟨k.1, k.2.1, fun z => ?_, k.2.2.2⟩, fun q => absurd (by rw [c]; exact Int32.le_refl _) q⟩
    simp only [shM S, ne_eq]
    exact ⟨by decide, trivial, by decide, k.2.2.1 z⟩
  · refine wX11_told_81 ?_
    have e1 := nI_clamp (n := p) (by omega)
    have v1 : vp_in (nI p) 8 := vp_in_nI (by omega) (by omega)
    refine ⟨(shM S).1, fun z => absurd z (by rw [c]; exact cnt_le (by omega) hp), fun _ => ?_⟩
    simp only [shM S, e1, v1, ne_eq, nI_1, i_or0]
    refine ⟨by decide, trivial, trivial, fun z => ?_, fun z => ?_⟩
    · have e : fold (fOp h) (p + 1) = fold (fOp h) p := if_pos z
      rw [e] at q
      exact q
    · have e : fold (fOp h) (p + 1) = fold (fOp h) p ||| ((1 : Int32) <<< (nI p &&& 31)) := if_neg z
      rw [e] at q
      exact q
end LOOPS
