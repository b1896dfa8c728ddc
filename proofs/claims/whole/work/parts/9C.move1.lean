theorem fsS_stay {f : Nat → Nat} {v n : Nat} (e : fsS f v n ≠ 12) : ∀ {m : Nat}, fsS f v (n + m) = fsS f v n
  | 0 => rfl
  | m + 1 => by
    have ih := fsS_stay e (m := m)
    show (if fsS f v (n + m) = 12 then (if f (n + m) = v then n + m else 12) else fsS f v (n + m)) = fsS f v n
    rw [ih, if_neg e]
section MOVE1
variable {g h : ZH} {np nm nh : Nat}
/-- the model's base while it works the table -/
def BB (g h H : ZH) (sl : SLt) (mv : MVt) : Prop := ZR g h H ∧ SMl H sl ∧ MMl H mv ∧ ∀ k, k < mv.1 → zI H 232 k = zb (truM h 1 (mv.2.1 k))
/-- the table from layer k0 on -/
def LB (h H : ZH) (sl : SLt) (mv : MVt) (k0 : Nat) : Prop := ∀ k, k0 ≤ k → k ≤ mv.1 → ∀ t, t < 2 ^ sl.1 → zI H 230 (4096 * k + t) = nI (Lf (alJ h sl mv.2.1) (csW (wyJ h sl mv.2.1) (frJ h sl mv.2.1)) sl.1 (mv.1 - k) k t)
/-- what the lists of slots and movers keep to -/
def LI (h : ZH) (np nm : Nat) (sl : SLt) (mv : MVt) : Prop := sl.1 ≤ 12 ∧ mv.1 ≤ 9 ∧ (∀ s, s < sl.1 → sl.2.1 s < np ∧ sl.2.2 s < 3) ∧ (∀ j, j < mv.1 → mv.2.1 j < nm) ∧ ∀ j s, j < mv.1 → s < sl.1 → wyJ h sl mv.2.1 j s ≤ 198
theorem BB.fr {H H1 : ZH} {sl : SLt} {mv : MVt} (b : BB g h H sl mv) (kk : zK H1 = zK H) (kn : zN H1 = zN H) (kr : zR H1 = zR H) (E : ∀ a j, a ≠ 230 → a ≠ 231 → zI H1 a j = zI H a j) : BB g h H1 sl mv :=
  ⟨b.1.trans ⟨kk, kn, kr, fun a j q => E a j (fun z => q (by unfold scr; omega)) (fun z => q (by unfold scr; omega))⟩, b.2.1.fr (fun a j q => E a j (by omega) (by omega)), b.2.2.1.fr (fun a j q => E a j (by omega) (by omega)), fun k hk => by rw [E _ _ (by omega) (by omega)]; exact b.2.2.2 k hk⟩
theorem pow12 {S : Nat} (h : S ≤ 12) : 2 ^ S ≤ 4096 := Nat.pow_le_pow_right (n := 2) (by omega) h
theorem byS_bd {al : Nat → Nat → Bool} {wy : Nat → Nat → Nat} {fr : Nat → Nat → Bool} {S i k t s : Nat} (hi : i ≤ 9) (hw : wy k s ≤ 198) : byS al (csW wy fr) (Lf al (csW wy fr) S i (k + 1)) k t s ≤ 1000000000 := by
  unfold byS
  by_cases c : t.testBit s = true ∨ al k s = false
  · rw [if_pos c]; exact Nat.le_refl _
  · rw [if_neg c]
    have h1 := Lf_bd (al := al) (cs := csW wy fr) (S := S) (i := i) (k := k + 1) (t := t ||| 2 ^ s)
    have h2 : i * 10000000 ≤ 9 * 10000000 := Nat.mul_le_mul_right _ hi
    unfold csW at h1 ⊢
    by_cases f : fr k s = true
    · rw [if_pos f]; omega
    · rw [if_neg f]; omega
set_option maxHeartbeats 4000000 in
theorem s_X11_byslot {ψ : Int32 → ZH → Prop} {H : ZH} {sl : SLt} {mv : MVt} {k t s : Nat} (K : LV h np nm nh) (ne : NEk h) (I : LI h np nm sl mv) (b : BB g h H sl mv) (hk : k < mv.1) (ht : t < 2 ^ sl.1) (hs : s < sl.1) (L : LB h H sl mv (k + 1))
    (q : ψ (nI (byS (alJ h sl mv.2.1) (csW (wyJ h sl mv.2.1) (frJ h sl mv.2.1)) (Lf (alJ h sl mv.2.1) (csW (wyJ h sl mv.2.1) (frJ h sl mv.2.1)) sl.1 (mv.1 - (k + 1)) (k + 1)) k t s)) H) : ZcI mX11_byslot [.ref 200, .int (nI k), .int (nI t), .int (nI s)] H ψ := by
  obtain ⟨i1, i2, i3, i4, i5⟩ := I
  have S := b.1.Sh K.1
  have h8 := K.2.2.1
  have h24 := K.2.2.2.1
  have E := b.1.2.2.2.2
  have p12 := pow12 i1
  have hm := i4 k hk
  obtain ⟨tw6, etw⟩ := twN_of K hm
  have ek := nI_clamp (n := k) (by omega)
  have vk24 : vp_in (nI k) 24 := vp_in_nI (by omega) (by omega)
  have vk9 : vp_in (nI k) 9 := vp_in_nI (by omega) (by omega)
  have em := nI_clamp (n := mv.2.1 k) (by omega)
  have vm : vp_in (nI (mv.2.1 k)) 24 := vp_in_nI (by omega) (by omega)
  have es := nI_clamp (n := s) (by omega)
  have vs : vp_in (nI s) 12 := vp_in_nI (by omega) (by omega)
  have c24 := b.2.2.1.2.1 k hk
  have c27 := (b.2.1.2.2 s hs).1
  have c28 := (b.2.1.2.2 s hs).2
  have c14 : zI H 214 (mv.2.1 k) = nI (twN h (mv.2.1 k)) := by rw [E _ _ (by unfold scx scr; omega)]; exact etw
  have c12 : zI H 212 (mv.2.1 k) = zI h 212 (mv.2.1 k) := E _ _ (by unfold scx scr; omega)
  have c19 : zI H 219 1 = nI (neN h) := by rw [E _ _ (by unfold scx scr; omega)]; exact ne.2.1
  have sp := (i3 s hs).1
  obtain ⟨w1, w2⟩ := wyN_bd K.2.2.2.2.1 K.2.2.2.2.2.1 tw6 sp
  have wyE : wyN H (twN h (mv.2.1 k)) (sl.2.1 s) = nI (wyJ h sl mv.2.1 k s) := by rw [wyN_sm b.1.2]; exact w1
  have wb : wyJ h sl mv.2.1 k s ≤ 198 := w2
  have nb := ne.2.2
  have leq : (nI (wyJ h sl mv.2.1 k s) ≤ nI (neN h)) ↔ ¬ neN h < wyJ h sl mv.2.1 k s := by rw [tI_le, nI_toInt (by omega), nI_toInt (by omega)]; omega
  have or_ := or_lt hs ht
  have ix : (4096 * (nI k + 1)) + (nI t ||| ((1 : Int32) <<< (nI s &&& 31))) = nI (4096 * (k + 1) + (t ||| 2 ^ s)) := by
    rw [nI_1, sh12 s (by omega), or12 (by omega) (by omega), show (4096 : Int32) = nI 4096 from rfl, nI_mul, nI_add]
  have eix := nI_clamp (n := 4096 * (k + 1) + (t ||| 2 ^ s)) (by omega)
  have vix : vp_in (nI (4096 * (k + 1) + (t ||| 2 ^ s))) 40960 := vp_in_nI (by omega) (by omega)
  have cL := L (k + 1) (Nat.le_refl _) (by omega) (t ||| 2 ^ s) or_
  have cb := b.2.2.2 k hk
  have tb := tb12 (s := s) (t := t) (by omega) (by omega)
  have at43 : ∀ s0 : Int32, s0 = zb (neN h < wyJ h sl mv.2.1 k s) → Zt mX11_byslot (zPI ψ) 0 0 43 [some (.ref 200), some (.int (nI k)), some (.int (nI t)), some (.int (nI s)), some (.int (nI (mv.2.1 k))), some (.int (nI (wyJ h sl mv.2.1 k s))), none] [.int s0] H := fun s0 hs0 => by
    subst hs0
    unfold byS at q
    have never : (t.testBit s = true ∨ alJ h sl mv.2.1 k s = false) → ψ 1000000000 H := fun z => by rw [if_pos z] at q; exact q
    refine wX11_byslot_43 ?_
    rw [tb]
    refine ⟨fun z => never (Or.inl z), fun z => ?_⟩
    rw [ix]
    simp only [shM S, es, vs, em, vm, ek, vk9, c28, c12, eix, vix, cL, cb, i_add0, ne_eq]
    refine ⟨trivial, by decide, trivial, trivial, by decide, trivial, trivial, fun w => never (Or.inr ?_), fun w => ?_⟩
    · unfold alJ; rw [decide_eq_false_iff_not]; exact fun x => w x.1.symm
    · refine zb_if (fun f => ?_) (fun f => ?_)
      · -- far
        have ef : frJ h sl mv.2.1 k s = true := by unfold frJ; rw [decide_eq_true_iff]; exact f
        refine ⟨by decide, trivial, trivial, ?_⟩
        refine zb_if (fun tr => never (Or.inr ?_)) (fun tr => ⟨by decide, trivial, trivial, ?_⟩)
        · unfold alJ; rw [decide_eq_false_iff_not]
          rintro ⟨_, x | x⟩
          · exact x f
          · exact x tr
        · have ea : ¬ (t.testBit s = true ∨ alJ h sl mv.2.1 k s = false) := fun x => x.elim z (fun y => by
            unfold alJ at y
            rw [decide_eq_false_iff_not] at y
            exact y ⟨w.symm, Or.inr tr⟩)
          rw [if_neg ea] at q
          have e1 : csW (wyJ h sl mv.2.1) (frJ h sl mv.2.1) k s = wyJ h sl mv.2.1 k s + 100000 := by
            show wyJ h sl mv.2.1 k s + (if frJ h sl mv.2.1 k s = true then 100000 else 0) = _
            rw [if_pos ef]
          rw [e1, ← Nat.add_assoc, ← nI_add, ← nI_add] at q
          rw [zb_t f]
          exact ⟨fun x => absurd x (by decide), fun _ => q⟩
      · have ef : frJ h sl mv.2.1 k s = false := by unfold frJ; rw [decide_eq_false_iff_not]; exact f
        refine ⟨by decide, trivial, trivial, ?_⟩
        have ea : ¬ (t.testBit s = true ∨ alJ h sl mv.2.1 k s = false) := fun x => x.elim z (fun y => by
          unfold alJ at y
          rw [decide_eq_false_iff_not] at y
          exact y ⟨w.symm, Or.inl f⟩)
        rw [if_neg ea] at q
        have e1 : csW (wyJ h sl mv.2.1) (frJ h sl mv.2.1) k s = wyJ h sl mv.2.1 k s := by
          show wyJ h sl mv.2.1 k s + (if frJ h sl mv.2.1 k s = true then 100000 else 0) = _
          rw [ef, if_neg (by decide), Nat.add_zero]
        rw [e1, ← nI_add] at q
        rw [zb_f f]
        exact ⟨fun _ => q, fun x => absurd rfl x⟩
  refine wX11_byslot ?_
  simp only [shM S, ek, vk24, c24, ne_eq]
  refine ⟨trivial, by decide, trivial, trivial, fun v21 e21 => ?_⟩
  subst e21
  simp only [em, vm, es, vs, c14, c27]
  refine ⟨by decide, trivial, trivial, by decide, trivial, trivial, s_X11_farTo S tw6 (by omega) ?_⟩
  rw [wyE]
  simp only [shM S, c19, leq, ne_eq]
  exact ⟨trivial, by decide, trivial, by decide, fun z => at43 _ (by rw [zb_f z]), fun z => at43 _ (by rw [zb_t (Classical.not_not.mp z)])⟩
end MOVE1
