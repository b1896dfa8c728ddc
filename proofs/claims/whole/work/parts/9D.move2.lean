section MOVE2
variable {g0 h : ZH} {np nm nh : Nat}
abbrev alD (h : ZH) (sl : SLt) (mv : MVt) : Nat → Nat → Bool := alJ h sl mv.2.1
abbrev csD (h : ZH) (sl : SLt) (mv : MVt) : Nat → Nat → Nat := csW (wyJ h sl mv.2.1) (frJ h sl mv.2.1)
/-- the model has found the move -/
def C5 (g0 h H : ZH) (sl : SLt) (mv : MVt) : Prop := ZR g0 h H ∧ SMl H sl ∧ MMl H mv ∧ (∀ k, k < mv.1 → zI H 231 k = if cM (alD h sl mv) (csD h sl mv) sl.1 mv.1 k = 12 then -6 else nI (cM (alD h sl mv) (csD h sl mv) sl.1 mv.1 k)) ∧ zI H 230 0 = nI (Lf (alD h sl mv) (csD h sl mv) sl.1 mv.1 0 0)
theorem tM_lt {al : Nat → Nat → Bool} {cs : Nat → Nat → Nat} {S n : Nat} (hS : S ≤ 12) : ∀ {k : Nat}, tM al cs S n k < 2 ^ S
  | 0 => Nat.pow_pos (by omega)
  | k + 1 => by
    have ih := tM_lt (al := al) (cs := cs) (n := n) hS (k := k)
    rw [tM_s]
    by_cases c : cM al cs S n k = 12
    · rw [if_pos c]; exact ih
    · rw [if_neg c]
      exact or_lt (fsS_n hS c).1 ih
set_option maxHeartbeats 4000000 in
theorem s_X11_table {ψ : ZH → Prop} {H : ZH} {sl : SLt} {mv : MVt} (K : LV h np nm nh) (ne : NEk h) (I : LI h np nm sl mv) (b : BB g0 h H sl mv) (k : ∀ H1, BB g0 h H1 sl mv → LB h H1 sl mv 0 → Zt mX11_findMove (zPV ψ) 0 0 199 [some (.ref 200), none, some (.int 0), some (.int 0), none, none, none] [] H1) :
    Zt mX11_findMove (zPV ψ) 0 0 50 [some (.ref 200), none, some (.int 0), none, none, none, none] [] H := by
  have I0 := I
  obtain ⟨i1, i2, i3, i4, i5⟩ := I
  have p12 := pow12 i1
  have sh := sh12 sl.1 (by omega)
  have b4 : (4096 : Int32) = nI 4096 := rfl
  -- layers from the last but one down
  have layers : ∀ j, j ≤ mv.1 → ∀ H1, BB g0 h H1 sl mv → LB h H1 sl mv j → Zt mX11_findMove (zPV ψ) 0 0 89 [some (.ref 200), none, some (.int (nI j - 1)), none, none, none, none] [] H1 := by
    intro j
    induction j with
    | zero =>
      intro _ H1 b1 L1
      exact wX11_findMove_89 ⟨fun _ => k H1 b1 L1, fun z => absurd n1_lt z⟩
    | succ j ih =>
      intro hj H1 b1 L1
      rw [nI_pred]
      refine wX11_findMove_89 ⟨fun z => absurd z (nI_pos (by omega)), fun _ => ?_⟩
      have takens := down (n := 2 ^ sl.1) (I := fun t => ∀ H2, BB g0 h H2 sl mv → LB h H2 sl mv (j + 1) → (∀ t', t' < t → zI H2 230 (4096 * j + t') = nI (Lf (alD h sl mv) (csD h sl mv) sl.1 (mv.1 - j) j t')) → Zt mX11_findMove (zPV ψ) 0 0 95 [some (.ref 200), none, some (.int (nI j)), some (.int (nI t)), none, none, none] [] H2) ?_ ?_
      · exact takens H1 b1 L1 (fun t' ht' => absurd ht' (by omega))
      · intro H2 b2 L2 g
        have S2 := b2.1.Sh K.1
        refine wX11_findMove_95 ⟨(shM S2).1, fun _ => ?_, fun z => absurd (by rw [b2.2.1.1, sh]; exact Int32.le_refl _) z⟩
        rw [nI_dec]
        refine ih (by omega) H2 b2 (fun k' h1 h2 t ht => ?_)
        by_cases ek : k' = j
        · subst ek; exact g t ht
        · exact L2 k' (by omega) h2 t ht
      · intro t ht ih2 H2 b2 L2 g
        have S2 := b2.1.Sh K.1
        have ix : 4096 * (nI j + 1) + nI t = nI (4096 * (j + 1) + t) := by rw [nI_1, b4, nI_mul, nI_add]
        have eix := nI_clamp (n := 4096 * (j + 1) + t) (by omega)
        have vix : vp_in (nI (4096 * (j + 1) + t)) 40960 := vp_in_nI (by omega) (by omega)
        have jx : 4096 * nI j + nI t = nI (4096 * j + t) := by rw [b4, nI_mul, nI_add]
        have ejx := nI_clamp (n := 4096 * j + t) (by omega)
        have vjx : vp_in (nI (4096 * j + t)) 40960 := vp_in_nI (by omega) (by omega)
        have cL := L2 (j + 1) (Nat.le_refl _) (by omega) t ht
        refine wX11_findMove_95 ⟨(shM S2).1, fun z => absurd z (by rw [b2.2.1.1, sh]; exact cnt_le (by omega) ht), fun _ => ?_⟩
        rw [ix]
        simp only [shM S2, eix, vix, cL, ne_eq]
        refine ⟨by decide, trivial, trivial, fun v36 e36 => ?_⟩
        rw [show (10000000 : Int32) = nI 10000000 from rfl, nI_add] at e36
        subst e36
        have hL := Lf_bd (al := alD h sl mv) (cs := csD h sl mv) (S := sl.1) (i := mv.1 - (j + 1)) (k := j + 1) (t := t)
        have hL9 : (mv.1 - (j + 1)) * 10000000 ≤ 9 * 10000000 := Nat.mul_le_mul_right _ (by omega)
        have slots := down (n := sl.1) (I := fun s => Zt mX11_findMove (zPV ψ) 0 0 128 [some (.ref 200), none, some (.int (nI j)), some (.int (nI t)), some (.int (nI (mnF (byS (alD h sl mv) (csD h sl mv) (Lf (alD h sl mv) (csD h sl mv) sl.1 (mv.1 - (j + 1)) (j + 1)) j t) (Lf (alD h sl mv) (csD h sl mv) sl.1 (mv.1 - (j + 1)) (j + 1) t + 10000000) s))), some (.int (nI s)), none] [] H2) ?_ (fun s hs q => ?_)
        · exact slots
        · refine wX11_findMove_128 ⟨(shM S2).1, fun _ => ?_, fun z => absurd (by rw [b2.2.1.1]; exact Int32.le_refl _) z⟩
          rw [jx]
          simp only [shM S2, ejx, vjx, nI_1, ne_eq]
          refine ⟨by decide, trivial, trivial, ih2 _ (b2.fr rfl rfl rfl (fun a i q1 q2 => zI_sIa q1)) (fun k' h1 h2 t' ht' => ?_) (fun t' ht' => ?_)⟩
          · have : 4096 * k' + t' ≠ 4096 * j + t := by omega
            rw [zI_sIj this]; exact L2 k' h1 h2 t' ht'
          · by_cases et : t' = t
            · subst et
              rw [zI_sIs, show mv.1 - j = (mv.1 - (j + 1)) + 1 by omega]
              rfl
            · rw [zI_sIj (by omega)]; exact g t' (by omega)
        · refine wX11_findMove_128 ⟨(shM S2).1, fun z => absurd z (by rw [b2.2.1.1]; exact cnt_le (by omega) hs), fun _ => s_X11_byslot K ne I0 b2 (by omega) ht hs L2 ?_⟩
          have bb := byS_bd (al := alD h sl mv) (wy := wyJ h sl mv.2.1) (fr := frJ h sl mv.2.1) (S := sl.1) (i := mv.1 - (j + 1)) (k := j) (t := t) (s := s) (by omega) (i5 j s (by omega) hs)
          have mb := mnF_a (f := byS (alD h sl mv) (csD h sl mv) (Lf (alD h sl mv) (csD h sl mv) sl.1 (mv.1 - (j + 1)) (j + 1)) j t) (a := Lf (alD h sl mv) (csD h sl mv) sl.1 (mv.1 - (j + 1)) (j + 1) t + 10000000) (n := s)
          have st : mnF (byS (alD h sl mv) (csD h sl mv) (Lf (alD h sl mv) (csD h sl mv) sl.1 (mv.1 - (j + 1)) (j + 1)) j t) (Lf (alD h sl mv) (csD h sl mv) sl.1 (mv.1 - (j + 1)) (j + 1) t + 10000000) (s + 1) = if byS (alD h sl mv) (csD h sl mv) (Lf (alD h sl mv) (csD h sl mv) sl.1 (mv.1 - (j + 1)) (j + 1)) j t s < mnF (byS (alD h sl mv) (csD h sl mv) (Lf (alD h sl mv) (csD h sl mv) sl.1 (mv.1 - (j + 1)) (j + 1)) j t) (Lf (alD h sl mv) (csD h sl mv) sl.1 (mv.1 - (j + 1)) (j + 1) t + 10000000) s then byS (alD h sl mv) (csD h sl mv) (Lf (alD h sl mv) (csD h sl mv) sl.1 (mv.1 - (j + 1)) (j + 1)) j t s else mnF (byS (alD h sl mv) (csD h sl mv) (Lf (alD h sl mv) (csD h sl mv) sl.1 (mv.1 - (j + 1)) (j + 1)) j t) (Lf (alD h sl mv) (csD h sl mv) sl.1 (mv.1 - (j + 1)) (j + 1) t + 10000000) s := rfl
          rw [st] at q
          rw [nI_1]
          revert q bb mb
          generalize byS (alD h sl mv) (csD h sl mv) (Lf (alD h sl mv) (csD h sl mv) sl.1 (mv.1 - (j + 1)) (j + 1)) j t s = B
          generalize mnF (byS (alD h sl mv) (csD h sl mv) (Lf (alD h sl mv) (csD h sl mv) sl.1 (mv.1 - (j + 1)) (j + 1)) j t) (Lf (alD h sl mv) (csD h sl mv) sl.1 (mv.1 - (j + 1)) (j + 1) t + 10000000) s = M
          intro q bb mb
          refine ⟨fun z => ?_, fun z => ?_⟩
          · rw [tI_le, nI_toInt (by omega), nI_toInt (by omega)] at z
            rw [if_neg (by omega)] at q
            exact q
          · rw [tI_le, nI_toInt (by omega), nI_toInt (by omega)] at z
            rw [if_pos (by omega)] at q
            exact q
  -- the last layer
  have zeros := down (n := 2 ^ sl.1) (I := fun t => ∀ H1, BB g0 h H1 sl mv → (∀ t', t' < t → zI H1 230 (4096 * mv.1 + t') = 0) → Zt mX11_findMove (zPV ψ) 0 0 50 [some (.ref 200), none, some (.int (nI t)), none, none, none, none] [] H1) ?_ ?_
  · exact zeros H b (fun t' ht' => absurd ht' (by omega))
  · intro H1 b1 g
    refine wX11_findMove_50 ⟨(shM (b1.1.Sh K.1)).1, fun _ => ?_, fun z => absurd (by rw [b1.2.1.1, sh]; exact Int32.le_refl _) z⟩
    rw [b1.2.2.1.1]
    refine layers mv.1 (Nat.le_refl _) H1 b1 (fun k' h1 h2 t ht => ?_)
    rw [show k' = mv.1 by omega, g t ht, Nat.sub_self]
    rfl
  · intro t ht ih H1 b1 g
    have S1 := b1.1.Sh K.1
    have ix : 4096 * nI mv.1 + nI t = nI (4096 * mv.1 + t) := by rw [b4, nI_mul, nI_add]
    have eix := nI_clamp (n := 4096 * mv.1 + t) (by omega)
    have vix : vp_in (nI (4096 * mv.1 + t)) 40960 := vp_in_nI (by omega) (by omega)
    refine wX11_findMove_50 ⟨(shM S1).1, fun z => absurd z (by rw [b1.2.1.1, sh]; exact cnt_le (by omega) ht), fun _ => ?_⟩
    rw [b1.2.2.1.1, ix]
    simp only [shM S1, eix, vix, nI_1, ne_eq]
    refine ⟨by decide, trivial, trivial, ih _ (b1.fr rfl rfl rfl (fun a i q1 q2 => zI_sIa q1)) (fun t' ht' => ?_)⟩
    by_cases et : t' = t
    · subst et; rw [zI_sIs]
    · rw [zI_sIj (by omega)]; exact g t' (by omega)
set_option maxHeartbeats 4000000 in
theorem s_X11_pick {ψ : ZH → Prop} {H : ZH} {sl : SLt} {mv : MVt} (K : LV h np nm nh) (ne : NEk h) (I : LI h np nm sl mv) (b : BB g0 h H sl mv) (L : LB h H sl mv 0) (k : ∀ H1, C5 g0 h H1 sl mv → ψ H1) :
    Zt mX11_findMove (zPV ψ) 0 0 199 [some (.ref 200), none, some (.int 0), some (.int 0), none, none, none] [] H := by
  have I0 := I
  obtain ⟨i1, i2, i3, i4, i5⟩ := I
  have p12 := pow12 i1
  have b4 : (4096 : Int32) = nI 4096 := rfl
  have main := down (n := mv.1) (I := fun j => ∀ H1, BB g0 h H1 sl mv → LB h H1 sl mv 0 → (∀ j', j' < j → zI H1 231 j' = if cM (alD h sl mv) (csD h sl mv) sl.1 mv.1 j' = 12 then -6 else nI (cM (alD h sl mv) (csD h sl mv) sl.1 mv.1 j')) → Zt mX11_findMove (zPV ψ) 0 0 199 [some (.ref 200), none, some (.int (nI (tM (alD h sl mv) (csD h sl mv) sl.1 mv.1 j))), some (.int (nI j)), none, none, none] [] H1) ?_ ?_
  · exact main H b L (fun j' hj' => absurd hj' (by omega))
  · intro H1 b1 L1 g
    refine wX11_findMove_199 ⟨(shM (b1.1.Sh K.1)).1, fun _ => k H1 ⟨b1.1, b1.2.1, b1.2.2.1, g, ?_⟩, fun z => absurd (by rw [b1.2.2.1.1]; exact Int32.le_refl _) z⟩
    have := L1 0 (by omega) (by omega) 0 (Nat.pow_pos (by omega))
    exact this
  · intro j hj ih H1 b1 L1 g
    have S1 := b1.1.Sh K.1
    have ej := nI_clamp (n := j) (by omega)
    have vj : vp_in (nI j) 9 := vp_in_nI (by omega) (by omega)
    have cDef : cM (alD h sl mv) (csD h sl mv) sl.1 mv.1 j = fsS (byS (alD h sl mv) (csD h sl mv) (Lf (alD h sl mv) (csD h sl mv) sl.1 (mv.1 - (j + 1)) (j + 1)) j (tM (alD h sl mv) (csD h sl mv) sl.1 mv.1 j)) (Lf (alD h sl mv) (csD h sl mv) sl.1 (mv.1 - j) j (tM (alD h sl mv) (csD h sl mv) sl.1 mv.1 j)) sl.1 := rfl
    rw [tM_s, cDef] at ih
    have ht := tM_lt (al := alD h sl mv) (cs := csD h sl mv) (n := mv.1) i1 (k := j)
    have hb := fun s hs => byS_bd (al := alD h sl mv) (wy := wyJ h sl mv.2.1) (fr := frJ h sl mv.2.1) (S := sl.1) (i := mv.1 - (j + 1)) (k := j) (t := tM (alD h sl mv) (csD h sl mv) sl.1 mv.1 j) (s := s) (by omega) (i5 j s (by omega) hs)
    have hv := Lf_bd (al := alD h sl mv) (cs := csD h sl mv) (S := sl.1) (i := mv.1 - j) (k := j) (t := tM (alD h sl mv) (csD h sl mv) sl.1 mv.1 j)
    have hv9 : (mv.1 - j) * 10000000 ≤ 9 * 10000000 := Nat.mul_le_mul_right _ (by omega)
    refine wX11_findMove_199 ⟨(shM S1).1, fun z => absurd z (by rw [b1.2.2.1.1]; exact cnt_le (by omega) hj), fun _ => ?_⟩
    simp only [shM S1, ej, vj, ne_eq]
    refine ⟨by decide, trivial, trivial, ?_⟩
    have cellL : ∀ H2, LB h H2 sl mv 0 → zI H2 230 (4096 * j + tM (alD h sl mv) (csD h sl mv) sl.1 mv.1 j) = nI (Lf (alD h sl mv) (csD h sl mv) sl.1 (mv.1 - j) j (tM (alD h sl mv) (csD h sl mv) sl.1 mv.1 j)) := fun H2 L2 => L2 j (by omega) (by omega) _ ht
    have byE : ∀ (H2 : ZH) (Φ : Int32 → ZH → Prop) (s : Nat), s < sl.1 → BB g0 h H2 sl mv → LB h H2 sl mv 0 → Φ (nI (byS (alD h sl mv) (csD h sl mv) (Lf (alD h sl mv) (csD h sl mv) sl.1 (mv.1 - (j + 1)) (j + 1)) j (tM (alD h sl mv) (csD h sl mv) sl.1 mv.1 j) s)) H2 → ZcI mX11_byslot [.ref 200, .int (nI j), .int (nI (tM (alD h sl mv) (csD h sl mv) sl.1 mv.1 j)), .int (nI s)] H2 Φ := fun H2 Φ s hs b2 L2 q => s_X11_byslot K ne I0 b2 hj ht hs (fun k' h1 h2 => L2 k' (by omega) h2) q
    revert cDef ih ht hb hv cellL byE
    generalize tM (alD h sl mv) (csD h sl mv) sl.1 mv.1 j = t
    generalize Lf (alD h sl mv) (csD h sl mv) sl.1 (mv.1 - j) j t = v
    generalize byS (alD h sl mv) (csD h sl mv) (Lf (alD h sl mv) (csD h sl mv) sl.1 (mv.1 - (j + 1)) (j + 1)) j t = f
    intro ih cD ht hb hv cellL byE
    have jx : 4096 * nI j + nI t = nI (4096 * j + t) := by rw [b4, nI_mul, nI_add]
    have ejx := nI_clamp (n := 4096 * j + t) (by omega)
    have vjx : vp_in (nI (4096 * j + t)) 40960 := vp_in_nI (by omega) (by omega)
    -- after the slots
    have after : ∀ H2, BB g0 h H2 sl mv → LB h H2 sl mv 0 → (∀ j', j' < j → zI H2 231 j' = if cM (alD h sl mv) (csD h sl mv) sl.1 mv.1 j' = 12 then -6 else nI (cM (alD h sl mv) (csD h sl mv) sl.1 mv.1 j')) → zI H2 231 j = (if fsS f v sl.1 = 12 then -6 else nI (fsS f v sl.1)) →
        ((0 ≤ zI H2 231 j → ∀ v5 : Int32, v5 = (nI t ||| ((1 : Int32) <<< ((zI H2 231 j) &&& 31))) → Zt mX11_findMove (zPV ψ) 0 0 199 [some (.ref 200), none, some (.int v5), some (.int (nI (j + 1))), none, none, none] [] H2) ∧ (¬ 0 ≤ zI H2 231 j → Zt mX11_findMove (zPV ψ) 0 0 199 [some (.ref 200), none, some (.int (nI t ||| 0)), some (.int (nI (j + 1))), none, none, none] [] H2)) := fun H2 b2 L2 g2 cj => by
      have nx := ih H2 b2 L2 (fun j' hj' => by
        by_cases e' : j' = j
        · subst e'; rw [cj, cD]
        · exact g2 j' (by omega))
      by_cases c : fsS f v sl.1 = 12
      · rw [if_pos c] at cj nx
        rw [cj, i_or0]
        exact ⟨fun z => absurd z (by decide), fun _ => nx⟩
      · rw [if_neg c] at cj nx
        have w := (fsS_n i1 c).1
        rw [cj]
        refine ⟨fun _ v5 e5 => ?_, fun z => absurd (nI_pos' (by omega)) z⟩
        rw [sh12 _ (by omega), or12 (by omega) (by omega)] at e5
        rw [e5]
        exact nx
    have slots := down (n := sl.1) (I := fun s => ∀ H2, BB g0 h H2 sl mv → LB h H2 sl mv 0 → (∀ j', j' < j → zI H2 231 j' = if cM (alD h sl mv) (csD h sl mv) sl.1 mv.1 j' = 12 then -6 else nI (cM (alD h sl mv) (csD h sl mv) sl.1 mv.1 j')) → zI H2 231 j = (if fsS f v s = 12 then -6 else nI (fsS f v s)) → Zt mX11_findMove (zPV ψ) 0 0 218 [some (.ref 200), none, some (.int (nI t)), some (.int (nI j)), some (.int (nI s)), none, none] [] H2) ?_ ?_
    · refine slots _ (b1.fr rfl rfl rfl (fun a i q1 q2 => zI_sIa q2)) (fun k' h1 h2 t' ht' => by rw [zI_sIa (by decide)]; exact L1 k' h1 h2 t' ht') (fun j' hj' => by rw [zI_sIj (by omega)]; exact g j' hj') (by rw [zI_sIs]; rfl)
    · intro H2 b2 L2 g2 cj
      have S2 := b2.1.Sh K.1
      have af := after H2 b2 L2 g2 cj
      refine wX11_findMove_218 ⟨(shM S2).1, fun _ => ?_, fun z => absurd (by rw [b2.2.1.1]; exact Int32.le_refl _) z⟩
      simp only [shM S2, ej, vj, nI_1, ne_eq]
      exact ⟨by decide, trivial, trivial, af⟩
    · intro s hs ih2 H2 b2 L2 g2 cj
      have S2 := b2.1.Sh K.1
      have st : fsS f v (s + 1) = if fsS f v s = 12 then (if f s = v then s else 12) else fsS f v s := rfl
      refine wX11_findMove_218 ⟨(shM S2).1, fun z => absurd z (by rw [b2.2.1.1]; exact cnt_le (by omega) hs), fun _ => ?_⟩
      by_cases c : fsS f v s = 12
      · rw [if_pos c] at cj
        rw [if_pos c] at st
        simp only [shM S2, ej, vj, nI_1, ne_eq]
        rw [cj]
        refine ⟨by decide, trivial, trivial, fun z => absurd z (by decide), fun _ => byE H2 _ s hs b2 L2 ?_⟩
        have bs := hb s hs
        rw [jx]
        simp only [shM S2, ejx, vjx, cellL H2 L2, ej, vj, ne_eq]
        have eqv : (nI (f s) = nI v) ↔ f s = v := ⟨fun z => nI_inj' (by omega) (by omega) z, fun z => by rw [z]⟩
        rw [eqv]
        have go : ∀ w, w = (if fsS f v (s + 1) = 12 then -6 else nI (fsS f v (s + 1))) → Zt mX11_findMove (zPV ψ) 0 0 218 [some (.ref 200), none, some (.int (nI t)), some (.int (nI j)), some (.int (nI (s + 1))), none, none] [] (zsI H2 231 j w) := fun w hw => by
          refine ih2 _ (b2.fr rfl rfl rfl (fun a i q1 q2 => zI_sIa q2)) (fun k' h1 h2 t' ht' => by rw [zI_sIa (by decide)]; exact L2 k' h1 h2 t' ht') (fun j' hj' => by rw [zI_sIj (by omega)]; exact g2 j' hj') (by rw [zI_sIs, hw])
        refine ⟨trivial, by decide, trivial, trivial, fun z => ⟨trivial, trivial, go _ ?_⟩, fun z => ⟨trivial, trivial, go _ ?_⟩⟩
        · rw [st, if_neg z, if_pos rfl]
        · rw [st, if_pos z, if_neg (by omega)]
      · have full : fsS f v sl.1 = fsS f v s := by
          have := fsS_stay c (m := sl.1 - s)
          rw [show s + (sl.1 - s) = sl.1 by omega] at this
          exact this
        have af := after H2 b2 L2 g2 (by rw [full]; exact cj)
        have w := (fsS_n (by omega) c).1
        have p0 : 0 ≤ zI H2 231 j := by rw [cj, if_neg c]; exact nI_pos' (by omega)
        simp only [shM S2, ej, vj, nI_1, ne_eq]
        exact ⟨by decide, trivial, trivial, fun _ => af, fun z => absurd p0 z⟩
theorem s_X11_findMove {ψ : ZH → Prop} {pit : Nat} (Q : MQ' h np nm nh) (hpit : pit < np) (e0 : zsm h g0) (k1 : (mvs h pit nm).1 ≤ 9 → ∀ H, C5 g0 h H (sls h pit np) (mvs h pit nm) → ψ H) (k0 : 9 < (mvs h pit nm).1 → ∀ H, ZR g0 h H → MMl H (mvs h pit nm) → ψ H) : ZcV mX11_findMove [.ref 200, .int (nI pit)] g0 ψ := by
  have K := Q.1
  have ne := Q.2.1
  have h24 := K.2.2.2.1
  have mI := mvs_I (h := h) (pit := pit) (m := nm)
  have sI := sls_I (h := h) (np := np) (pit := pit) (Nat.le_refl np)
  have sl12 := sls_le (h := h) (pit := pit) (p := np)
  have way : ∀ j s, j < (mvs h pit nm).1 → s < (sls h pit np).1 → wyJ h (sls h pit np) (mvs h pit nm).2.1 j s ≤ 198 := fun j s hj hs => Q.way hj hs
  refine wX11_findMove ⟨(shM (e0.Sh K.1)).1, s_X11_findMovers Q hpit e0 (fun H e SS MM => ⟨(shM (e.Sh K.1)).1, ?_⟩)⟩
  revert SS MM mI sI sl12 way k1 k0
  generalize sls h pit np = sl
  generalize mvs h pit nm = mv
  intro k1 k0 mI sI sl12 way SS MM
  have l9 : (nI mv.1 ≤ 9) ↔ mv.1 ≤ 9 := by
    rw [show (9 : Int32) = nI 9 from rfl, tI_le, nI_toInt (by omega), nI_toInt (by omega)]; omega
  rw [MM.1, l9]
  refine ⟨fun n9 => ?_, fun n9 => k0 (by omega) H e MM⟩
  have I : LI h np nm sl mv := ⟨sl12, n9, fun s hs => ⟨(sI s hs).1, (sI s hs).2.1⟩, fun j hj => (mI.2.2.1 j hj).1, way⟩
  have main := down (n := mv.1) (I := fun j => ∀ H1, ZR g0 h H1 → SMl H1 sl → MMl H1 mv → (∀ j', j' < j → zI H1 232 j' = zb (truM h 1 (mv.2.1 j'))) → Zt mX11_findMove (zPV ψ) 0 0 17 [some (.ref 200), none, some (.int (nI j)), none, none, none, none] [] H1) ?_ ?_
  · exact main H e SS MM (fun j' hj' => absurd hj' (by omega))
  · intro H1 e1 SS1 MM1 g
    refine wX11_findMove_17 ⟨(shM (e1.Sh K.1)).1, fun _ => s_X11_table K ne I ⟨e1, SS1, MM1, g⟩ (fun H2 b2 L2 => s_X11_pick K ne I b2 L2 (k1 n9)), fun z => absurd (by rw [MM1.1]; exact Int32.le_refl _) z⟩
  · intro j hj ih H1 e1 SS1 MM1 g
    have K1 := K.m.same e1.2
    have S1 := K1.1
    have ej := nI_clamp (n := j) (by omega)
    have vj : vp_in (nI j) 9 := vp_in_nI (by omega) (by omega)
    have vj24 : vp_in (nI j) 24 := vp_in_nI (by omega) (by omega)
    have hm := (mI.2.2.1 j hj).1
    refine wX11_findMove_17 ⟨(shM S1).1, fun z => absurd z (by rw [MM1.1]; exact cnt_le (by omega) hj), fun _ => ?_⟩
    simp only [shM S1, ej, vj24, MM1.2.1 j hj, nI_1, ne_eq]
    refine ⟨by decide, by decide, trivial, trivial, s_X11_isSo' (r := 1) K1 hm (by omega) (fun H2 sm => ?_)⟩
    have e2 := e1.trans sm.same
    have E2 := sm.2.2.2.2
    simp only [shM (e2.Sh K.1), vj]
    refine ⟨trivial, trivial, zb_01, ih _ (e2.trans (zsame.sI (by unfold scr; omega))) (SS1.fr (fun a i q => by rw [zI_sIn (by omega), E2 a i (by omega)])) (MM1.fr (fun a i q => by rw [zI_sIn (by omega), E2 a i (by omega)])) (fun j' hj' => ?_)⟩
    by_cases ee : j' = j
    · subst ee
      rw [zI_sIs]
      exact zb_congr (truM_sm e1.2)
    · rw [zI_sIj ee, E2 _ _ (by omega)]; exact g j' (by omega)
end MOVE2
