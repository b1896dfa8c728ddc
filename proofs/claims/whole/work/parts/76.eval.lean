/-! a rule worked: the pile, its height, the number being said -/
abbrev EvS : Type := (Nat → Int32) × Nat × Int32
def evS (f : Int32 → Int32) (c : Int32) (s : EvS) : EvS :=
  if isDg c then (s.1, s.2.1, s.2.2 * 10 + c - 48)
  else if c = 44 then (pset s.1 s.2.1 (clm s.2.2.toInt64), s.2.1 + 1, 0)
  else if isFa c then (pset s.1 s.2.1 (clm (f c).toInt64), s.2.1 + 1, 0)
  else if c = 33 then (pset s.1 (s.2.1 - 1) (clm (zb (s.1 (s.2.1 - 1) = 0)).toInt64), s.2.1 - 1 + 1, 0)
  else (pset s.1 (s.2.1 - 2) (clm (act c (s.1 (s.2.1 - 2)).toInt64 (s.1 (s.2.1 - 2 + 1)).toInt64)), s.2.1 - 2 + 1, 0)
def ev (F : Nat → Int32) (f : Int32 → Int32) : Nat → EvS
  | 0 => (fun _ => 0, 0, 0)
  | k + 1 => evS f (F k) (ev F f k)
theorem evS_congr {f g : Int32 → Int32} {c : Int32} {s : EvS} (e : ∀ c, isFa c → f c = g c) : evS f c s = evS g c s := by
  unfold evS
  by_cases q : isFa c
  · rw [e c q]
  · simp only [if_neg q]
theorem ev_congr {F G : Nat → Int32} {f g : Int32 → Int32} (e : ∀ c, isFa c → f c = g c) : ∀ {n : Nat}, (∀ k, k < n → F k = G k) → ev F f n = ev G g n
  | 0, _ => rfl
  | n + 1, eF => by
    show evS f (F n) (ev F f n) = evS g (G n) (ev G g n)
    rw [ev_congr e (fun k hk => eF k (by omega)), eF n (by omega), evS_congr e]
theorem trun_pre {F : Nat → Int32} {n : Nat} {s : Nat × Nat} (e : trun F (n + 1) = some s) : ∃ t, trun F n = some t ∧ stp t.1 t.2 (F n) = some s := by
  have e2 : (trun F n).bind (fun s => stp s.1 s.2 (F n)) = some s := e
  cases h : trun F n with
  | none => rw [h] at e2; cases e2
  | some t => rw [h] at e2; exact ⟨t, rfl, e2⟩
theorem trun_inv {F : Nat → Int32} : ∀ {n : Nat} {s : Nat × Nat}, trun F n = some s → s.1 ≤ 5 ∧ s.2 ≤ 4 ∧ (0 < s.2 → 0 < s.1)
  | 0, s, e => by cases e; exact ⟨by decide, by decide, by decide⟩
  | n + 1, s, e => by
    obtain ⟨t, e1, e2⟩ := trun_pre e
    exact stp_inv (trun_inv e1) e2
theorem trun_le {F : Nat → Int32} {c : Nat} (ok : ∃ s, trun F c = some s) : ∀ d k, k + d = c → ∃ s, trun F k = some s
  | 0, k, e => by rw [show k = c by omega]; exact ok
  | d + 1, k, e => by
    obtain ⟨s, hs⟩ := trun_le ok d (k + 1) (by omega)
    obtain ⟨t, h1, _⟩ := trun_pre hs
    exact ⟨t, h1⟩
/-- the pile's height goes as the text's -/
def evI (s : EvS) (t : Nat × Nat) : Prop := s.2.1 + (if 0 < t.2 then 1 else 0) = t.1 ∧ (t.2 = 0 → s.2.2 = 0)
theorem evI_step {f : Int32 → Int32} {c : Int32} {s : EvS} {t t' : Nat × Nat} (I : evI s t) (e : stp t.1 t.2 c = some t') : evI (evS f c s) t' := by
  obtain ⟨m, d⟩ := t
  obtain ⟨i1, i2⟩ := I
  unfold stp at e
  unfold evS
  by_cases hd : 0 < d
  · rw [if_pos hd] at e
    simp only [if_pos hd] at i1
    by_cases c44 : c = 44
    · rw [if_pos c44] at e
      cases e
      rw [if_neg (fun q => isDg_44 q c44), if_pos c44]
      exact ⟨i1, fun _ => rfl⟩
    · rw [if_neg c44] at e
      by_cases q : isDg c ∧ d < 4
      · rw [if_pos q] at e
        cases e
        rw [if_pos q.1]
        exact ⟨by simp only [if_pos (Nat.succ_pos d)]; exact i1, fun x => absurd x (Nat.succ_ne_zero _)⟩
      · rw [if_neg q] at e; cases e
  · rw [if_neg hd] at e
    simp only [if_neg hd] at i1
    have d0 : d = 0 := by omega
    by_cases q : isDg c ∨ isFa c
    · rw [if_pos q] at e
      by_cases m5 : m < 5
      · rw [if_pos m5] at e
        cases e
        by_cases dg : isDg c
        · rw [if_pos dg]
          simp only [if_pos dg]
          exact ⟨by simp only [if_pos (Nat.succ_pos 0)]; omega, fun x => absurd x (Nat.succ_ne_zero _)⟩
        · rw [if_neg dg, if_neg (show ¬ c = 44 by rcases q.resolve_left dg with z | z | z | z | z <;> (subst z; decide)), if_pos (q.resolve_left dg)]
          simp only [if_neg dg]
          exact ⟨by simp only [if_neg (Nat.lt_irrefl 0)]; omega, fun _ => rfl⟩
      · rw [if_neg m5] at e; cases e
    · rw [if_neg q] at e
      have n1 : ¬ isDg c := fun x => q (Or.inl x)
      have n2 : ¬ isFa c := fun x => q (Or.inr x)
      by_cases ac : isAc c
      · rw [if_pos ac] at e
        by_cases m1 : 1 < m
        · rw [if_pos m1] at e
          cases e
          rw [if_neg n1, if_neg (show ¬ c = 44 by rcases ac with z | z | z | z | z | z | z | z <;> (subst z; decide)), if_neg n2, if_neg (show ¬ c = 33 by rcases ac with z | z | z | z | z | z | z | z <;> (subst z; decide))]
          exact ⟨by simp only [if_neg (Nat.lt_irrefl 0)]; omega, fun _ => rfl⟩
        · rw [if_neg m1] at e; cases e
      · rw [if_neg ac] at e
        by_cases c33 : c = 33
        · rw [if_pos c33] at e
          by_cases m0 : 0 < m
          · rw [if_pos m0] at e
            cases e
            rw [if_neg n1, if_neg (show ¬ c = 44 by subst c33; decide), if_neg n2, if_pos c33]
            exact ⟨by simp only [if_neg (Nat.lt_irrefl 0)]; omega, fun _ => rfl⟩
          · rw [if_neg m0] at e; cases e
        · rw [if_neg c33] at e; cases e
theorem ev_I {F : Nat → Int32} {f : Int32 → Int32} : ∀ {n : Nat} {t : Nat × Nat}, trun F n = some t → evI (ev F f n) t
  | 0, t, e => by cases e; exact ⟨rfl, fun _ => rfl⟩
  | n + 1, t, e => by
    obtain ⟨u, e1, e2⟩ := trun_pre e
    exact evI_step (ev_I e1) e2
/-- the cases of a sign of a text without fault, as the pile sees them -/
theorem ev_cases {F : Nat → Int32} {f : Int32 → Int32} {k : Nat} {t : Nat × Nat} (e : trun F (k + 1) = some t) :
    isDg (F k) ∨ (F k = 44 ∧ (ev F f k).2.1 < 5) ∨ (isFa (F k) ∧ (ev F f k).2.1 < 5 ∧ (ev F f k).2.2 = 0) ∨ (F k = 33 ∧ 0 < (ev F f k).2.1 ∧ (ev F f k).2.1 ≤ 5 ∧ (ev F f k).2.2 = 0) ∨ (isAc (F k) ∧ 2 ≤ (ev F f k).2.1 ∧ (ev F f k).2.1 ≤ 5 ∧ (ev F f k).2.2 = 0) := by
  obtain ⟨⟨m, d⟩, e1, e2⟩ := trun_pre e
  obtain ⟨i1, i2⟩ := ev_I (f := f) e1
  have iv := (trun_inv e1).1
  unfold stp at e2
  by_cases hd : 0 < d
  · rw [if_pos hd] at e2
    simp only [if_pos hd] at i1
    by_cases c44 : F k = 44
    · exact Or.inr (Or.inl ⟨c44, by omega⟩)
    · rw [if_neg c44] at e2
      by_cases q : isDg (F k) ∧ d < 4
      · exact Or.inl q.1
      · rw [if_neg q] at e2; cases e2
  · rw [if_neg hd] at e2
    simp only [if_neg hd] at i1
    have i3 := i2 (by omega)
    by_cases q : isDg (F k) ∨ isFa (F k)
    · rw [if_pos q] at e2
      by_cases m5 : m < 5
      · rcases q with q | q
        · exact Or.inl q
        · exact Or.inr (Or.inr (Or.inl ⟨q, by omega, i3⟩))
      · rw [if_neg m5] at e2; cases e2
    · rw [if_neg q] at e2
      by_cases ac : isAc (F k)
      · rw [if_pos ac] at e2
        by_cases m1 : 1 < m
        · exact Or.inr (Or.inr (Or.inr (Or.inr ⟨ac, by omega, by omega, i3⟩)))
        · rw [if_neg m1] at e2; cases e2
      · rw [if_neg ac] at e2
        by_cases c33 : F k = 33
        · rw [if_pos c33] at e2
          by_cases m0 : 0 < m
          · exact Or.inr (Or.inr (Or.inr (Or.inl ⟨c33, by omega, by omega, i3⟩)))
          · rw [if_neg m0] at e2; cases e2
        · rw [if_neg c33] at e2; cases e2
/-- what a rule comes to -/
def evR (F : Nat → Int32) (f : Int32 → Int32) (c : Nat) : Int32 := (ev F f c).1 0
theorem fa_nd {c : Int32} (q : isFa c) : ¬ isDg c ∧ ¬ c = 44 ∧ ¬ c = 33 := by rcases q with z | z | z | z | z <;> (subst z; decide)
theorem ac_nd {c : Int32} (q : isAc c) : ¬ isDg c ∧ ¬ c = 44 ∧ ¬ c = 33 ∧ ¬ isFa c := by rcases q with z | z | z | z | z | z | z | z <;> (subst z; decide)
section EVAL
variable {h : ZH} {np nm nh : Nat}
set_option maxHeartbeats 4000000 in
/-- the class's pile works a rule -/
theorem s_X3_result {ψ : Int32 → ZH → Prop} {a c x : Nat} {F : Nat → Int32} {f : Int32 → Int32} {w : Int32} (kp : kPi h) (ha : a + 1 < 33) (X : Tx h a F c) (ok : okT F c) (hx : 100 < x) (kx : zK h x = 2)
    (fa : f 97 = zI h x 0) (fy : f 121 = zI h x 2) (ft : f 116 = zI h x 1) (fk : f 107 = zI h x 5) (f01 : zI h x 5 = 0 ∨ zI h x 5 = 1) (ff : f 102 = w) (k : ∀ H, SC h H → ψ (evR F f c) H) : ZcI mX3_result [.ref 33, .ref a, .ref x, .int w] h ψ := by
  obtain ⟨x1, x2, x3, x4, x5, x6, x7⟩ := X
  refine wX3_result ⟨kp.1, ?_⟩
  have := down (n := c) (I := fun k => ∀ H, PC h H (ev F f k).1 (ev F f k).2.1 → Zt mX3_result (zPI ψ) 0 0 11 [some (.ref 33), some (.ref a), some (.ref x), some (.int w), some (.int (ev F f k).2.2), some (.int (nI k)), none] [] H) ?_ ?_
  · refine this _ ⟨⟨rfl, rfl, rfl, rfl, fun b j q => zI_sIa (by omega)⟩, kp, by rw [zI_sIs]; rfl, fun j hj => absurd hj (Nat.not_lt_zero _)⟩
  · intro H P
    have eK := P.1.1
    have eI := P.1.2.2.2.2
    refine wX3_result_11 ⟨by rw [eK]; exact x1, fun _ => ⟨P.2.1.1, ?_⟩, fun q => absurd ?_ q⟩
    · have i1 := (ev_I (f := f) ok).1
      have i2 : (ev F f c).2.1 = 0 + 1 := by simpa using i1
      rw [i2] at P
      exact s_X3_take P (by omega) (fun H' P' => k H' P'.1)
    · rw [eI a 1 (by omega), x5]; exact Int32.le_refl _
  · intro j hj ih H P
    have eK := P.1.1
    have eN := P.1.2.1
    have eR := P.1.2.2.1
    have eI := P.1.2.2.2.2
    obtain ⟨t, ht⟩ := trun_le ⟨_, ok⟩ (c - (j + 1)) (j + 1) (by omega)
    have cs := ev_cases (f := f) ht
    have e1 := nI_clamp (n := j) (by omega)
    have v1 : vp_in (nI j) 40 := vp_in_nI (by omega) (by omega)
    refine wX3_result_11 ⟨by rw [eK]; exact x1, fun q => absurd q ?_, fun _ => ?_⟩
    · rw [eI a 1 (by omega), x5]; exact cnt_le (by omega) hj
    simp only [eK, eN, eR, x2, x3, x4, e1, v1, eI (a + 1) j (by omega), x7 j hj, ne_eq, nI_1]
    have evj : ev F f (j + 1) = evS f (F j) (ev F f j) := rfl
    refine ⟨Nat.succ_ne_zero _, trivial, trivial, fun v ev8 => ?_⟩
    subst ev8
    rw [evj] at ih
    revert cs ih P
    generalize ev F f j = s
    generalize F j = c'
    intro ih P cs
    refine s_X8_isDigit (zb_if (fun dg => ?_) (fun nd => ?_))
    · unfold evS at ih
      rw [if_pos dg] at ih
      exact ih H P
    · refine ⟨P.2.1.1, ?_⟩
      unfold evS at ih
      rw [if_neg nd] at ih
      have eI0 := eI x 0 (by omega)
      have eI1 := eI x 1 (by omega)
      have eI2 := eI x 2 (by omega)
      have eI5 := eI x 5 (by omega)
      rcases cs with q | ⟨q, q2⟩ | ⟨q, q2, q3⟩ | ⟨q, q2, q4, q3⟩ | ⟨q, q2, q4, q3⟩
      · exact absurd q nd
      · subst q
        rw [if_pos rfl] at ih
        refine wX3_whatComesOf ⟨fun q => absurd q (by decide), fun _ => ⟨P.2.1.1, s_X3_lay P q2 ih⟩, fun q => absurd q (by decide), fun q => absurd q (by decide), fun q => absurd q (by decide), fun q => absurd q (by decide), fun q => absurd q (by decide), fun _ q => absurd rfl q⟩
      · rw [if_neg (fa_nd q).2.1, if_pos q] at ih
        refine wX3_whatComesOf ⟨fun z => absurd z (fa_nd q).2.2, fun z => absurd z (fa_nd q).2.1, fun z => ?_, fun z => ?_, fun z => ?_, fun z => ?_, fun z => ?_, fun _ _ m1 m2 m3 m4 m5 => ?_⟩
        · subst z; rw [fa] at ih; rw [eK, eI0]; exact ⟨kx, by rw [← eK]; exact P.2.1.1, s_X3_lay P q2 ih⟩
        · subst z; rw [ff] at ih; exact ⟨P.2.1.1, s_X3_lay P q2 ih⟩
        · subst z; rw [fk] at ih; rw [eK, eI5]; exact ⟨kx, s_X10_asOne f01 ⟨P.2.1.1, s_X3_lay P q2 ih⟩⟩
        · subst z; rw [ft] at ih; rw [eK, eI1]; exact ⟨kx, by rw [← eK]; exact P.2.1.1, s_X3_lay P q2 ih⟩
        · subst z; rw [fy] at ih; rw [eK, eI2]; exact ⟨kx, by rw [← eK]; exact P.2.1.1, s_X3_lay P q2 ih⟩
        · rcases q with q | q | q | q | q
          · exact absurd q m1
          · exact absurd q m5
          · exact absurd q m4
          · exact absurd q m3
          · exact absurd q m2
      · subst q
        rw [if_neg (by decide), if_neg (by decide), if_pos rfl] at ih
        obtain ⟨m, hm⟩ : ∃ m, s.2.1 = m + 1 := ⟨s.2.1 - 1, by omega⟩
        rw [hm] at P ih
        rw [Nat.add_sub_cancel] at ih
        refine wX3_whatComesOf ⟨fun _ => ⟨P.2.1.1, s_X3_take P (by omega) (fun H1 P1 => ⟨fun z => s_X10_asOne (Or.inl rfl) ⟨P1.2.1.1, ?_⟩, fun z => s_X10_asOne (Or.inr rfl) ⟨P1.2.1.1, ?_⟩⟩)⟩, fun q => absurd q (by decide), fun q => absurd q (by decide), fun q => absurd q (by decide), fun q => absurd q (by decide), fun q => absurd q (by decide), fun q => absurd q (by decide), fun q => absurd rfl q⟩
        · rw [zb_f z] at ih
          exact s_X3_lay P1 (by omega) ih
        · rw [zb_t z] at ih
          exact s_X3_lay P1 (by omega) ih
      · have nn := ac_nd q
        rw [if_neg nn.2.1, if_neg nn.2.2.2, if_neg nn.2.2.1] at ih
        obtain ⟨m, hm⟩ : ∃ m, s.2.1 = m + 2 := ⟨s.2.1 - 2, by omega⟩
        rw [hm] at P ih
        rw [Nat.add_sub_cancel] at ih
        refine wX3_whatComesOf ⟨fun z => absurd z nn.2.2.1, fun z => absurd z nn.2.1, fun z => absurd (Or.inl z) nn.2.2.2, fun z => absurd (Or.inr (Or.inr (Or.inr (Or.inr z)))) nn.2.2.2, fun z => absurd (Or.inr (Or.inr (Or.inr (Or.inl z)))) nn.2.2.2, fun z => absurd (Or.inr (Or.inr (Or.inl z))) nn.2.2.2, fun z => absurd (Or.inr (Or.inl z)) nn.2.2.2, fun _ _ _ _ _ _ _ => ⟨P.2.1.1, s_X3_joined P (by omega) (fun H2 P2 => ⟨P2.2.1.1, s_X3_lay P2 (by omega) ih⟩)⟩⟩
end EVAL
