/-! what a closing does to men and posts -/
theorem sumN_none {P : Nat → Prop} [DecidablePred P] {x : Nat} : ∀ {n : Nat}, (∀ k, k < n → ¬ P k) → sumN (fun k => if P k then x else 0) n = 0
  | 0, _ => rfl
  | n + 1, e => by
    show sumN (fun k => if P k then x else 0) n + (if P n then x else 0) = 0
    rw [sumN_none (fun k hk => e k (by omega)), if_neg (e n (by omega))]
theorem sumN_one {P : Nat → Prop} [DecidablePred P] {x : Nat} {a : Nat} : ∀ {n : Nat}, a < n → P a → (∀ k, k < n → P k → k = a) → sumN (fun k => if P k then x else 0) n = x
  | 0, h, _, _ => absurd h (by omega)
  | n + 1, h, pa, e => by
    show sumN (fun k => if P k then x else 0) n + (if P n then x else 0) = x
    by_cases c : a = n
    · subst c
      rw [sumN_none (fun k hk pk => by have := e k (by omega) pk; omega), if_pos pa]; omega
    · rw [sumN_one (n := n) (by omega) pa (fun k hk pk => e k (by omega) pk), if_neg (fun pn => c (e n (by omega) pn).symm), Nat.add_zero]
/-- slots of a kind -/
def ckS (s : SLt) (p t : Nat) : Nat := sumN (fun i => if s.2.1 i = p ∧ s.2.2 i = t then 1 else 0) s.1
theorem ckS_ad1 {p' t' p t : Nat} {s : SLt} : ckS (ad1 p' t' s) p t ≤ ckS s p t + if p' = p ∧ t' = t then 1 else 0 := by
  unfold ad1
  by_cases c : s.1 < 12
  · rw [if_pos c]
    show sumN (fun i => if ps s.2.1 s.1 p' i = p ∧ ps s.2.2 s.1 t' i = t then 1 else 0) s.1 + (if ps s.2.1 s.1 p' s.1 = p ∧ ps s.2.2 s.1 t' s.1 = t then 1 else 0) ≤ _
    rw [ps_s, ps_s]
    have : sumN (fun i => if ps s.2.1 s.1 p' i = p ∧ ps s.2.2 s.1 t' i = t then 1 else 0) s.1 = ckS s p t := sumN_congr (fun i hi => by rw [ps_n (by omega), ps_n (by omega)])
    rw [this]
    exact Nat.le_refl _
  · rw [if_neg c]; omega
theorem ckS_adN {p' t' p t : Nat} {s : SLt} : ∀ {n : Nat}, ckS (adN p' t' n s) p t ≤ ckS s p t + if p' = p ∧ t' = t then n else 0
  | 0 => by
    show ckS s p t ≤ _
    omega
  | n + 1 => by
    have h1 := ckS_ad1 (p' := p') (t' := t') (p := p) (t := t) (s := adN p' t' n s)
    have h2 := ckS_adN (p' := p') (t' := t') (p := p) (t := t) (s := s) (n := n)
    show ckS (ad1 p' t' (adN p' t' n s)) p t ≤ _
    by_cases c : p' = p ∧ t' = t
    · rw [if_pos c] at h1 h2 ⊢; omega
    · rw [if_neg c] at h1 h2 ⊢; omega
theorem ckS_adP {h : ZH} {p' p t : Nat} {s : SLt} : ∀ {k : Nat}, ckS (adP h p' k s) p t ≤ ckS s p t + if p' = p ∧ t < k then pnN h p t else 0
  | 0 => by
    show ckS s p t ≤ _
    omega
  | k + 1 => by
    have h1 := ckS_adN (p' := p') (t' := k) (p := p) (t := t) (s := adP h p' k s) (n := pnN h p' k)
    have h2 := ckS_adP (h := h) (p' := p') (p := p) (t := t) (s := s) (k := k)
    show ckS (adN p' k (pnN h p' k) (adP h p' k s)) p t ≤ _
    by_cases c1 : p' = p
    · subst c1
      by_cases c2 : k = t
      · subst c2
        rw [if_pos ⟨rfl, rfl⟩] at h1
        rw [if_neg (fun q => absurd q.2 (by omega))] at h2
        rw [if_pos ⟨rfl, by omega⟩]
        omega
      · rw [if_neg (fun q => c2 q.2)] at h1
        by_cases c3 : t < k
        · rw [if_pos ⟨rfl, c3⟩] at h2
          rw [if_pos ⟨rfl, by omega⟩]
          omega
        · rw [if_neg (fun q => c3 q.2)] at h2
          rw [if_neg (fun q => absurd q.2 (by omega))]
          omega
    · rw [if_neg (fun q => c1 q.1)] at h1 h2 ⊢
      omega
theorem ckS_sls {h : ZH} {pit p t : Nat} : ∀ {q : Nat}, ckS (sls h pit q) p t ≤ if p < q then pnN h p t else 0
  | 0 => by
    show (0 : Nat) ≤ _
    exact Nat.zero_le _
  | q + 1 => by
    have ih := ckS_sls (h := h) (pit := pit) (p := p) (t := t) (q := q)
    unfold sls
    by_cases c : q ≠ pit ∧ oN h q
    · rw [if_pos c]
      have h1 := ckS_adP (h := h) (p' := q) (p := p) (t := t) (s := sls h pit q) (k := 3)
      by_cases e : q = p
      · subst e
        rw [if_neg (by omega)] at ih
        rw [if_pos (by omega)]
        by_cases e2 : q = q ∧ t < 3
        · rw [if_pos e2] at h1; omega
        · rw [if_neg e2] at h1; omega
      · rw [if_neg (fun z => e z.1)] at h1
        by_cases e2 : p < q
        · rw [if_pos e2] at ih; rw [if_pos (by omega)]; omega
        · rw [if_neg e2] at ih; rw [if_neg (by omega)]; omega
    · rw [if_neg c]
      by_cases e2 : p < q
      · rw [if_pos e2] at ih; rw [if_pos (by omega)]; exact ih
      · rw [if_neg e2] at ih
        by_cases e3 : p < q + 1
        · rw [if_pos e3]; omega
        · rw [if_neg e3]; exact ih
/-- slots of a kind that are given away, by the first n movers -/
def cgS (sl : SLt) (χ : Nat → Nat) (n p t : Nat) : Nat := sumN (fun j => if χ j ≠ 12 ∧ sl.2.1 (χ j) = p ∧ sl.2.2 (χ j) = t then 1 else 0) n
theorem cgS_s {sl : SLt} {χ : Nat → Nat} {n p t : Nat} : cgS sl χ (n + 1) p t = cgS sl χ n p t + if χ n ≠ 12 ∧ sl.2.1 (χ n) = p ∧ sl.2.2 (χ n) = t then 1 else 0 := rfl
theorem cgS_mono {sl : SLt} {χ : Nat → Nat} {n p t : Nat} : ∀ {d : Nat}, cgS sl χ n p t ≤ cgS sl χ (n + d) p t
  | 0 => Nat.le_refl _
  | d + 1 => by
    have := cgS_mono (sl := sl) (χ := χ) (n := n) (p := p) (t := t) (d := d)
    show _ ≤ cgS sl χ (n + d) p t + _
    omega
theorem cgS_le {sl : SLt} {χ : Nat → Nat} {n p t : Nat} (hlt : ∀ j, j < n → χ j ≠ 12 → χ j < sl.1) (inj : ∀ j j', j < n → j' < n → χ j = χ j' → χ j ≠ 12 → j = j') : cgS sl χ n p t ≤ ckS sl p t := by
  have e1 : cgS sl χ n p t = sumN (fun j => sumN (fun s => if χ j ≠ 12 ∧ χ j = s ∧ sl.2.1 s = p ∧ sl.2.2 s = t then 1 else 0) sl.1) n := by
    refine sumN_congr (fun j hj => ?_)
    by_cases c : χ j ≠ 12 ∧ sl.2.1 (χ j) = p ∧ sl.2.2 (χ j) = t
    · rw [if_pos c, sumN_one (P := fun s => χ j ≠ 12 ∧ χ j = s ∧ sl.2.1 s = p ∧ sl.2.2 s = t) (a := χ j) (hlt j hj c.1) ⟨c.1, rfl, c.2⟩ (fun s _ q => q.2.1.symm)]
    · rw [if_neg c, sumN_none (P := fun s => χ j ≠ 12 ∧ χ j = s ∧ sl.2.1 s = p ∧ sl.2.2 s = t) (fun s _ q => c ⟨q.1, by rw [q.2.1]; exact q.2.2⟩)]
  rw [e1, sumN_swap]
  refine sumN_le (fun s hs => ?_)
  by_cases c : sl.2.1 s = p ∧ sl.2.2 s = t
  · rw [if_pos c]
    by_cases ex : ∃ j, j < n ∧ χ j ≠ 12 ∧ χ j = s
    · obtain ⟨j, hj, h1, h2⟩ := ex
      rw [sumN_one (P := fun j => χ j ≠ 12 ∧ χ j = s ∧ sl.2.1 s = p ∧ sl.2.2 s = t) hj ⟨h1, h2, c⟩ (fun j' hj' q => inj j' j hj' hj (by rw [q.2.1, h2]) q.1)]
      exact Nat.le_refl _
    · rw [sumN_none (P := fun j => χ j ≠ 12 ∧ χ j = s ∧ sl.2.1 s = p ∧ sl.2.2 s = t) (fun j hj q => ex ⟨j, hj, q.1, q.2.1⟩)]
      omega
  · rw [if_neg c, sumN_none (P := fun j => χ j ≠ 12 ∧ χ j = s ∧ sl.2.1 s = p ∧ sl.2.2 s = t) (fun j _ q => c q.2.2)]
    exact Nat.le_refl _
section CLOSE1
variable {h : ZH} {np nm nh : Nat}
/-- the choice -/
def chi (h : ZH) (sl : SLt) (mv : MVt) : Nat → Nat := cM (alD h sl mv) (csD h sl mv) sl.1 mv.1
/-- what closing needs of slots, movers and the choice -/
def CI (h : ZH) (np nm pit : Nat) (sl : SLt) (mv : MVt) : Prop := sl.1 ≤ 12 ∧ mv.1 ≤ 9 ∧ (∀ s, s < sl.1 → sl.2.1 s < np ∧ sl.2.2 s < 3 ∧ sl.2.1 s ≠ pit) ∧
  (∀ j, j < mv.1 → mv.2.1 j < nm ∧ zI h 215 (mv.2.1 j) = nI pit ∧ ¬ truM h 0 (mv.2.1 j)) ∧ (∀ i j, i < mv.1 → j < mv.1 → mv.2.1 i = mv.2.1 j → i = j) ∧ (∀ k, k < nm → zI h 215 k = nI pit → ¬ truM h 0 k → ∃ i, i < mv.1 ∧ mv.2.1 i = k) ∧
  (∀ j, j < mv.1 → chi h sl mv j ≠ 12 → chi h sl mv j < sl.1 ∧ zI h 212 (mv.2.1 j) = nI (sl.2.2 (chi h sl mv j))) ∧ ∀ p t n, n ≤ mv.1 → cgS sl (chi h sl mv) n p t ≤ pnN h p t
theorem CI.of {pit : Nat} (n9 : (mvs h pit nm).1 ≤ 9) : CI h np nm pit (sls h pit np) (mvs h pit nm) := by
  have mI := mvs_I (h := h) (pit := pit) (m := nm)
  have sI := sls_I (h := h) (np := np) (pit := pit) (Nat.le_refl np)
  have sl12 := sls_le (h := h) (pit := pit) (p := np)
  have ck := fun p t => ckS_sls (h := h) (pit := pit) (p := p) (t := t) (q := np)
  revert mI sI sl12 ck n9
  generalize sls h pit np = sl
  generalize mvs h pit nm = mv
  intro n9 mI sI sl12 ck
  have vM := (cM_ok (al := alD h sl mv) (cs := csD h sl mv) sl12 n9 mv.1 0 (by omega)).1
  have lt : ∀ j, j < mv.1 → chi h sl mv j ≠ 12 → chi h sl mv j < sl.1 := fun j hj c => ((vM.1 j (by omega) (by omega)).resolve_left c).1
  have inj : ∀ j j', j < mv.1 → j' < mv.1 → chi h sl mv j = chi h sl mv j' → chi h sl mv j ≠ 12 → j = j' := fun j j' hj hj' e c => vM.2 j j' (by omega) (by omega) (by omega) (by omega) e c
  refine ⟨sl12, n9, fun s hs => ⟨(sI s hs).1, (sI s hs).2.1, (sI s hs).2.2.2⟩, mI.2.2.1, mI.2.2.2.1, mI.2.2.2.2, fun j hj c => ⟨lt j hj c, ?_⟩, fun p t n hn => ?_⟩
  · have al := ((vM.1 j (by omega) (by omega)).resolve_left c).2.1
    have al' : decide (zI h 212 (mv.2.1 j) = nI (sl.2.2 (chi h sl mv j)) ∧ (¬ neN h < wyJ h sl mv.2.1 j (chi h sl mv j) ∨ ¬ truM h 1 (mv.2.1 j))) = true := al
    exact (of_decide_eq_true al').1
  · have h1 := cgS_le (sl := sl) (χ := chi h sl mv) (n := mv.1) (p := p) (t := t) lt inj
    have h2 := cgS_mono (sl := sl) (χ := chi h sl mv) (n := n) (p := p) (t := t) (d := mv.1 - n)
    rw [show n + (mv.1 - n) = mv.1 by omega] at h2
    have h3 := ck p t
    by_cases e : p < np
    · rw [if_pos e] at h3; omega
    · rw [if_neg e] at h3; omega
def vAm (h : ZH) (pit m : Nat) : Int32 × Int32 := if zI h 215 m = nI pit ∧ truM h 0 m then (-6, 1) else (zI h 215 m, zI h 217 m)
def vBm (h : ZH) (sl : SLt) (mv : MVt) (j : Nat) : Int32 × Int32 := if chi h sl mv j = 12 then (-6, 3) else (nI (sl.2.1 (chi h sl mv j)), zI h 217 (mv.2.1 j))
def MV1 (h : ZH) (nm pit : Nat) (sl : SLt) (mv : MVt) (f4 f6 : Nat → Int32) (n : Nat) : Prop := (∀ j, j < n → f4 (mv.2.1 j) = (vBm h sl mv j).1 ∧ f6 (mv.2.1 j) = (vBm h sl mv j).2) ∧ ∀ m, m < nm → (∀ j, j < n → mv.2.1 j ≠ m) → f4 m = (vAm h pit m).1 ∧ f6 m = (vAm h pit m).2
theorem MV1.next {pit : Nat} {sl : SLt} {mv : MVt} {f4 f6 g4 g6 : Nat → Int32} {j : Nat} (M : MV1 h nm pit sl mv f4 f6 j) (I : CI h np nm pit sl mv) (hj : j < mv.1) (e4 : ∀ m, m ≠ mv.2.1 j → g4 m = f4 m) (e6 : ∀ m, m ≠ mv.2.1 j → g6 m = f6 m) (c4 : g4 (mv.2.1 j) = (vBm h sl mv j).1) (c6 : g6 (mv.2.1 j) = (vBm h sl mv j).2) : MV1 h nm pit sl mv g4 g6 (j + 1) := by
  refine ⟨fun j' hj' => ?_, fun m hm q => ?_⟩
  · by_cases e : j' = j
    · subst e; exact ⟨c4, c6⟩
    · have ne : mv.2.1 j' ≠ mv.2.1 j := fun z => e (I.2.2.2.2.1 j' j (by omega) hj z)
      rw [e4 _ ne, e6 _ ne]
      exact M.1 j' (by omega)
  · have ne : m ≠ mv.2.1 j := fun z => q j (by omega) z.symm
    rw [e4 _ ne, e6 _ ne]
    exact M.2 m hm (fun j' hj' => q j' (by omega))
theorem MV1.at {pit : Nat} {sl : SLt} {mv : MVt} {f4 f6 : Nat → Int32} {j : Nat} (M : MV1 h nm pit sl mv f4 f6 j) (I : CI h np nm pit sl mv) (hj : j < mv.1) : f4 (mv.2.1 j) = zI h 215 (mv.2.1 j) ∧ f6 (mv.2.1 j) = zI h 217 (mv.2.1 j) := by
  obtain ⟨h1, h2, h3⟩ := I.2.2.2.1 j hj
  have w := M.2 (mv.2.1 j) h1 (fun j' hj' z => by have := I.2.2.2.2.1 j' j (by omega) hj z; omega)
  unfold vAm at w
  rw [if_neg (fun z => h3 z.2)] at w
  exact w
def PV1 (h : ZH) (np : Nat) (sl : SLt) (mv : MVt) (g : Nat → Nat → Int32) (n : Nat) : Prop := ∀ p t, p < np → t < 3 → g p t = nI (pnN h p t - cgS sl (chi h sl mv) n p t)
end CLOSE1
