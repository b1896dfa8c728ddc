/-! slots and movers -/
abbrev SLt : Type := Nat × (Nat → Nat) × (Nat → Nat)
def ad1 (p t : Nat) (s : SLt) : SLt := if s.1 < 12 then (s.1 + 1, ps s.2.1 s.1 p, ps s.2.2 s.1 t) else s
def adN (p t : Nat) : Nat → SLt → SLt
  | 0, s => s
  | n + 1, s => ad1 p t (adN p t n s)
def pnN (h : ZH) (p t : Nat) : Nat := nv (zI h 209 (3 * p + t))
def adP (h : ZH) (p : Nat) : Nat → SLt → SLt
  | 0, s => s
  | t + 1, s => adN p t (pnN h p t) (adP h p t s)
def sls (h : ZH) (pit : Nat) : Nat → SLt
  | 0 => (0, fun _ => 0, fun _ => 0)
  | p + 1 => if p ≠ pit ∧ oN h p then adP h p 3 (sls h pit p) else sls h pit p
theorem ad1_le {p t : Nat} {s : SLt} (h : s.1 ≤ 12) : (ad1 p t s).1 ≤ 12 := by
  unfold ad1
  by_cases c : s.1 < 12
  · rw [if_pos c]; exact c
  · rw [if_neg c]; exact h
theorem adN_le {p t : Nat} : ∀ {n : Nat} {s : SLt}, s.1 ≤ 12 → (adN p t n s).1 ≤ 12
  | 0, _, h => h
  | n + 1, s, h => ad1_le (adN_le h)
theorem adN_full {p t n : Nat} {s : SLt} (h : 12 ≤ (adN p t n s).1) : ∀ {m : Nat}, adN p t (n + m) s = adN p t n s
  | 0 => rfl
  | m + 1 => by
    show ad1 p t (adN p t (n + m) s) = adN p t n s
    rw [adN_full h]
    unfold ad1
    rw [if_neg (by omega)]
theorem adP_le {h : ZH} {p : Nat} : ∀ {t : Nat} {s : SLt}, s.1 ≤ 12 → (adP h p t s).1 ≤ 12
  | 0, _, h => h
  | t + 1, s, h => adN_le (adP_le h)
theorem sls_le {h : ZH} {pit : Nat} : ∀ {p : Nat}, (sls h pit p).1 ≤ 12
  | 0 => by show 0 ≤ 12; omega
  | p + 1 => by
    unfold sls
    by_cases c : p ≠ pit ∧ oN h p
    · rw [if_pos c]; exact adP_le sls_le
    · rw [if_neg c]; exact sls_le
/-- what every slot is: at a pit of the pact that is open and not the one, of a trade -/
def slI (h : ZH) (np pit : Nat) (s : SLt) : Prop := ∀ i, i < s.1 → s.2.1 i < np ∧ s.2.2 i < 3 ∧ oN h (s.2.1 i) ∧ s.2.1 i ≠ pit
theorem adN_I {h : ZH} {np pit p t : Nat} (hp : p < np) (ht : t < 3) (ho : oN h p) (hne : p ≠ pit) : ∀ {n : Nat} {s : SLt}, slI h np pit s → slI h np pit (adN p t n s)
  | 0, _, q => q
  | n + 1, s, q => by
    have ih := adN_I hp ht ho hne (n := n) q
    show slI h np pit (ad1 p t (adN p t n s))
    unfold ad1
    by_cases c : (adN p t n s).1 < 12
    · rw [if_pos c]
      intro i hi
      by_cases e : i = (adN p t n s).1
      · subst e
        show ps _ _ p _ < np ∧ ps _ _ t _ < 3 ∧ oN h (ps _ _ p _) ∧ ps _ _ p _ ≠ pit
        rw [ps_s, ps_s]
        exact ⟨hp, ht, ho, hne⟩
      · have hi' : i < (adN p t n s).1 := by
          have : i < (adN p t n s).1 + 1 := hi
          omega
        show ps _ _ p _ < np ∧ ps _ _ t _ < 3 ∧ oN h (ps _ _ p _) ∧ ps _ _ p _ ≠ pit
        rw [ps_n e, ps_n e]
        exact ih i hi'
    · rw [if_neg c]; exact ih
theorem sls_I {h : ZH} {np pit : Nat} : ∀ {p : Nat}, p ≤ np → slI h np pit (sls h pit p)
  | 0, _ => fun i hi => absurd hi (Nat.not_lt_zero i)
  | p + 1, hp => by
    have ih := sls_I (h := h) (np := np) (pit := pit) (p := p) (by omega)
    unfold sls
    by_cases c : p ≠ pit ∧ oN h p
    · rw [if_pos c]
      exact adN_I (by omega) (by decide) c.2 c.1 (adN_I (by omega) (by decide) c.2 c.1 (adN_I (by omega) (by decide) c.2 c.1 ih))
    · rw [if_neg c]; exact ih
abbrev MVt : Type := Nat × (Nat → Nat) × Nat
def mvs (h : ZH) (pit : Nat) : Nat → MVt
  | 0 => (0, fun _ => 0, 0)
  | m + 1 => if zI h 215 m = nI pit then (if truM h 0 m then ((mvs h pit m).1, (mvs h pit m).2.1, (mvs h pit m).2.2 + 1) else ((mvs h pit m).1 + 1, ps (mvs h pit m).2.1 (mvs h pit m).1 m, (mvs h pit m).2.2)) else mvs h pit m
theorem mvs_s {h : ZH} {pit m : Nat} : mvs h pit (m + 1) = if zI h 215 m = nI pit then (if truM h 0 m then ((mvs h pit m).1, (mvs h pit m).2.1, (mvs h pit m).2.2 + 1) else ((mvs h pit m).1 + 1, ps (mvs h pit m).2.1 (mvs h pit m).1 m, (mvs h pit m).2.2)) else mvs h pit m := rfl
theorem mvs_mono {h : ZH} {pit m : Nat} : ∀ {d : Nat}, (mvs h pit m).1 ≤ (mvs h pit (m + d)).1
  | 0 => Nat.le_refl _
  | d + 1 => by
    have ih := mvs_mono (h := h) (pit := pit) (m := m) (d := d)
    show _ ≤ (mvs h pit (m + d + 1)).1
    rw [mvs_s]
    by_cases c : zI h 215 (m + d) = nI pit
    · rw [if_pos c]
      by_cases c2 : truM h 0 (m + d)
      · rw [if_pos c2]; exact ih
      · rw [if_neg c2]; exact Nat.le_succ_of_le ih
    · rw [if_neg c]; exact ih
/-- the movers are men at the pit, in their order -/
theorem mvs_I {h : ZH} {pit : Nat} : ∀ {m : Nat}, (mvs h pit m).1 ≤ m ∧ (mvs h pit m).2.2 ≤ m ∧ (∀ i, i < (mvs h pit m).1 → (mvs h pit m).2.1 i < m ∧ zI h 215 ((mvs h pit m).2.1 i) = nI pit ∧ ¬ truM h 0 ((mvs h pit m).2.1 i)) ∧ (∀ i j, i < (mvs h pit m).1 → j < (mvs h pit m).1 → (mvs h pit m).2.1 i = (mvs h pit m).2.1 j → i = j) ∧ ∀ k, k < m → zI h 215 k = nI pit → ¬ truM h 0 k → ∃ i, i < (mvs h pit m).1 ∧ (mvs h pit m).2.1 i = k
  | 0 => ⟨Nat.le_refl _, Nat.le_refl _, fun i hi => absurd hi (Nat.not_lt_zero i), fun i j hi => absurd hi (Nat.not_lt_zero i), fun k hk => absurd hk (Nat.not_lt_zero k)⟩
  | m + 1 => by
    obtain ⟨a1, a2, a3, a4, a5⟩ := mvs_I (h := h) (pit := pit) (m := m)
    unfold mvs
    by_cases c : zI h 215 m = nI pit
    · rw [if_pos c]
      by_cases c2 : truM h 0 m
      · rw [if_pos c2]
        refine ⟨Nat.le_succ_of_le a1, Nat.succ_le_succ a2, fun i hi => ⟨Nat.lt_succ_of_lt (a3 i hi).1, (a3 i hi).2⟩, a4, fun k hk q1 q2 => ?_⟩
        by_cases e : k = m
        · subst e; exact absurd c2 q2
        · exact a5 k (by omega) q1 q2
      · rw [if_neg c2]
        refine ⟨Nat.succ_le_succ a1, Nat.le_succ_of_le a2, fun i hi => ?_, fun i j hi hj e => ?_, fun k hk q1 q2 => ?_⟩
        · show ps _ _ m i < m + 1 ∧ zI h 215 (ps _ _ m i) = nI pit ∧ ¬ truM h 0 (ps _ _ m i)
          by_cases e : i = (mvs h pit m).1
          · subst e; rw [ps_s]; exact ⟨by omega, c, c2⟩
          · have hi' : i < (mvs h pit m).1 + 1 := hi
            rw [ps_n e]
            have := a3 i (by omega)
            exact ⟨by omega, this.2⟩
        · have hi' : i < (mvs h pit m).1 + 1 := hi
          have hj' : j < (mvs h pit m).1 + 1 := hj
          have e' : ps (mvs h pit m).2.1 (mvs h pit m).1 m i = ps (mvs h pit m).2.1 (mvs h pit m).1 m j := e
          by_cases ei : i = (mvs h pit m).1
          · by_cases ej : j = (mvs h pit m).1
            · omega
            · rw [ei, ps_s, ps_n ej] at e'
              have := (a3 j (by omega)).1
              omega
          · by_cases ej : j = (mvs h pit m).1
            · rw [ej, ps_s, ps_n ei] at e'
              have := (a3 i (by omega)).1
              omega
            · rw [ps_n ei, ps_n ej] at e'
              exact a4 i j (by omega) (by omega) e'
        · by_cases e : k = m
          · subst e
            exact ⟨(mvs h pit k).1, Nat.lt_succ_self _, ps_s⟩
          · obtain ⟨i, h1, h2⟩ := a5 k (by omega) q1 q2
            refine ⟨i, Nat.lt_succ_of_lt h1, ?_⟩
            show ps _ _ m i = k
            rw [ps_n (by omega)]; exact h2
    · rw [if_neg c]
      refine ⟨Nat.le_succ_of_le a1, Nat.le_succ_of_le a2, fun i hi => ⟨Nat.lt_succ_of_lt (a3 i hi).1, (a3 i hi).2⟩, a4, fun k hk q1 q2 => ?_⟩
      by_cases e : k = m
      · subst e; exact absurd q1 c
      · exact a5 k (by omega) q1 q2
section SLOTS
variable {h : ZH} {np nm nh : Nat}
/-- the class's slots -/
def SCl (H : ZH) (s : SLt) : Prop := zI H 35 2 = nI s.1 ∧ s.1 ≤ 12 ∧ ∀ i, i < s.1 → zI H 36 i = nI (s.2.1 i) ∧ zI H 37 i = nI (s.2.2 i)
theorem SCl.fr {H H1 : ZH} {s : SLt} (k : SCl H s) (E : ∀ a j, (a = 35 ∧ j = 2) ∨ a = 36 ∨ a = 37 → zI H1 a j = zI H a j) : SCl H1 s := ⟨by rw [E _ _ (by omega)]; exact k.1, k.2.1, fun i hi => by rw [E _ _ (by omega), E _ _ (by omega)]; exact k.2.2 i hi⟩
/-- only the class's slots have changed -/
def FS (H H1 : ZH) : Prop := zK H1 = zK H ∧ zN H1 = zN H ∧ zR H1 = zR H ∧ zL H1 = zL H ∧ ∀ a j, ¬ ((a = 35 ∧ j = 2) ∨ a = 36 ∨ a = 37) → zI H1 a j = zI H a j
theorem FS.rfl' {H : ZH} : FS H H := ⟨rfl, rfl, rfl, rfl, fun _ _ _ => rfl⟩
theorem FS.trans {a b c : ZH} (k : FS a b) (q : FS b c) : FS a c := ⟨q.1.trans k.1, q.2.1.trans k.2.1, q.2.2.1.trans k.2.2.1, q.2.2.2.1.trans k.2.2.2.1, fun x j z => (q.2.2.2.2 x j z).trans (k.2.2.2.2 x j z)⟩
theorem FS.same {H H1 : ZH} (k : FS H H1) : zsame H H1 := ⟨k.1, k.2.1, k.2.2.1, fun a j z => k.2.2.2.2 a j (fun e => z (by unfold scr; omega))⟩
set_option maxHeartbeats 2000000 in
theorem s_X7_addSlots {ψ : ZH → Prop} {H : ZH} {p : Nat} {s0 : SLt} (S : Sh H np nm nh) (hp : p < np) (hn : np ≤ 8) (hc : ∀ t, t < 3 → zI H (302 + 3 * p) t = nI (pnN h p t) ∧ pnN h p t ≤ 9) (C : SCl H s0) (k : ∀ H1, FS H H1 → SCl H1 (adP h p 3 s0) → ψ H1) : ZcV mX7_addSlots [.ref 35, .int (nI p), .ref (302 + 3 * p)] H ψ := by
  refine wX7_addSlots ?_
  have main := down (n := 3) (I := fun t => ∀ H1, FS H H1 → SCl H1 (adP h p t s0) → Zt mX7_addSlots (zPV ψ) 0 0 2 [some (.ref 35), some (.int (nI p)), some (.ref (302 + 3 * p)), some (.int (nI t)), none] [] H1) ?_ ?_
  · exact main H FS.rfl' C
  · intro H1 F C1
    exact wX7_addSlots_2 ⟨fun _ => k H1 F C1, fun z => absurd (by decide) z⟩
  · intro t ht ih H1 F C1
    refine wX7_addSlots_2 ⟨fun z => absurd z (cnt_le (n := 3) (by omega) ht), fun _ => ?_⟩
    have et := nI_clamp (n := t) (by omega)
    have vt : vp_in (nI t) 3 := vp_in_nI (by omega) (by omega)
    obtain ⟨c1, c2⟩ := hc t ht
    have inner := down (n := pnN h p t) (I := fun i => ∀ H2, FS H H2 → SCl H2 (adN p t i (adP h p t s0)) → Zt mX7_addSlots (zPV ψ) 0 0 10 [some (.ref 35), some (.int (nI p)), some (.ref (302 + 3 * p)), some (.int (nI t)), some (.int (nI i))] [] H2) ?_ ?_
    · exact inner H1 F C1
    · intro H2 F2 C2
      have S2 := F2.same.Sh S
      have cp : zI H2 (302 + 3 * p) t = nI (pnN h p t) := by rw [F2.2.2.2.2 _ _ (by omega), c1]
      refine wX7_addSlots_10 ?_
      simp only [shPit S2 hp, et, vt, cp, nI_1]
      exact ⟨trivial, trivial, fun _ => ih H2 F2 C2, fun z => absurd (Int32.le_refl _) z⟩
    · intro i hi ih2 H2 F2 C2
      have S2 := F2.same.Sh S
      have cp : zI H2 (302 + 3 * p) t = nI (pnN h p t) := by rw [F2.2.2.2.2 _ _ (by omega), c1]
      obtain ⟨s1, s2, s3⟩ := C2
      refine wX7_addSlots_10 ?_
      simp only [shPit S2 hp, et, vt, cp, nI_1]
      refine ⟨trivial, trivial, Bf (cnt_le (by omega) hi) ?_⟩
      by_cases full : 12 ≤ (adN p t i (adP h p t s0)).1
      · refine ⟨(shRe S2).1, fun _ => ih H2 F2 ?_, fun z => absurd (by rw [s1]; exact nI_le (a := 12) full (by omega)) z⟩
        show SCl H2 (adN p t (pnN h p t) (adP h p t s0))
        rw [show pnN h p t = i + (pnN h p t - i) by omega, adN_full full]
        exact ⟨s1, s2, s3⟩
      · generalize hs : adN p t i (adP h p t s0) = s at s1 s2 s3 full
        have ee : adN p t (i + 1) (adP h p t s0) = (s.1 + 1, ps s.2.1 s.1 p, ps s.2.2 s.1 t) := by
          show ad1 p t (adN p t i (adP h p t s0)) = _
          rw [hs]
          unfold ad1
          rw [if_pos (by omega)]
        rw [ee] at ih2
        have es := nI_clamp (n := s.1) (by omega)
        have vs : vp_in (nI s.1) 12 := vp_in_nI (by omega) (by omega)
        refine ⟨(shRe S2).1, fun z => absurd z (by rw [s1]; exact cnt_le (n := 12) (by omega) (by omega)), fun _ => ?_⟩
        simp only [shRe S2, s1, es, vs, ne_eq]
        refine ⟨by decide, trivial, trivial, by decide, fun a1 e1 => ?_⟩
        have A1 : zI a1 35 2 = nI s.1 := by rw [e1, zI_sIa (by decide)]; exact s1
        have A2 : FS H2 a1 := by rw [e1]; exact ⟨rfl, rfl, rfl, rfl, fun a j q => zI_sIa (by omega)⟩
        have A3 : ∀ a j, ¬ (a = 36 ∧ j = s.1) → zI a1 a j = zI H2 a j := fun a j q => by rw [e1, zI_sIn q]
        have A4 : zI a1 36 s.1 = nI p := by rw [e1, zI_sIs]
        clear e1
        simp only [shRe (A2.same.Sh S2), A1, es, vs]
        refine ⟨trivial, trivial, trivial, fun a2 e2 => ?_⟩
        have B1 : zI a2 35 2 = nI s.1 := by rw [e2, zI_sIa (by decide)]; exact A1
        have B2 : FS H2 a2 := by rw [e2]; exact A2.trans ⟨rfl, rfl, rfl, rfl, fun a j q => zI_sIa (by omega)⟩
        have B3 : ∀ a j, ¬ (a = 36 ∧ j = s.1) → ¬ (a = 37 ∧ j = s.1) → zI a2 a j = zI H2 a j := fun a j q q2 => by rw [e2, zI_sIn q2]; exact A3 a j q
        have B4 : zI a2 36 s.1 = nI p := by rw [e2, zI_sIa (by decide)]; exact A4
        have B5 : zI a2 37 s.1 = nI t := by rw [e2, zI_sIs]
        clear e2
        rw [(shRe (B2.same.Sh S2)).1, B1, nI_1]
        refine ⟨rfl, ih2 _ (F2.trans (B2.trans ⟨rfl, rfl, rfl, rfl, fun a j q => zI_sIn (by omega)⟩)) ⟨by rw [zI_sIs], by show s.1 + 1 ≤ 12; omega, fun j hj => ?_⟩⟩
        rw [zI_sIa (by decide), zI_sIa (by decide)]
        show zI a2 36 j = nI (ps s.2.1 s.1 p j) ∧ zI a2 37 j = nI (ps s.2.2 s.1 t j)
        by_cases ej : j = s.1
        · subst ej; rw [ps_s, ps_s]; exact ⟨B4, B5⟩
        · have hj' : j < s.1 + 1 := hj
          rw [ps_n ej, ps_n ej, B3 _ _ (by omega) (by omega), B3 _ _ (by omega) (by omega)]
          exact s3 j (by omega)
def dgL (i : Nat) : Int64 := Int64.ofNat (13 ^ (9 - i))
theorem dgL_s : ∀ i, i < 9 → dgL i / 13 = dgL (i + 1) := by decide
theorem dgL_t : ∀ i, i < 10 → (dgL i).toInt = ((13 ^ (9 - i) : Nat) : Int) := by decide
theorem s_X7_weigh {ψ : Int64 → ZH → Prop} {H : ZH} {R j s : Nat} (hR : R ≤ 30000) (hj : j < 9) (hs : s ≤ 12) (k : ∀ v : Int64, v.toInt = ((R * 10604499373 + s * 13 ^ (8 - j) : Nat) : Int) → ψ v H) : ZcL mX7_weigh [.int (nI R), .int (nI j), .int (nI s)] H ψ := by
  refine wX7_weigh ?_
  have d0 : (10604499373 : Int64) = dgL 0 := by decide
  rw [d0]
  refine down (n := j + 1) (I := fun i => Zt mX7_weigh (zPL ψ) 0 0 7 [some (.int (nI R)), some (.int (nI j)), some (.int (nI s)), some (.long (dgL i)), none, some (.int (nI i))] [] H) ?_ (fun i hi q => ?_)
  · refine wX7_weigh_7 ⟨fun _ => k _ ?_, fun z => absurd (nI_lt (by omega) (by omega)) z⟩
    have e1 := dgL_t (j + 1) (by omega)
    rw [show 9 - (j + 1) = 8 - j by omega] at e1
    have e2 : (nI R).toInt64.toInt = R := by rw [Int32.toInt_toInt64, nI_toInt (by omega)]
    have e3 : (nI s).toInt64.toInt = s := by rw [Int32.toInt_toInt64, nI_toInt (by omega)]
    have b1 : 13 ^ (8 - j) ≤ 13 ^ 8 := Nat.pow_le_pow_right (by omega) (by omega)
    have b2 : s * 13 ^ (8 - j) ≤ 12 * 13 ^ 8 := Nat.mul_le_mul hs b1
    have cl : (10604499373 : Int64).toInt = 10604499373 := by decide
    have m1 : ((nI R).toInt64 * 10604499373).toInt = (R : Int) * 10604499373 := by
      rw [Int64.toInt_mul, e2, cl, tL_of (by omega) (by omega)]
    have m2 : ((nI s).toInt64 * dgL (j + 1)).toInt = ((s * 13 ^ (8 - j) : Nat) : Int) := by
      rw [Int64.toInt_mul, e3, e1, ← Int.natCast_mul, tL_of (by omega) (by omega)]
    rw [tL_add (by rw [m1, m2]; omega) (by rw [m1, m2]; omega), m1, m2]
    omega
  · refine wX7_weigh_7 ⟨fun z => absurd z (by rw [nI_lt' (by omega) (by omega)]; omega), fun _ => ?_⟩
    rw [dgL_s i (by omega), nI_1]
    exact q
end SLOTS
