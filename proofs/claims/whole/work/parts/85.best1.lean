/-! the best plan, as a search through all -/
def lst (h : ZH) (p : Nat) : Nat := if oN h p then spN h else 0
def ps (π : Nat → Nat) (k y : Nat) : Nat → Nat := fun p => if p = k then y else π p
theorem ps_s {π : Nat → Nat} {k y : Nat} : ps π k y k = y := if_pos rfl
theorem ps_n {π : Nat → Nat} {k y p : Nat} (e : p ≠ k) : ps π k y p = π p := if_neg e
def digs (π : Nat → Nat) : Nat → Nat
  | 0 => 0
  | n + 1 => digs π n * 10 + π n
abbrev OB : Type := Option (Nat × Nat)
def lim (B : OB) : Nat := B.elim 1000000000 (fun b => b.1)
def leaf (h : ZH) (np : Nat) (π : Nat → Nat) (B : OB) : OB := if kept h np π ∧ wst h np π < lim B then some (wst h np π, digs π np) else B
def itr (f : Nat → OB → OB) : Nat → OB → OB
  | 0, B => B
  | c + 1, B => f c (itr f c B)
def scn (h : ZH) (np : Nat) : Nat → Nat → (Nat → Nat) → OB → OB
  | 0, _, π, B => leaf h np π B
  | n + 1, k, π, B => itr (fun y b => scn h np n (k + 1) (ps π k y) b) (lst h k + 1) B
theorem itr_same {f : Nat → OB → OB} {B : OB} : ∀ {c : Nat}, (∀ y, y < c → f y B = B) → itr f c B = B
  | 0, _ => rfl
  | c + 1, e => by
    show f c (itr f c B) = B
    rw [itr_same (fun y hy => e y (by omega)), e c (by omega)]
/-- a plan that ends what π begins -/
def cmp (h : ZH) (np k : Nat) (π π' : Nat → Nat) : Prop := (∀ p, p < k → π' p = π p) ∧ ∀ p, k ≤ p → p < np → π' p ≤ lst h p
theorem cmp_ps {h : ZH} {np k y : Nat} {π π' : Nat → Nat} (hk : k < np) (hy : y ≤ lst h k) (c : cmp h np (k + 1) (ps π k y) π') : cmp h np k π π' := by
  refine ⟨fun p hp => ?_, fun p h1 h2 => ?_⟩
  · rw [c.1 p (by omega), ps_n (by omega)]
  · by_cases e : p = k
    · subst e; rw [c.1 p (by omega), ps_s]; exact hy
    · exact c.2 p (by omega) h2
theorem scn_none {h : ZH} {np : Nat} : ∀ {n k : Nat} {π : Nat → Nat} {B : OB}, k + n = np → (∀ π', cmp h np k π π' → ¬ (kept h np π' ∧ wst h np π' < lim B)) → scn h np n k π B = B
  | 0, k, π, B, e, q => by
    show leaf h np π B = B
    unfold leaf
    rw [if_neg (q π ⟨fun _ _ => rfl, fun p h1 h2 => absurd h2 (by omega)⟩)]
  | n + 1, k, π, B, e, q => by
    show itr (fun y b => scn h np n (k + 1) (ps π k y) b) (lst h k + 1) B = B
    refine itr_same (fun y hy => scn_none (by omega) (fun π' c => q π' (cmp_ps (by omega) (by omega) c)))
theorem kept_congr {h : ZH} {np : Nat} {π π' : Nat → Nat} (e : ∀ p, p < np → π p = π' p) : kept h np π ↔ kept h np π' := by
  have e1 : ∀ y, won h π y np = won h π' y np := fun y => sumN_congr (fun p hp => by rw [e p hp])
  have e2 : ∀ y, cnt h π y np = cnt h π' y np := fun y => cnt_congr e
  unfold kept
  constructor
  · intro q y hy; rw [← e1, ← e2]; exact q y hy
  · intro q y hy; rw [e1, e2]; exact q y hy
theorem scn_some {h : ZH} {np : Nat} : ∀ {n k : Nat} {π : Nat → Nat} {b : Nat × Nat}, scn h np n k π (some b) ≠ none
  | 0, k, π, b => by
    show leaf h np π (some b) ≠ none
    unfold leaf
    by_cases c : kept h np π ∧ wst h np π < lim (some b)
    · rw [if_pos c]; exact fun x => by cases x
    · rw [if_neg c]; exact fun x => by cases x
  | n + 1, k, π, b => by
    show itr (fun y b => scn h np n (k + 1) (ps π k y) b) (lst h k + 1) (some b) ≠ none
    generalize lst h k + 1 = c
    induction c with
    | zero => exact fun x => by cases x
    | succ c ih =>
      show scn h np n (k + 1) (ps π k c) (itr _ c (some b)) ≠ none
      cases e : itr (fun y b => scn h np n (k + 1) (ps π k y) b) c (some b) with
      | none => exact absurd e ih
      | some b' => exact scn_some
theorem scn_ex {h : ZH} {np : Nat} (bd : ∀ π, wst h np π < 1000000000) : ∀ {n k : Nat} {π : Nat → Nat} {B : OB}, k + n = np → (∃ π', cmp h np k π π' ∧ kept h np π') → scn h np n k π B ≠ none
  | 0, k, π, B, e, q => by
    cases B with
    | some b => exact scn_some
    | none =>
      obtain ⟨π', c, kp⟩ := q
      have kp2 := (kept_congr (fun p hp => c.1 p (by omega))).mp kp
      show leaf h np π none ≠ none
      unfold leaf
      rw [if_pos ⟨kp2, bd π⟩]
      exact fun x => by cases x
  | n + 1, k, π, B, e, q => by
    obtain ⟨π', c, kp⟩ := q
    show itr (fun y b => scn h np n (k + 1) (ps π k y) b) (lst h k + 1) B ≠ none
    have hy := c.2 k (by omega) (by omega)
    have c2 : cmp h np (k + 1) (ps π k (π' k)) π' := by
      refine ⟨fun p hp => ?_, fun p h1 h2 => c.2 p (by omega) h2⟩
      by_cases e : p = k
      · subst e; rw [ps_s]
      · rw [ps_n e]; exact c.1 p (by omega)
    have : ∀ m, π' k < m → itr (fun y b => scn h np n (k + 1) (ps π k y) b) m B ≠ none := by
      intro m
      induction m with
      | zero => intro x; omega
      | succ m ih =>
        intro hm
        show scn h np n (k + 1) (ps π k m) (itr _ m B) ≠ none
        by_cases em : π' k = m
        · subst em
          exact scn_ex bd (by omega) ⟨π', c2, kp⟩
        · cases e : itr (fun y b => scn h np n (k + 1) (ps π k y) b) m B with
          | none => exact absurd e (ih (by omega))
          | some b' => exact scn_some
    exact this _ (by omega)
/-- the least that a pit can cost by a row -/
def mnu (h : ZH) (p r : Nat) : Nat → Nat
  | 0 => cst h p 0 r
  | d + 1 => if cst h p (d + 1) r < mnu h p r d then cst h p (d + 1) r else mnu h p r d
theorem mnu_le {h : ZH} {p r : Nat} : ∀ {n d : Nat}, d ≤ n → mnu h p r n ≤ cst h p d r
  | 0, d, e => by rw [show d = 0 by omega]; exact Nat.le_refl _
  | n + 1, d, e => by
    unfold mnu
    by_cases c : cst h p (n + 1) r < mnu h p r n
    · rw [if_pos c]
      by_cases x : d = n + 1
      · subst x; exact Nat.le_refl _
      · have := mnu_le (h := h) (p := p) (r := r) (n := n) (d := d) (by omega); omega
    · rw [if_neg c]
      by_cases x : d = n + 1
      · subst x; omega
      · exact mnu_le (by omega)
def lea (h : ZH) (r : Nat) : Nat → Nat → Nat
  | 0, _ => 0
  | n + 1, k => lea h r n (k + 1) + mnu h k r (lst h k)
theorem lea_le {h : ZH} {r : Nat} {π : Nat → Nat} : ∀ {n k : Nat}, (∀ p, k ≤ p → p < k + n → π p ≤ lst h p) → tot h k π r + lea h r n k ≤ tot h (k + n) π r
  | 0, k, _ => Nat.le_refl _
  | n + 1, k, e => by
    have ih := lea_le (h := h) (r := r) (π := π) (n := n) (k := k + 1) (fun p h1 h2 => e p (by omega) (by omega))
    rw [show k + (n + 1) = k + 1 + n by omega]
    have e1 : tot h (k + 1) π r = tot h k π r + cst h k (π k) r := rfl
    have e2 : lea h r (n + 1) k = lea h r n (k + 1) + mnu h k r (lst h k) := rfl
    have e3 := mnu_le (h := h) (p := k) (r := r) (e k (by omega) (by omega))
    omega
theorem lea_bd {h : ZH} {np nm nh r : Nat} (Q : PQ h np nm nh) : ∀ {n k : Nat}, k + n ≤ np → lea h r n k ≤ n * 1000000
  | 0, k, _ => Nat.le_refl _
  | n + 1, k, e => by
    have ih := lea_bd (r := r) Q (n := n) (k := k + 1) (by omega)
    have e2 : lea h r (n + 1) k = lea h r n (k + 1) + mnu h k r (lst h k) := rfl
    have e3 := mnu_le (h := h) (p := k) (r := r) (n := lst h k) (d := 0) (by omega)
    have e4 := cst_bd (d := 0) (r := r) Q (show k < np by omega)
    rw [Nat.succ_mul]
    omega
theorem tot_congr {h : ZH} {π π' : Nat → Nat} {r n : Nat} (e : ∀ p, p < n → π p = π' p) : tot h n π r = tot h n π' r := sumN_congr (fun p hp => by rw [e p hp])
theorem wst_ge {h : ZH} {np : Nat} {π : Nat → Nat} {r : Nat} (hr : r < 3) : tot h np π r ≤ wst h np π := by
  unfold wst wrw
  by_cases b : tot h np π 0 < tot h np π 1
  · simp only [if_pos b]
    by_cases a : tot h np π 1 < tot h np π 2
    · rw [if_pos a]
      match r, hr with
      | 0, _ => omega
      | 1, _ => omega
      | 2, _ => omega
    · rw [if_neg a]
      match r, hr with
      | 0, _ => omega
      | 1, _ => omega
      | 2, _ => omega
  · simp only [if_neg b]
    by_cases a : tot h np π 0 < tot h np π 2
    · rw [if_pos a]
      match r, hr with
      | 0, _ => omega
      | 1, _ => omega
      | 2, _ => omega
    · rw [if_neg a]
      match r, hr with
      | 0, _ => omega
      | 1, _ => omega
      | 2, _ => omega
theorem wrw_lt {h : ZH} {np : Nat} {π : Nat → Nat} : wrw h np π < 3 := by
  unfold wrw
  by_cases b : tot h np π 0 < tot h np π 1
  · simp only [if_pos b]
    by_cases a : tot h np π 1 < tot h np π 2
    · rw [if_pos a]; omega
    · rw [if_neg a]; omega
  · simp only [if_neg b]
    by_cases a : tot h np π 0 < tot h np π 2
    · rw [if_pos a]; omega
    · rw [if_neg a]; omega
theorem wst_bd {h : ZH} {np nm nh : Nat} {π : Nat → Nat} (Q : PQ h np nm nh) : wst h np π ≤ 8000000 := by
  have := tot_bd (r := wrw h np π) (π := π) Q (Nat.le_refl np)
  have h8 := Q.2.1
  have : np * 1000000 ≤ 8 * 1000000 := Nat.mul_le_mul_right _ h8
  unfold wst
  omega
/-- a bound that is not below the best one tells that nothing better follows -/
theorem scn_bound {h : ZH} {np n k r : Nat} {π : Nat → Nat} {B : OB} (e : k + n = np) (hr : r < 3) (q : lim B ≤ tot h k π r + lea h r n k) : scn h np n k π B = B := by
  refine scn_none e (fun π' c x => ?_)
  have h1 := lea_le (h := h) (r := r) (π := π') (n := n) (k := k) (fun p h1 h2 => c.2 p h1 (by omega))
  rw [tot_congr (π' := π) (n := k) (fun p hp => c.1 p hp), e] at h1
  have h2 := wst_ge (h := h) (np := np) (π := π') hr
  have := x.2
  omega
/-- a pit that may not close so tells the same -/
theorem scn_mcl {h : ZH} {np nm nh n k : Nat} {π : Nat → Nat} {B : OB} (Q : PQ h np nm nh) (e : k + 1 + n = np) (q : ¬ mcl h np π k) : scn h np n (k + 1) π B = B := by
  refine scn_none e (fun π' c x => q ?_)
  exact (mcl_congr (fun p hp => c.1 p hp)).mp (((kept_iff Q).mp x.1).1 k (by omega))
