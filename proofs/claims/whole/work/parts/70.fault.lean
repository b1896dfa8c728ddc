/-! the first fault of a text -/
def fo (F : Nat → Int32) : Nat → Nat → Nat → Nat → Int32
  | 0, k, m, d => if m = 1 ∧ d = 0 then -6 else nI k
  | r + 1, k, m, d => match stp m d (F k) with
    | none => nI k
    | some s => fo F r (k + 1) s.1 s.2
theorem stp_inv {m d : Nat} {c : Int32} {s : Nat × Nat} (h : m ≤ 5 ∧ d ≤ 4 ∧ (0 < d → 0 < m)) (e : stp m d c = some s) : s.1 ≤ 5 ∧ s.2 ≤ 4 ∧ (0 < s.2 → 0 < s.1) := by
  unfold stp at e
  repeat' split at e
  all_goals first
    | (cases e; done)
    | (cases e; refine ⟨?_, ?_, ?_⟩ <;> dsimp only <;> omega)
theorem scan {A : Nat → Nat → Nat → Prop} {F : Nat → Int32} {ns : Nat} {res : Int32 → Prop}
    (step : ∀ k m d, k < ns → (m ≤ 5 ∧ d ≤ 4 ∧ (0 < d → 0 < m)) → (stp m d (F k) = none → res (nI k)) → (∀ m' d', stp m d (F k) = some (m', d') → A (k + 1) m' d') → A k m d)
    (fin : ∀ m d, (m ≤ 5 ∧ d ≤ 4 ∧ (0 < d → 0 < m)) → res (if m = 1 ∧ d = 0 then -6 else nI ns) → A ns m d) :
    ∀ r k m d, k + r = ns → (m ≤ 5 ∧ d ≤ 4 ∧ (0 < d → 0 < m)) → res (fo F r k m d) → A k m d
  | 0, k, m, d, hk, hi, hr => by
    have : k = ns := by omega
    subst this
    exact fin m d hi hr
  | r + 1, k, m, d, hk, hi, hr => by
    refine step k m d (by omega) hi (fun e => ?_) (fun m' d' e => ?_)
    · unfold fo at hr
      rw [e] at hr
      exact hr
    · unfold fo at hr
      rw [e] at hr
      exact scan step fin r (k + 1) m' d' (by omega) (stp_inv hi e) hr
/-- the height behind a sign -/
def hbe (c l : Int32) : Int32 := if isFa c ∨ c = 44 then (if 5 ≤ l then -6 else l + 1) else if isAc c then (if l < 2 then -6 else l - 1) else if c = 33 then (if l < 1 then -6 else l) else -6
section FAULT
variable {h : ZH} {ψ : Int32 → ZH → Prop} {np nm nh : Nat}
theorem s_X8_isDigit {c : Int32} (k : ψ (zb (isDg c)) h) : ZcI mX8_isDigit [.int c] h ψ := by
  refine wX8_isDigit ⟨fun q => ?_, fun q => ⟨fun q2 => ?_, fun q2 => ?_⟩⟩
  · rwa [zb_f (fun x => Int32.not_lt.mpr x.1 q)] at k
  · rwa [zb_f (fun x => Int32.not_lt.mpr x.2 q2)] at k
  · rwa [zb_t ⟨Int32.not_lt.mp q, Int32.not_lt.mp q2⟩] at k
theorem hb_f {c l : Int32} (e : c = 97 ∨ c = 121 ∨ c = 116 ∨ c = 107 ∨ c = 102 ∨ c = 44) : hbe c l = if 5 ≤ l then -6 else l + 1 := by
  unfold hbe
  rw [if_pos (by rcases e with e | e | e | e | e | e <;> (subst e; decide))]
theorem hb_a {c l : Int32} (e : isAc c) : hbe c l = if l < 2 then -6 else l - 1 := by
  unfold hbe
  rw [if_neg (by rcases e with e | e | e | e | e | e | e | e <;> (subst e; decide)), if_pos e]
theorem s_hb {c l : Int32} (k : ψ (hbe c l) h) : ZcI mX8_heightBehind [.int c, .int l] h ψ := by
  have fa : (c = 97 ∨ c = 121 ∨ c = 116 ∨ c = 107 ∨ c = 102 ∨ c = 44) → ((5 ≤ l → ψ (-6) h) ∧ (¬ 5 ≤ l → ψ (l + 1) h)) := fun e => by
    rw [hb_f e] at k
    exact ⟨fun z => by rw [if_pos z] at k; exact k, fun z => by rw [if_neg z] at k; exact k⟩
  have ac : isAc c → ((l < 2 → ψ (-6) h) ∧ (¬ l < 2 → ψ (l - 1) h)) := fun e => by
    rw [hb_a e] at k
    exact ⟨fun z => by rw [if_pos z] at k; exact k, fun z => by rw [if_neg z] at k; exact k⟩
  refine wX8_heightBehind ⟨fun e => ?_, fun e => ac (by simp [isAc, e]), fun e => ac (by simp [isAc, e]), fun e => ac (by simp [isAc, e]), fun e => fa (by simp [e]), fun e => ac (by simp [isAc, e]), fun e => ac (by simp [isAc, e]), fun e => ac (by simp [isAc, e]), fun e => ac (by simp [isAc, e]), fun e => fa (by simp [e]), fun e => fa (by simp [e]), fun e => fa (by simp [e]), fun e => fa (by simp [e]), fun e => fa (by simp [e]), fun e => ac (by simp [isAc, e]), fun n1 n2 n3 n4 n5 n6 n7 n8 n9 m1 m2 m3 m4 m5 m6 => ?_⟩
  · have x : hbe c l = if l < 1 then -6 else l := by
      unfold hbe
      rw [if_neg (by subst e; decide), if_neg (by subst e; decide), if_pos e]
    rw [x] at k
    exact ⟨fun z => by rw [if_pos z] at k; exact k, fun z => by rw [if_neg z] at k; exact k⟩
  · have x : hbe c l = -6 := by
      unfold hbe
      rw [if_neg (by simp [isFa, *]), if_neg (by simp [isAc, *]), if_neg n1]
    rw [x] at k
    exact k
theorem zb_if {p : Prop} [Decidable p] {A B : Prop} (t : p → A) (f : ¬ p → B) : (zb p = 0 → B) ∧ (¬ zb p = 0 → A) := ⟨fun z => f (zb_eq0.mp z), fun z => t (Classical.not_not.mp (fun x => z (zb_eq0.mpr x)))⟩
theorem isDg_44 {c : Int32} (h : isDg c) : ¬ c = 44 := fun e => by subst e; exact absurd h (by decide)
/-- what a text's object at a holds -/
def Tx (h : ZH) (a : Nat) (F : Nat → Int32) (ns : Nat) : Prop := zK h a = 9 ∧ zR h a 0 = a + 1 ∧ zK h (a + 1) = 20 ∧ zN h (a + 1) = 40 ∧ zI h a 1 = nI ns ∧ ns ≤ 40 ∧ ∀ j, j < ns → zI h (a + 1) j = F j
theorem hb_ok {m : Nat} {c : Int32} (hm : m ≤ 5) (n44 : ¬ c = 44) (nd : ¬ isDg c) : hbe c (nI m) = match stp m 0 c with | none => -6 | some s => nI s.1 := by
  have e5 : (5 ≤ nI m) ↔ ¬ m < 5 := by rw [tI_le, nI_toInt (by omega)]; have : (5 : Int32).toInt = 5 := by decide
                                       omega
  have e2 : (nI m < 2) ↔ ¬ 1 < m := by rw [tI_lt, nI_toInt (by omega), tI_2]; omega
  have e1 : (nI m < 1) ↔ ¬ 0 < m := by rw [tI_lt, nI_toInt (by omega), tI_1]; omega
  unfold hbe stp
  rw [if_neg (show ¬ 0 < 0 by omega)]
  by_cases cf : isFa c
  · rw [if_pos (Or.inl cf), if_pos (Or.inr cf)]
    by_cases z : m < 5
    · rw [if_neg (by rw [e5]; omega), if_pos z, nI_1]
    · rw [if_pos (e5.mpr z), if_neg z]
  · rw [if_neg (show ¬ (isFa c ∨ c = 44) from fun x => x.elim cf n44), if_neg (show ¬ (isDg c ∨ isFa c) from fun x => x.elim nd cf)]
    by_cases ca : isAc c
    · rw [if_pos ca, if_pos ca]
      by_cases z : 1 < m
      · rw [if_neg (by rw [e2]; omega), if_pos z]
        show nI m - 1 = nI (m - 1)
        obtain ⟨x, rfl⟩ : ∃ x, m = x + 1 := ⟨m - 1, by omega⟩
        rw [nI_pred]; rfl
      · rw [if_pos (e2.mpr z), if_neg z]
    · rw [if_neg ca, if_neg ca]
      by_cases cx : c = 33
      · rw [if_pos cx, if_pos cx]
        by_cases z : 0 < m
        · rw [if_neg (by rw [e1]; omega), if_pos z]
        · rw [if_pos (e1.mpr z), if_neg z]
      · rw [if_neg cx, if_neg cx]
end FAULT
