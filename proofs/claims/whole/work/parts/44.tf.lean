/-! the branches behind a truth -/
theorem N1 {A B : Prop} (a : A) : (¬ (1 : Int32) = 0 → A) ∧ ((1 : Int32) = 0 → B) := ⟨fun _ => a, fun q => absurd q (by decide)⟩
theorem Z1 {A B : Prop} (a : A) : ((1 : Int32) = 0 → B) ∧ (¬ (1 : Int32) = 0 → A) := ⟨fun q => absurd q (by decide), fun _ => a⟩
theorem N0 {A B : Prop} (b : B) : (¬ (0 : Int32) = 0 → A) ∧ ((0 : Int32) = 0 → B) := ⟨fun q => absurd rfl q, fun _ => b⟩
theorem Z0 {A B : Prop} (b : B) : ((0 : Int32) = 0 → B) ∧ (¬ (0 : Int32) = 0 → A) := ⟨fun _ => b, fun q => absurd rfl q⟩
theorem Bt {P A B : Prop} (p : P) (a : A) : (P → A) ∧ (¬ P → B) := ⟨fun _ => a, fun q => absurd p q⟩
theorem Bf {P A B : Prop} (p : ¬ P) (b : B) : (P → A) ∧ (¬ P → B) := ⟨fun q => absurd q p, fun _ => b⟩
theorem Bt' {P A B : Prop} (p : P) (a : A) : (¬ P → B) ∧ (P → A) := ⟨fun q => absurd p q, fun _ => a⟩
theorem Bf' {P A B : Prop} (p : ¬ P) (b : B) : (¬ P → B) ∧ (P → A) := ⟨fun _ => b, fun q => absurd q p⟩
theorem Jx.nm {X : ZH} {i L : Nat} {xs : Nat → Int32} (k : ∀ H2 : ZH, H2 = X → Jx H2 i L xs) : Jx X i L xs := k X rfl
section TF
variable {ψ : Int32 → ZH → Prop} {h : ZH} {a b c : Int32}
theorem X10_within_t (q : b ≤ a ∧ a ≤ c) (k : ψ 1 h) : ZcI mX10_isWithin [.int a, .int b, .int c] h ψ := s_X10_isWithin (by rw [zb_t q]; exact k)
theorem X10_within_f (q : ¬ (b ≤ a ∧ a ≤ c)) (k : ψ 0 h) : ZcI mX10_isWithin [.int a, .int b, .int c] h ψ := s_X10_isWithin (by rw [zb_f q]; exact k)
theorem X11_in_t {b' c' : Int64} (q : b ≤ a ∧ a ≤ c) (hb : b' = b.toInt64) (hc : c' = c.toInt64) (k : ψ 1 h) : ZcI mX11_in [.long a.toInt64, .long b', .long c'] h ψ := s_X11_inI hb hc (by rw [zb_t q]; exact k)
theorem X11_in_f {b' c' : Int64} (q : ¬ (b ≤ a ∧ a ≤ c)) (hb : b' = b.toInt64) (hc : c' = c.toInt64) (k : ψ 0 h) : ZcI mX11_in [.long a.toInt64, .long b', .long c'] h ψ := s_X11_inI hb hc (by rw [zb_f q]; exact k)
theorem X10_trade_t (q : 0 ≤ a ∧ a ≤ 2) (k : ψ 1 h) : ZcI mX10_isTrade [.int a] h ψ := s_X10_isTrade (by rw [zb_t q]; exact k)
theorem X10_trade_f (q : ¬ (0 ≤ a ∧ a ≤ 2)) (k : ψ 0 h) : ZcI mX10_isTrade [.int a] h ψ := s_X10_isTrade (by rw [zb_f q]; exact k)
theorem X10_rule_t (q : 0 ≤ a ∧ a ≤ 2) (k : ψ 1 h) : ZcI mX10_isRule [.int a] h ψ := s_X10_isRule (by rw [zb_t q]; exact k)
theorem X10_rule_f (q : ¬ (0 ≤ a ∧ a ≤ 2)) (k : ψ 0 h) : ZcI mX10_isRule [.int a] h ψ := s_X10_isRule (by rw [zb_f q]; exact k)
theorem X10_town_t (q : 0 ≤ a ∧ a ≤ 5) (k : ψ 1 h) : ZcI mX10_isTown [.int a] h ψ := s_X10_isTown (by rw [zb_t q]; exact k)
theorem X10_town_f (q : ¬ (0 ≤ a ∧ a ≤ 5)) (k : ψ 0 h) : ZcI mX10_isTown [.int a] h ψ := s_X10_isTown (by rw [zb_f q]; exact k)
theorem X11_town_t (q : 0 ≤ a ∧ a ≤ 5) (k : ψ 1 h) : ZcI mX11_isTown [.int a] h ψ := s_X11_isTown (by rw [zb_t q]; exact k)
theorem X11_town_f (q : ¬ (0 ≤ a ∧ a ≤ 5)) (k : ψ 0 h) : ZcI mX11_isTown [.int a] h ψ := s_X11_isTown (by rw [zb_f q]; exact k)
theorem X10_place_t (q : (0 ≤ a ∧ a ≤ 99) ∧ 0 ≤ b ∧ b ≤ 99) (k : ψ 1 h) : ZcI mX10_isPlace [.int a, .int b] h ψ := s_X10_isPlace (by rw [zb_t q]; exact k)
theorem X10_place_f (q : ¬ ((0 ≤ a ∧ a ≤ 99) ∧ 0 ≤ b ∧ b ≤ 99)) (k : ψ 0 h) : ZcI mX10_isPlace [.int a, .int b] h ψ := s_X10_isPlace (by rw [zb_f q]; exact k)
theorem X11_place_t (q : (0 ≤ a ∧ a ≤ 99) ∧ 0 ≤ b ∧ b ≤ 99) (k : ψ 1 h) : ZcI mX11_isPlace [.int a, .int b] h ψ := s_X11_isPlace (by rw [zb_t q]; exact k)
theorem X11_place_f (q : ¬ ((0 ≤ a ∧ a ≤ 99) ∧ 0 ≤ b ∧ b ≤ 99)) (k : ψ 0 h) : ZcI mX11_isPlace [.int a, .int b] h ψ := s_X11_isPlace (by rw [zb_f q]; exact k)
variable {n t : Nat}
theorem X10_pit_t (hK : zK h 10 = 11) (hc : zI h 10 12 = nI n) (hn : n < 2 ^ 31) (q : t < n) (k : ψ 1 h) : ZcI mX10_isPit [.ref 10, .int (nI t)] h ψ := s_X10_isPit hK (by rw [hc, zb_t (cnt_in hn q)]; exact k)
theorem X10_pit_f (hK : zK h 10 = 11) (hc : zI h 10 12 = nI n) (q : ¬ (0 ≤ a ∧ a ≤ nI n - 1)) (k : ψ 0 h) : ZcI mX10_isPit [.ref 10, .int a] h ψ := s_X10_isPit hK (by rw [hc, zb_f q]; exact k)
theorem X11_pit_t (hK : zK h 200 = 12) (hc : zI h 200 9 = nI n) (hn : n < 2 ^ 31) (q : t < n) (k : ψ 1 h) : ZcI mX11_isPit [.ref 200, .int (nI t)] h ψ := s_X11_isPit hK (by rw [hc, zb_t (cnt_in hn q)]; exact k)
theorem X11_pit_f (hK : zK h 200 = 12) (hc : zI h 200 9 = nI n) (q : ¬ (0 ≤ a ∧ a ≤ nI n - 1)) (k : ψ 0 h) : ZcI mX11_isPit [.ref 200, .int a] h ψ := s_X11_isPit hK (by rw [hc, zb_f q]; exact k)
theorem X10_man_t (hK : zK h 10 = 11) (hc : zI h 10 13 = nI n) (hn : n < 2 ^ 31) (q : t < n) (k : ψ 1 h) : ZcI mX10_isMan [.ref 10, .int (nI t)] h ψ := s_X10_isMan hK (by rw [hc, zb_t (cnt_in hn q)]; exact k)
theorem X10_man_f (hK : zK h 10 = 11) (hc : zI h 10 13 = nI n) (q : ¬ (0 ≤ a ∧ a ≤ nI n - 1)) (k : ψ 0 h) : ZcI mX10_isMan [.ref 10, .int a] h ψ := s_X10_isMan hK (by rw [hc, zb_f q]; exact k)
theorem X11_man_t (hK : zK h 200 = 12) (hc : zI h 200 17 = nI n) (hn : n < 2 ^ 31) (q : t < n) (k : ψ 1 h) : ZcI mX11_isMan [.ref 200, .int (nI t)] h ψ := s_X11_isMan hK (by rw [hc, zb_t (cnt_in hn q)]; exact k)
theorem X11_man_f (hK : zK h 200 = 12) (hc : zI h 200 17 = nI n) (q : ¬ (0 ≤ a ∧ a ≤ nI n - 1)) (k : ψ 0 h) : ZcI mX11_isMan [.ref 200, .int a] h ψ := s_X11_isMan hK (by rw [hc, zb_f q]; exact k)
theorem X10_harm_t (hK : zK h 10 = 11) (hc : zI h 10 14 = nI n) (hn : n < 2 ^ 31) (q : t < n) (k : ψ 1 h) : ZcI mX10_isHarm [.ref 10, .int (nI t)] h ψ := s_X10_isHarm hK (by rw [hc, zb_t (cnt_in hn q)]; exact k)
theorem X10_harm_f (hK : zK h 10 = 11) (hc : zI h 10 14 = nI n) (q : ¬ (0 ≤ a ∧ a ≤ nI n - 1)) (k : ψ 0 h) : ZcI mX10_isHarm [.ref 10, .int a] h ψ := s_X10_isHarm hK (by rw [hc, zb_f q]; exact k)
theorem X11_harm_t (hK : zK h 200 = 12) (hc : zI h 200 53 = nI n) (hn : n < 2 ^ 31) (q : t < n) (k : ψ 1 h) : ZcI mX11_isHarm [.ref 200, .int (nI t)] h ψ := s_X11_isHarm hK (by rw [hc, zb_t (cnt_in hn q)]; exact k)
theorem X11_harm_f (hK : zK h 200 = 12) (hc : zI h 200 53 = nI n) (q : ¬ (0 ≤ a ∧ a ≤ nI n - 1)) (k : ψ 0 h) : ZcI mX11_isHarm [.ref 200, .int a] h ψ := s_X11_isHarm hK (by rw [hc, zb_f q]; exact k)
end TF
theorem nI_mul (a b : Nat) : nI a * nI b = nI (a * b) := by unfold nI; rw [← Int32.ofNat_mul]
theorem nI_lit3 : (3 : Int32) = nI 3 := rfl
theorem nI_lit5 : (5 : Int32) = nI 5 := rfl
theorem zI_sIn {h : ZH} {a i b j : Nat} {v : Int32} (e : ¬ (b = a ∧ j = i)) : zI (zsI h a i v) b j = zI h b j := if_neg e
