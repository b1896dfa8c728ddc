/-- between two numbers -/
def rg (v : Int32) (a b : Int) : Prop := a ≤ v.toInt ∧ v.toInt ≤ b
/-! texts: how many lie on the pile, how many digits of a number have been said -/
abbrev isDg (c : Int32) : Prop := 48 ≤ c ∧ c ≤ 57
abbrev isFa (c : Int32) : Prop := c = 97 ∨ c = 121 ∨ c = 116 ∨ c = 107 ∨ c = 102
abbrev isAc (c : Int32) : Prop := c = 43 ∨ c = 45 ∨ c = 42 ∨ c = 60 ∨ c = 62 ∨ c = 61 ∨ c = 38 ∨ c = 124
def stp (m d : Nat) (c : Int32) : Option (Nat × Nat) :=
  if 0 < d then (if c = 44 then some (m, 0) else if isDg c ∧ d < 4 then some (m, d + 1) else none)
  else if isDg c ∨ isFa c then (if m < 5 then some (m + 1, if isDg c then 1 else 0) else none)
  else if isAc c then (if 1 < m then some (m - 1, 0) else none)
  else if c = 33 then (if 0 < m then some (m, 0) else none) else none
def trun (f : Nat → Int32) : Nat → Option (Nat × Nat)
  | 0 => some (0, 0)
  | n + 1 => (trun f n).bind (fun s => stp s.1 s.2 (f n))
def okT (f : Nat → Int32) (c : Nat) : Prop := trun f c = some (1, 0)
/-! THE STATE: what the class's cells and the model's say of each other -/
def JC (h : ZH) (i np nm nh nw ns mo : Nat) : Prop :=
  (zI h 200 9 = nI np ∧ zI h 10 12 = nI np ∧ zI h 60 5 = nI np ∧ np ≤ 8) ∧ (zI h 200 17 = nI nm ∧ zI h 10 13 = nI nm ∧ nm ≤ 24) ∧ (zI h 200 53 = nI nh ∧ zI h 10 14 = nI nh ∧ nh ≤ 10) ∧
  (zI h 200 39 = nI nw ∧ zI h 60 9 = nI nw ∧ nw ≤ 12) ∧ (zI h 221 3 = nI ns ∧ zI h 24 1 = nI ns ∧ ns ≤ 40) ∧ (zI h 200 40 = nI mo ∧ zI h 60 10 = nI mo ∧ mo ≤ 240 * i) ∧ zI h 60 11 = zI h 200 41 ∧ zI h 60 12 = zI h 200 42
def JT (h : ZH) : Prop := ∀ t, t < 6 → zI h (12 + t) 0 = zI h 201 t ∧ zI h (12 + t) 1 = zI h 202 t ∧ rg (zI h 201 t) 0 99 ∧ rg (zI h 202 t) 0 99
def JP (h : ZH) (np : Nat) : Prop :=
  (∀ p, p < np → zI h (301 + 3 * p) 0 = zI h 203 p ∧ zI h (301 + 3 * p) 1 = zI h 204 p ∧ zI h (300 + 3 * p) 1 = zI h 205 p ∧ zI h (300 + 3 * p) 2 = zI h 206 p ∧ zI h (300 + 3 * p) 3 = zI h 207 p ∧ zI h (300 + 3 * p) 5 = zI h 208 p ∧ zI h (300 + 3 * p) 6 = zI h 248 p ∧ zI h (300 + 3 * p) 7 = zI h 249 p ∧
    rg (zI h 203 p) 0 99 ∧ rg (zI h 204 p) 0 99 ∧ rg (zI h 205 p) 0 1000 ∧ rg (zI h 206 p) 0 200 ∧ rg (zI h 207 p) 1 1000 ∧ (zI h 208 p = 0 ∨ zI h 208 p = 1) ∧ rg (zI h 248 p) 0 99 ∧ rg (zI h 249 p) 0 99) ∧
  (∀ p t, p < np → t < 3 → zI h (302 + 3 * p) t = zI h 209 (3 * p + t) ∧ rg (zI h 209 (3 * p + t)) 0 9) ∧ (∀ p, np ≤ p → p < 8 → zI h 248 p = 0) ∧ ∀ p t, np ≤ p → p < 8 → t < 3 → zI h 209 (3 * p + t) = 0
def JM (h : ZH) (np nm : Nat) : Prop := ∀ m, m < nm →
  zI h (400 + m) 0 = zI h 211 m ∧ zI h (400 + m) 1 = zI h 212 m ∧ zI h (400 + m) 2 = zI h 213 m ∧ zI h (400 + m) 3 = zI h 214 m ∧ zI h (400 + m) 4 = zI h 215 m ∧ zI h (400 + m) 5 = zI h 216 m ∧ zI h (400 + m) 6 = zI h 217 m ∧
  rg (zI h 211 m) 14 70 ∧ rg (zI h 212 m) 0 2 ∧ rg (zI h 213 m) 0 50 ∧ rg (zI h 214 m) 0 5 ∧ (zI h 216 m = 0 ∨ zI h 216 m = 1) ∧ rg (zI h 217 m) 0 4 ∧ ((zI h 217 m = 0 ∧ ∃ p, p < np ∧ zI h 215 m = nI p) ∨ (zI h 217 m ≠ 0 ∧ zI h 215 m = -6))
def sLo (k : Nat) : Int32 := ([50, 0, 0, 0, 1, 1, 0] : List Int32).getD k 0
def sHi (k : Nat) : Int32 := ([70, 200, 10000, 5000, 8, 5, 50] : List Int32).getD k 0
def JS (h : ZH) : Prop := ∀ k, k < 7 → zI h 23 k = zI h 219 k ∧ sLo k ≤ zI h 219 k ∧ zI h 219 k ≤ sHi k ∧ zI h 2 k = sLo k ∧ zI h 3 k = sHi k
def JG (h : ZH) (ns : Nat) : Prop := ∀ i, i < ns → zI h 25 i = zI h 220 (120 + i) ∧ rg (zI h 220 (120 + i)) 33 126
def JR (h : ZH) : Prop := ∀ r, r < 3 → (zI h 221 r = -6 ∧ zI h (27 + 2 * r) 1 = 0) ∨
  ∃ c, 1 ≤ c ∧ c ≤ 40 ∧ zI h 221 r = nI c ∧ zI h (27 + 2 * r) 1 = nI c ∧ (∀ i, i < c → zI h (28 + 2 * r) i = zI h 220 (40 * r + i)) ∧ okT (fun i => zI h 220 (40 * r + i)) c
def JW (h : ZH) (np nw : Nat) : Prop :=
  (∀ p, p < 8 → zI h 62 p = zI h 233 p ∧ zI h 63 p = zI h 234 p ∧ (np ≤ p → zI h 233 p = 0 ∧ zI h 234 p = 0 ∧ zI h 64 p = 0)) ∧
  (∀ p, p < np → zI h 61 p = zI h 207 p ∧ zI h 64 p = zI h 235 p ∧ (zI h 235 p = 0 ∨ zI h 235 p = 1) ∧ zI h 65 p = zI h 236 p ∧ (zI h 236 p = -6 ∨ 0 ≤ (zI h 236 p).toInt) ∧ rg (zI h 233 p) 0 100 ∧ 0 ≤ (zI h 234 p).toInt ∧ (zI h 234 p).toInt ≤ (zI h 207 p).toInt) ∧
  ∀ w, w < nw → zI h 66 w = zI h 237 w ∧ zI h 67 w = zI h 238 w ∧ zI h 68 w = zI h 239 w ∧ (∃ a b, a < np ∧ b < np ∧ a ≠ b ∧ zI h 237 w = nI a ∧ zI h 238 w = nI b) ∧ rg (zI h 239 w) 0 1000
def JV (h : ZH) : Prop := ∀ r t, r < 3 → t < 5 → zI h (90 + r) t = zI h 245 (5 * r + t) ∧ rg (zI h 245 (5 * r + t)) 0 200
def JH (h : ZH) (nh : Nat) : Prop := ∀ k, k < nh → zI h (501 + 2 * k) 0 = zI h 250 k ∧ zI h (501 + 2 * k) 1 = zI h 251 k ∧ zI h (500 + 2 * k) 1 = zI h 252 k ∧ zI h (500 + 2 * k) 2 = zI h 253 k ∧
  rg (zI h 250 k) 0 99 ∧ rg (zI h 251 k) 0 99 ∧ rg (zI h 252 k) 0 99 ∧ rg (zI h 253 k) 0 100000
def Jn (h : ZH) (i np nm nh nw ns mo : Nat) : Prop := Sh h np nm nh ∧ JC h i np nm nh nw ns mo ∧ JT h ∧ JP h np ∧ JM h np nm ∧ JS h ∧ JG h ns ∧ JR h ∧ JW h np nw ∧ JV h ∧ JH h nh
section JCG
variable {h h1 : ZH} {i np nm nh nw ns mo : Nat}
theorem JC.congr (e : ∀ a j, (a = 200 ∧ (j = 9 ∨ j = 17 ∨ j = 39 ∨ j = 40 ∨ j = 41 ∨ j = 42 ∨ j = 53)) ∨ (a = 10 ∧ (j = 12 ∨ j = 13 ∨ j = 14)) ∨ (a = 60 ∧ (j = 5 ∨ j = 9 ∨ j = 10 ∨ j = 11 ∨ j = 12)) ∨ (a = 221 ∧ j = 3) ∨ (a = 24 ∧ j = 1) → zI h1 a j = zI h a j) (k : JC h i np nm nh nw ns mo) : JC h1 i np nm nh nw ns mo := by
  unfold JC at k ⊢
  rw [e 200 9 (by omega), e 10 12 (by omega), e 60 5 (by omega), e 200 17 (by omega), e 10 13 (by omega), e 200 53 (by omega), e 10 14 (by omega), e 200 39 (by omega), e 60 9 (by omega), e 221 3 (by omega), e 24 1 (by omega), e 200 40 (by omega), e 60 10 (by omega), e 60 11 (by omega), e 200 41 (by omega), e 60 12 (by omega), e 200 42 (by omega)]
  exact k
theorem JT.congr (e : ∀ a j, (12 ≤ a ∧ a < 18) ∨ a = 201 ∨ a = 202 → zI h1 a j = zI h a j) (k : JT h) : JT h1 := fun t ht => by
  rw [e (12 + t) 0 (by omega), e (12 + t) 1 (by omega), e 201 t (by omega), e 202 t (by omega)]
  exact k t ht
theorem JP.congr (e : ∀ a j, (300 ≤ a ∧ a < 324) ∨ (203 ≤ a ∧ a ≤ 209) ∨ a = 248 ∨ a = 249 → zI h1 a j = zI h a j) (hn : np ≤ 8) (k : JP h np) : JP h1 np := by
  obtain ⟨k1, k2, k3, k4⟩ := k
  refine ⟨fun p hp => ?_, fun p t hp ht => ?_, fun p h1 h2 => ?_, fun p t h1 h2 h3 => ?_⟩
  · rw [e (301 + 3 * p) 0 (by omega), e (301 + 3 * p) 1 (by omega), e (300 + 3 * p) 1 (by omega), e (300 + 3 * p) 2 (by omega), e (300 + 3 * p) 3 (by omega), e (300 + 3 * p) 5 (by omega), e (300 + 3 * p) 6 (by omega), e (300 + 3 * p) 7 (by omega), e 203 p (by omega), e 204 p (by omega), e 205 p (by omega), e 206 p (by omega), e 207 p (by omega), e 208 p (by omega), e 248 p (by omega), e 249 p (by omega)]
    exact k1 p hp
  · rw [e (302 + 3 * p) t (by omega), e 209 _ (by omega)]
    exact k2 p t hp ht
  · rw [e 248 p (by omega)]; exact k3 p h1 h2
  · rw [e 209 _ (by omega)]; exact k4 p t h1 h2 h3
theorem JM.congr (e : ∀ a j, (400 ≤ a ∧ a < 424) ∨ (211 ≤ a ∧ a ≤ 217) → zI h1 a j = zI h a j) (hn : nm ≤ 24) (k : JM h np nm) : JM h1 np nm := fun m hm => by
  rw [e (400 + m) 0 (by omega), e (400 + m) 1 (by omega), e (400 + m) 2 (by omega), e (400 + m) 3 (by omega), e (400 + m) 4 (by omega), e (400 + m) 5 (by omega), e (400 + m) 6 (by omega), e 211 m (by omega), e 212 m (by omega), e 213 m (by omega), e 214 m (by omega), e 215 m (by omega), e 216 m (by omega), e 217 m (by omega)]
  exact k m hm
theorem JS.congr (e : ∀ a j, a = 23 ∨ a = 219 ∨ a = 2 ∨ a = 3 → zI h1 a j = zI h a j) (k : JS h) : JS h1 := fun m hm => by
  rw [e 23 m (by omega), e 219 m (by omega), e 2 m (by omega), e 3 m (by omega)]
  exact k m hm
theorem JG.congr (e : ∀ a j, a = 25 ∨ (a = 220 ∧ 120 ≤ j) → zI h1 a j = zI h a j) (k : JG h ns) : JG h1 ns := fun m hm => by
  rw [e 25 m (by omega), e 220 (120 + m) (by omega)]
  exact k m hm
theorem trun_congr {f g : Nat → Int32} : ∀ {n : Nat}, (∀ i, i < n → f i = g i) → trun f n = trun g n
  | 0, _ => rfl
  | n + 1, e => by
    show (trun f n).bind _ = (trun g n).bind _
    rw [trun_congr (fun i hi => e i (by omega)), e n (by omega)]
theorem okT_congr {f g : Nat → Int32} {n : Nat} (e : ∀ i, i < n → f i = g i) : okT f n ↔ okT g n := by unfold okT; rw [trun_congr e]
theorem JR.congr (e : ∀ a j, (27 ≤ a ∧ a ≤ 32) ∨ (a = 220 ∧ j < 120) ∨ (a = 221 ∧ j < 3) → zI h1 a j = zI h a j) (k : JR h) : JR h1 := fun r hr => by
  rcases k r hr with ⟨k1, k2⟩ | ⟨c, c1, c2, c3, c4, c5, c6⟩
  · exact Or.inl ⟨by rw [e 221 r (by omega)]; exact k1, by rw [e _ 1 (by omega)]; exact k2⟩
  · refine Or.inr ⟨c, c1, c2, by rw [e 221 r (by omega)]; exact c3, by rw [e _ 1 (by omega)]; exact c4, fun i hi => ?_, ?_⟩
    · rw [e _ i (by omega), e 220 _ (by omega)]; exact c5 i hi
    · exact (okT_congr (fun i hi => e 220 _ (by omega))).mpr c6
theorem JW.congr (e : ∀ a j, (61 ≤ a ∧ a ≤ 68) ∨ a = 207 ∨ (233 ≤ a ∧ a ≤ 239) → zI h1 a j = zI h a j) (k : JW h np nw) : JW h1 np nw := by
  obtain ⟨k1, k2, k3⟩ := k
  refine ⟨fun p hp => ?_, fun p hp => ?_, fun w hw => ?_⟩
  · rw [e 62 p (by omega), e 63 p (by omega), e 64 p (by omega), e 233 p (by omega), e 234 p (by omega)]; exact k1 p hp
  · rw [e 61 p (by omega), e 64 p (by omega), e 65 p (by omega), e 207 p (by omega), e 233 p (by omega), e 234 p (by omega), e 235 p (by omega), e 236 p (by omega)]; exact k2 p hp
  · rw [e 66 w (by omega), e 67 w (by omega), e 68 w (by omega), e 237 w (by omega), e 238 w (by omega), e 239 w (by omega)]; exact k3 w hw
theorem JV.congr (e : ∀ a j, (90 ≤ a ∧ a ≤ 92) ∨ a = 245 → zI h1 a j = zI h a j) (k : JV h) : JV h1 := fun r t hr ht => by
  rw [e (90 + r) t (by omega), e 245 _ (by omega)]; exact k r t hr ht
theorem JH.congr (e : ∀ a j, (500 ≤ a ∧ a < 520) ∨ (250 ≤ a ∧ a ≤ 253) → zI h1 a j = zI h a j) (hn : nh ≤ 10) (k : JH h nh) : JH h1 nh := fun m hm => by
  rw [e (501 + 2 * m) 0 (by omega), e (501 + 2 * m) 1 (by omega), e (500 + 2 * m) 1 (by omega), e (500 + 2 * m) 2 (by omega), e 250 m (by omega), e 251 m (by omega), e 252 m (by omega), e 253 m (by omega)]
  exact k m hm
/-- the cells that only serve while a call runs -/
def scr (a j : Nat) : Prop := (33 ≤ a ∧ a ≤ 58) ∨ (70 ≤ a ∧ a ≤ 78) ∨ (80 ≤ a ∧ a ≤ 88) ∨ (100 ≤ a ∧ a ≤ 168) ∨ (a = 200 ∧ (j = 22 ∨ j = 24 ∨ j = 25 ∨ j = 28 ∨ j = 46)) ∨ a = 222 ∨ a = 224 ∨ (227 ≤ a ∧ a ≤ 232) ∨ a = 244 ∨ a = 246
/-- nothing but such cells has changed -/
def zsame (h h1 : ZH) : Prop := zK h1 = zK h ∧ zN h1 = zN h ∧ zR h1 = zR h ∧ ∀ a j, ¬ scr a j → zI h1 a j = zI h a j
theorem zsame.rfl' {h : ZH} : zsame h h := ⟨rfl, rfl, rfl, fun _ _ _ => rfl⟩
theorem zsame.trans {h h1 h2 : ZH} (k : zsame h h1) (k2 : zsame h1 h2) : zsame h h2 := ⟨k2.1.trans k.1, k2.2.1.trans k.2.1, k2.2.2.1.trans k.2.2.1, fun a j q => (k2.2.2.2 a j q).trans (k.2.2.2 a j q)⟩
theorem zsame.sI {h : ZH} {a j : Nat} {v : Int32} (s : scr a j) : zsame h (zsI h a j v) := ⟨rfl, rfl, rfl, fun b i q => if_neg (fun x => q (by rw [x.1, x.2]; exact s))⟩
theorem zsame.sL {h : ZH} {a j : Nat} {v : Int64} : zsame h (zsL h a j v) := ⟨rfl, rfl, rfl, fun _ _ _ => rfl⟩
theorem zsame.Sh {h h1 : ZH} (k : zsame h h1) (S : Sh h np nm nh) : Sh h1 np nm nh := S.same k.1 k.2.1 k.2.2.1
theorem Jn.same (J : Jn h i np nm nh nw ns mo) (k : zsame h h1) : Jn h1 i np nm nh nw ns mo := by
  obtain ⟨S, c, t, p, m, s, g, r, w, v, x⟩ := J
  have e := k.2.2.2
  exact ⟨k.Sh S, c.congr (fun a j q => e a j (by unfold scr; omega)), t.congr (fun a j q => e a j (by unfold scr; omega)), p.congr (fun a j q => e a j (by unfold scr; omega)) c.1.2.2.2, m.congr (fun a j q => e a j (by unfold scr; omega)) c.2.1.2.2, s.congr (fun a j q => e a j (by unfold scr; omega)), g.congr (fun a j q => e a j (by unfold scr; omega)), r.congr (fun a j q => e a j (by unfold scr; omega)), w.congr (fun a j q => e a j (by unfold scr; omega)), v.congr (fun a j q => e a j (by unfold scr; omega)), x.congr (fun a j q => e a j (by unfold scr; omega)) c.2.2.1.2.2⟩
end JCG
