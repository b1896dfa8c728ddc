section TOWNS
variable {h : ZH} {ψ : Int32 → ZH → Prop} {np nm nh : Nat}
/-- a man is at a pit, or he isn't -/
theorem man_pit (M : JM h np nm) (hn : np ≤ 8) {m : Nat} (hm : m < nm) : (zI h 217 m = 0 ∧ ¬ zI h 215 m < 0 ∧ (0 ≤ zI h 215 m ∧ zI h 215 m ≤ nI np - 1) ∧ ∃ p, p < np ∧ zI h 215 m = nI p) ∨ (¬ zI h 217 m = 0 ∧ zI h 215 m < 0 ∧ ¬ (0 ≤ zI h 215 m ∧ zI h 215 m ≤ nI np - 1) ∧ zI h 215 m = -6) := by
  rcases (M m hm).2.2.2.2.2.2.2.2.2.2.2.2.2 with ⟨e, p, hp, e2⟩ | ⟨e, e2⟩
  · exact Or.inl ⟨e, by rw [e2]; exact nI_pos (by omega), by rw [e2]; exact cnt_in (by omega) hp, p, hp, e2⟩
  · exact Or.inr ⟨e, by rw [e2]; decide, by rw [e2]; exact fun q => absurd q.1 (by decide), e2⟩
def fWk (h : ZH) (t : Int32) : Nat → Int32 → Int32 := fun m a => if zI h 214 m = t ∧ zI h 217 m = 0 then a + 1 else a
def fDw (h : ZH) (t : Int32) : Nat → Int32 → Int32 := fun m a => if zI h 214 m = t ∧ ¬ zI h 217 m = 4 then a + 1 else a
def fPo (h : ZH) (t : Int32) : Nat → Int32 → Int32 := fun m a => if zI h 214 m = t ∧ zI h 217 m = 0 then a ||| ((1 : Int32) <<< (zI h 215 m &&& 31)) else a
theorem s_X10_workersOf {t : Int32} (H : LMe h np nm nh) (k : ψ (fold (fWk h t) nm) h) : ZcI mX10_workersOf [.ref 10, .int t] h ψ := by
  obtain ⟨S, c, -, hn, M⟩ := H
  refine wX10_workersOf (down (I := fun k => Zt mX10_workersOf (zPI ψ) 0 0 4 [some (.ref 10), some (.int t), some (.int (fold (fWk h t) k)), some (.int (nI k))] [] h) (n := nm) ?_ (fun m hm q => ?_))
  · refine wX10_workersOf_4 ?_
    rw [c]
    exact ⟨(shX S).1, fun _ => k, fun q => absurd (Int32.le_refl _) q⟩
  · refine wX10_workersOf_4 ?_
    have e1 := nI_clamp (n := m) (by omega)
    have v1 : vp_in (nI m) 24 := vp_in_nI (by omega) (by omega)
    have hm1 := shMan S hm
    have Mm := M m hm
    have ef : fold (fWk h t) (m + 1) = if zI h 214 m = t ∧ zI h 217 m = 0 then fold (fWk h t) m + 1 else fold (fWk h t) m := rfl
    simp only [shX S, c, hm1, e1, v1, Mm, ne_eq, nI_1]
    refine ⟨trivial, Bf (cnt_le (by omega) hm) ⟨by decide, trivial, trivial, by omega, trivial, fun z => ?_, fun z => ⟨fun y => ?_, fun y => ?_⟩⟩⟩
    · rw [ef, if_neg (fun x => z x.1)] at q; exact q
    · rw [ef, if_neg (fun x => y x.2)] at q; exact q
    · rw [ef, if_pos ⟨z, y⟩] at q; exact q
theorem s_X10_dwellersOf {t : Int32} (H : LMe h np nm nh) (k : ψ (fold (fDw h t) nm) h) : ZcI mX10_dwellersOf [.ref 10, .int t] h ψ := by
  obtain ⟨S, c, -, hn, M⟩ := H
  refine wX10_dwellersOf (down (I := fun k => Zt mX10_dwellersOf (zPI ψ) 0 0 4 [some (.ref 10), some (.int t), some (.int (fold (fDw h t) k)), some (.int (nI k))] [] h) (n := nm) ?_ (fun m hm q => ?_))
  · refine wX10_dwellersOf_4 ?_
    rw [c]
    exact ⟨(shX S).1, fun _ => k, fun q => absurd (Int32.le_refl _) q⟩
  · refine wX10_dwellersOf_4 ?_
    have e1 := nI_clamp (n := m) (by omega)
    have v1 : vp_in (nI m) 24 := vp_in_nI (by omega) (by omega)
    have hm1 := shMan S hm
    have Mm := M m hm
    have ef : fold (fDw h t) (m + 1) = if zI h 214 m = t ∧ ¬ zI h 217 m = 4 then fold (fDw h t) m + 1 else fold (fDw h t) m := rfl
    simp only [shX S, c, hm1, e1, v1, Mm, ne_eq, nI_1]
    refine ⟨trivial, Bf (cnt_le (by omega) hm) ⟨by decide, trivial, trivial, by omega, trivial, fun z => ?_, fun z => ⟨fun y => ?_, fun y => ?_⟩⟩⟩
    · rw [ef, if_neg (fun x => z x.1)] at q; exact q
    · rw [ef, if_neg (fun x => x.2 y)] at q; exact q
    · rw [ef, if_pos ⟨z, y⟩] at q; exact q
theorem s_X10_pitsOf {t : Int32} (H : LMe h np nm nh) (hp : zI h 10 12 = nI np) (hn8 : np ≤ 8) (k : ψ (fold (fPo h t) nm) h) : ZcI mX10_pitsOf [.ref 10, .int t] h ψ := by
  obtain ⟨S, c, -, hn, M⟩ := H
  refine wX10_pitsOf (down (I := fun k => Zt mX10_pitsOf (zPI ψ) 0 0 4 [some (.ref 10), some (.int t), some (.int (fold (fPo h t) k)), some (.int (nI k))] [] h) (n := nm) ?_ (fun m hm q => ?_))
  · refine wX10_pitsOf_4 ?_
    rw [c]
    exact ⟨(shX S).1, fun _ => k, fun q => absurd (Int32.le_refl _) q⟩
  · refine wX10_pitsOf_4 ?_
    have e1 := nI_clamp (n := m) (by omega)
    have v1 : vp_in (nI m) 24 := vp_in_nI (by omega) (by omega)
    have hm1 := shMan S hm
    have Mm := M m hm
    have kX : zK h 10 = 11 := (shX S).1
    have ef : fold (fPo h t) (m + 1) = if zI h 214 m = t ∧ zI h 217 m = 0 then fold (fPo h t) m ||| ((1 : Int32) <<< (zI h 215 m &&& 31)) else fold (fPo h t) m := rfl
    simp only [shX S, c, hm1, e1, v1, Mm, ne_eq, nI_1]
    refine ⟨trivial, Bf (cnt_le (by omega) hm) ⟨by decide, trivial, trivial, by omega, trivial, fun z => ?_, fun z => ?_⟩⟩
    · rw [ef, if_neg (fun x => z x.1)] at q; exact q
    · rcases man_pit M hn8 hm with ⟨a1, a2, a3, p, a4, a5⟩ | ⟨a1, a2, a3, a4⟩
      · rw [a5]
        refine X10_pit_t kX hp (by omega) a4 (Z1 ?_)
        simp only [shX S, hm1, e1, v1, Mm, ne_eq, forall_eq]
        rw [ef, if_pos ⟨z, a1⟩] at q
        exact ⟨trivial, by decide, trivial, trivial, by omega, trivial, q⟩
      · refine X10_pit_f kX hp a3 (Z0 ?_)
        rw [ef, if_neg (fun x => a1 x.2)] at q; exact q
theorem s_X11_pitsOf {t : Int32} (S : Sh h np nm nh) (c : zI h 200 17 = nI nm) (hn : nm ≤ 24) (M : JM h np nm) (hn8 : np ≤ 8) (k : ψ (fold (fPo h t) nm) h) : ZcI mX11_pitsOf [.ref 200, .int t] h ψ := by
  refine wX11_pitsOf (down (I := fun k => Zt mX11_pitsOf (zPI ψ) 0 0 4 [some (.ref 200), some (.int t), some (.int (fold (fPo h t) k)), some (.int (nI k))] [] h) (n := nm) ?_ (fun m hm q => ?_))
  · refine wX11_pitsOf_4 ?_
    rw [c]
    exact ⟨(shM S).1, fun _ => k, fun q => absurd (Int32.le_refl _) q⟩
  · refine wX11_pitsOf_4 ?_
    have e1 := nI_clamp (n := m) (by omega)
    have v1 : vp_in (nI m) 24 := vp_in_nI (by omega) (by omega)
    have ef : fold (fPo h t) (m + 1) = if zI h 214 m = t ∧ zI h 217 m = 0 then fold (fPo h t) m ||| ((1 : Int32) <<< (zI h 215 m &&& 31)) else fold (fPo h t) m := rfl
    simp only [shM S, c, e1, v1, ne_eq, nI_1, i_or0, forall_eq]
    refine ⟨trivial, Bf (cnt_le (by omega) hm) ⟨by decide, trivial, trivial, fun z => ?_, fun z => ⟨by decide, trivial, trivial, fun y => ?_, fun y => ?_⟩⟩⟩
    · rw [ef, if_neg (fun x => z x.1)] at q; exact q
    · rcases man_pit M hn8 hm with ⟨a1, a2, -⟩ | ⟨a1, a2, -⟩
      · exact absurd y a2
      · rw [ef, if_neg (fun x => a1 x.2)] at q; exact q
    · rcases man_pit M hn8 hm with ⟨a1, a2, -⟩ | ⟨a1, a2, -⟩
      · rw [ef, if_pos ⟨z, a1⟩] at q; exact q
      · exact absurd a2 y
theorem s_X11_work_32 {t l2 : Int32} (S : Sh h np nm nh) (c : zI h 200 17 = nI nm) (hn : nm ≤ 24) (M : JM h np nm) (hn8 : np ≤ 8) (k : ((¬ l2 = 0 → ((¬ l2 = 1 → ψ (fold (fPo h t) nm) h) ∧ (l2 = 1 → ψ (fold (fDw h t) nm) h))) ∧ (l2 = 0 → ψ (fold (fWk h t) nm) h))) : Zt mX11_work (zPI ψ) 0 0 32 [some (.ref 200), some (.int t), some (.int l2), some (.int 0), some (.int 0), some (.int 0)] [] h := by
  refine down (I := fun k => Zt mX11_work (zPI ψ) 0 0 32 [some (.ref 200), some (.int t), some (.int l2), some (.int (fold (fWk h t) k)), some (.int (fold (fDw h t) k)), some (.int (nI k))] [] h) (n := nm) ?_ (fun m hm q => ?_)
  · refine wX11_work_32 ?_
    rw [c]
    exact ⟨(shM S).1, fun _ => ⟨fun z => ⟨fun y => s_X11_pitsOf S c hn M hn8 ((k.1 z).1 y), (k.1 z).2⟩, k.2⟩, fun q => absurd (Int32.le_refl _) q⟩
  · have e1 := nI_clamp (n := m) (by omega)
    have v1 : vp_in (nI m) 24 := vp_in_nI (by omega) (by omega)
    have ew : fold (fWk h t) (m + 1) = if zI h 214 m = t ∧ zI h 217 m = 0 then fold (fWk h t) m + 1 else fold (fWk h t) m := rfl
    have ed : fold (fDw h t) (m + 1) = if zI h 214 m = t ∧ ¬ zI h 217 m = 4 then fold (fDw h t) m + 1 else fold (fDw h t) m := rfl
    have mid : ∀ s0 : Int32, fold (fWk h t) m + s0 = fold (fWk h t) (m + 1) → Zt mX11_work (zPI ψ) 0 0 68 [some (.ref 200), some (.int t), some (.int l2), none, some (.int (fold (fDw h t) m)), some (.int (nI m))] [.int s0, .int (fold (fWk h t) m)] h := by
      intro s0 es
      refine wX11_work_68 ?_
      simp only [shM S, c, e1, v1, ne_eq, nI_1, i_add0, es]
      refine ⟨trivial, by decide, trivial, trivial, fun z => ?_, fun z => ⟨by decide, trivial, trivial, fun y => ?_, fun y => ?_⟩⟩
      · rw [ed, if_neg (fun x => z x.1)] at q; exact q
      · rw [ed, if_neg (fun x => x.2 y)] at q; exact q
      · rw [ed, if_pos ⟨z, y⟩] at q; exact q
    refine wX11_work_32 ?_
    refine ⟨(shM S).1, fun z => absurd z (by rw [c]; exact cnt_le (by omega) hm), fun _ => ?_⟩
    simp only [shM S, e1, v1, ne_eq]
    refine ⟨by decide, trivial, trivial, fun z => ?_, fun z => ⟨by decide, trivial, trivial, fun y => ?_, fun y => ?_⟩⟩
    · exact mid 0 (by rw [ew, if_neg (fun x => z x.1), i_add0])
    · rcases man_pit M hn8 hm with ⟨a1, a2, -⟩ | ⟨a1, a2, -⟩
      · exact absurd y a2
      · exact mid 0 (by rw [ew, if_neg (fun x => a1 x.2), i_add0])
    · rcases man_pit M hn8 hm with ⟨a1, a2, -⟩ | ⟨a1, a2, -⟩
      · exact mid 1 (by rw [ew, if_pos ⟨z, a1⟩])
      · exact absurd a2 y
variable {i L : Nat} {xs : Nat → Int32}
set_option maxHeartbeats 4000000 in
theorem op_work {l1 l2 : Int32} (J : Jx h i L xs) : ZcI mX10_work [.ref 10, .int l1, .int l2] h (fun v h1 => ZcI mX11_work [.ref 200, .int l1, .int l2] h1 (fun v' h2 => v = v' ∧ Jx h2 (i + 1) L xs)) := by
  have J0 := J
  obtain ⟨np, nm, nh, nw, ns, mo, ⟨S, C, T, P, M, St, G, R, W, V, X⟩, q1, q2⟩ := J
  have kX : zK h 10 = 11 := (shX S).1
  have kM : zK h 200 = 12 := (shM S).1
  have cp := C.1
  have cm := C.2.1
  have ch := C.2.2.1
  have cw := C.2.2.2.1
  have cs := C.2.2.2.2.1
  have b1 : np < 2 ^ 31 := by omega
  have b2 : nm < 2 ^ 31 := by omega
  have b3 : nh < 2 ^ 31 := by omega
  have HM : LMe h np nm nh := ⟨S, cm.2.1, cm.1, cm.2.2, M⟩
  by_cases c1 : 0 ≤ l1 ∧ l1 ≤ 5
  rotate_left
  · exact wX10_work (X10_town_f c1 (N0 (wX11_work (X11_town_f c1 (N0 ⟨rfl, J0.up⟩)))))
  refine wX10_work (X10_town_t c1 (N1 ?_))
  have U : ∀ v : Int32, (0 ≤ l2 ∧ l2 ≤ 2) → ((¬ l2 = 0 → ((¬ l2 = 1 → v = fold (fPo h l1) nm) ∧ (l2 = 1 → v = fold (fDw h l1) nm))) ∧ (l2 = 0 → v = fold (fWk h l1) nm)) → ZcI mX11_work [.ref 200, .int l1, .int l2] h (fun v' h2 => v = v' ∧ Jx h2 (i + 1) L xs) := fun v c2 q =>
    wX11_work (X11_town_t c1 (N1 (X11_in_t c2 rfl rfl (N1 (s_X11_work_32 S cm.1 cm.2.2 M cp.2.2.2 ⟨fun z => ⟨fun y => ⟨(q.1 z).1 y, J0.up⟩, fun y => ⟨(q.1 z).2 y, J0.up⟩⟩, fun z => ⟨q.2 z, J0.up⟩⟩)))))
  refine ⟨fun z => ⟨kX, s_X10_workersOf HM (U _ ?_ ?_)⟩, fun z => ⟨kX, s_X10_dwellersOf HM (U _ ?_ ?_)⟩, fun z => ⟨kX, s_X10_pitsOf HM cp.2.1 cp.2.2.2 (U _ ?_ ?_)⟩, fun z0 z1 z2 => ?_⟩
  · subst z; decide
  · subst z; exact ⟨fun q => absurd rfl q, fun _ => rfl⟩
  · subst z; decide
  · subst z; exact ⟨fun _ => ⟨fun q => absurd rfl q, fun _ => rfl⟩, fun q => absurd q (by decide)⟩
  · subst z; decide
  · subst z; exact ⟨fun _ => ⟨fun _ => rfl, fun q => absurd q (by decide)⟩, fun q => absurd q (by decide)⟩
  · have c2 : ¬ (0 ≤ l2 ∧ l2 ≤ 2) := fun q => by
      obtain ⟨t, ht, e⟩ := in_nI (n := 2) (by decide) q
      have : t = 0 ∨ t = 1 ∨ t = 2 := by omega
      rcases this with rfl | rfl | rfl
      · exact z0 e
      · exact z1 e
      · exact z2 e
    exact wX11_work (X11_town_t c1 (N1 (X11_in_f c2 rfl rfl (N0 ⟨rfl, J0.up⟩))))
/-! lone -/
theorem bit_or {a p : Nat} (ha : a < 256) (hp : p < 8) : ∃ b, b < 256 ∧ nI a ||| ((1 : Int32) <<< (nI p &&& 31)) = nI b := by
  have : ∀ p, p < 8 → ∀ a, a < 256 → a ||| 2 ^ p < 256 ∧ nI a ||| ((1 : Int32) <<< (nI p &&& 31)) = nI (a ||| 2 ^ p) := by decide +kernel
  exact ⟨_, this p hp a ha⟩
theorem fPo_small {t : Int32} (M : JM h np nm) (hn8 : np ≤ 8) : ∀ k, k ≤ nm → ∃ b, b < 256 ∧ fold (fPo h t) k = nI b
  | 0, _ => ⟨0, by omega, rfl⟩
  | k + 1, hk => by
    obtain ⟨b, hb, e⟩ := fPo_small (t := t) M hn8 k (by omega)
    have ef : fold (fPo h t) (k + 1) = if zI h 214 k = t ∧ zI h 217 k = 0 then fold (fPo h t) k ||| ((1 : Int32) <<< (zI h 215 k &&& 31)) else fold (fPo h t) k := rfl
    by_cases z : zI h 214 k = t ∧ zI h 217 k = 0
    · rcases man_pit M hn8 (m := k) (by omega) with ⟨-, -, -, p, a4, a5⟩ | ⟨a1, -⟩
      · rw [ef, if_pos z, e, a5]
        exact bit_or hb (by omega)
      · exact absurd z.2 a1
    · rw [ef, if_neg z]
      exact ⟨b, hb, e⟩
def bitc (l0 : Int32) : Int32 :=
  let v1 := (l0 - ((Int32.toUInt32 l0 >>> (Int32.toUInt32 1 &&& Int32.toUInt32 31)).toInt32 &&& 1431655765))
  let v3 := ((v1 &&& 858993459) + ((Int32.toUInt32 v1 >>> (Int32.toUInt32 2 &&& Int32.toUInt32 31)).toInt32 &&& 858993459))
  let v5 := ((v3 + (Int32.toUInt32 v3 >>> (Int32.toUInt32 4 &&& Int32.toUInt32 31)).toInt32) &&& 252645135)
  let v7 := (v5 + (Int32.toUInt32 v5 >>> (Int32.toUInt32 8 &&& Int32.toUInt32 31)).toInt32)
  let v9 := (v7 + (Int32.toUInt32 v7 >>> (Int32.toUInt32 16 &&& Int32.toUInt32 31)).toInt32)
  (v9 &&& 63)
def fOn (b : Int32) : Nat → Int32 → Int32 := fun k a => a + ((b >>> (nI k &&& 31)) &&& 1)
theorem bit_ones {b : Nat} (hb : b < 256) : bitc (nI b) = fold (fOn (nI b)) 12 := by
  have : ∀ b, b < 256 → bitc (nI b) = fold (fOn (nI b)) 12 := by decide +kernel
  exact this b hb
theorem s_bitCount {x : Int32} (k : ψ (bitc x) h) : ZcI mJ6_bitCount_0f7a4 [.int x] h ψ := by
  refine wJ6_bitCount_0f7a4 ?_
  intro v1 e1 v3 e3 v5 e5 v7 e7 v9 e9
  subst e1 e3 e5 e7 e9
  exact k
theorem s_X11_ones {x : Int32} (k : ψ (fold (fOn x) 12) h) : ZcI mX11_ones [.int x] h ψ := by
  refine wX11_ones (down (I := fun k => Zt mX11_ones (zPI ψ) 0 0 4 [some (.int x), some (.int (fold (fOn x) k)), some (.int (nI k))] [] h) (n := 12) ?_ (fun m hm q => ?_))
  · exact wX11_ones_4 ⟨fun _ => k, fun q => absurd (by decide) q⟩
  · refine wX11_ones_4 ⟨fun z => absurd z (cnt_le (n := 12) (by omega) hm), fun _ => ?_⟩
    rw [nI_1]
    exact q
def fLo (h : ZH) (nm : Nat) : Nat → Int32 → Int32 := fun t a => if bitc (fold (fPo h (nI t)) nm) = 1 then a ||| ((1 : Int32) <<< (nI t &&& 31)) else a
set_option maxHeartbeats 4000000 in
theorem op_lone (J : Jx h i L xs) : ZcI mX10_lone [.ref 10] h (fun v h1 => ZcI mX11_lone [.ref 200] h1 (fun v' h2 => v = v' ∧ Jx h2 (i + 1) L xs)) := by
  have J0 := J
  obtain ⟨np, nm, nh, nw, ns, mo, ⟨S, C, T, P, M, St, G, R, W, V, X⟩, q1, q2⟩ := J
  have kX : zK h 10 = 11 := (shX S).1
  have kM : zK h 200 = 12 := (shM S).1
  have cp := C.1
  have cm := C.2.1
  have ch := C.2.2.1
  have cw := C.2.2.2.1
  have cs := C.2.2.2.2.1
  have b1 : np < 2 ^ 31 := by omega
  have b2 : nm < 2 ^ 31 := by omega
  have b3 : nh < 2 ^ 31 := by omega
  have HM : LMe h np nm nh := ⟨S, cm.2.1, cm.1, cm.2.2, M⟩
  have fin : ZcI mX11_lone [.ref 200] h (fun v' h2 => fold (fLo h nm) 6 = v' ∧ Jx h2 (i + 1) L xs) := by
    refine wX11_lone (down (I := fun k => Zt mX11_lone (zPI (fun v' h2 => fold (fLo h nm) 6 = v' ∧ Jx h2 (i + 1) L xs)) 0 0 4 [some (.ref 200), some (.int (fold (fLo h nm) k)), some (.int (nI k))] [] h) (n := 6) ?_ (fun t ht q => ?_))
    · exact wX11_lone_4 ⟨fun _ => ⟨rfl, J0.up⟩, fun q => absurd (by decide) q⟩
    · obtain ⟨b, hb, eb⟩ := fPo_small (t := nI t) M cp.2.2.2 nm (Nat.le_refl _)
      have ef : fold (fLo h nm) (t + 1) = if bitc (fold (fPo h (nI t)) nm) = 1 then fold (fLo h nm) t ||| ((1 : Int32) <<< (nI t &&& 31)) else fold (fLo h nm) t := rfl
      refine wX11_lone_4 ⟨fun z => absurd z (cnt_le (n := 6) (by omega) ht), fun _ => ⟨kM, s_X11_pitsOf S cm.1 cm.2.2 M cp.2.2.2 (s_X11_ones ?_)⟩⟩
      rw [eb, bit_ones hb] at ef
      rw [eb, nI_1, i_or0]
      refine ⟨fun z => ?_, fun z => ?_⟩
      · rw [ef, if_neg z] at q; exact q
      · rw [ef, if_pos z] at q; exact q
  refine wX10_lone (down (I := fun k => Zt mX10_lone (zPI (fun v h1 => ZcI mX11_lone [.ref 200] h1 (fun v' h2 => v = v' ∧ Jx h2 (i + 1) L xs))) 0 0 4 [some (.ref 10), some (.int (fold (fLo h nm) k)), some (.int (nI k))] [] h) (n := 6) ?_ (fun t ht q => ?_))
  · exact wX10_lone_4 ⟨fun _ => fin, fun q => absurd (by decide) q⟩
  · have ef : fold (fLo h nm) (t + 1) = if bitc (fold (fPo h (nI t)) nm) = 1 then fold (fLo h nm) t ||| ((1 : Int32) <<< (nI t &&& 31)) else fold (fLo h nm) t := rfl
    refine wX10_lone_4 ⟨fun z => absurd z (cnt_le (n := 6) (by omega) ht), fun _ => ⟨kX, s_X10_pitsOf HM cp.2.1 cp.2.2.2 (s_bitCount ?_)⟩⟩
    rw [nI_1]
    refine ⟨fun z => ?_, fun z => ?_⟩
    · rw [ef, if_neg z] at q; exact q
    · rw [ef, if_pos z] at q; exact q
end TOWNS
