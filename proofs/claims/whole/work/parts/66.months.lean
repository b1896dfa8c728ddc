section MONTHS
variable {h : ZH} {np nm nh : Nat} {i L : Nat} {xs : Nat → Int32}
/-- the numbers behind k months -/
def mF (h0 : ZH) (r : Nat → Int32) (np nw : Nat) (f : Nat → Int32) : Nat → Nat → Int32
  | 0 => f
  | k + 1 => wat3 h0 r (wat2 h0 (wat1 h0 (mF h0 r np nw f k) np) nw) np
def mP (h0 : ZH) (r : Nat → Int32) (np nw : Nat) (f : Nat → Int32) (pu : Int32) : Nat → Int32
  | 0 => pu
  | k + 1 => watP r (wat2 h0 (wat1 h0 (mF h0 r np nw f k) np) nw) (mP h0 r np nw f pu k) np
def mS (h0 : ZH) (r : Nat → Int32) (np nw : Nat) (f : Nat → Int32) (sp : Int32) : Nat → Int32
  | 0 => sp
  | k + 1 => watS h0 r (wat2 h0 (wat1 h0 (mF h0 r np nw f k) np) nw) (mS h0 r np nw f sp k) np
def mD (h0 : ZH) (r : Nat → Int32) (np nw mo : Nat) (f dr : Nat → Int32) : Nat → Nat → Int32
  | 0 => dr
  | k + 1 => watD h0 (mF h0 r np nw f (k + 1)) (mD h0 r np nw mo f dr k) (nI (mo + k)) np
def mC (h0 : ZH) (r : Nat → Int32) (np nw mo : Nat) (f dr : Nat → Int32) : Nat → Int32
  | 0 => 0
  | k + 1 => mC h0 r np nw mo f dr k + watC h0 (mF h0 r np nw f (k + 1)) (mD h0 r np nw mo f dr k) np
theorem mF_WB {h0 : ZH} {r f : Nat → Int32} {nw : Nat} (C : WC h0 np nw) (B : WB h0 np f) : ∀ k, WB h0 np (mF h0 r np nw f k)
  | 0 => B
  | k + 1 => wat3_WB C (wat2_rg C (wat1_rg C (mF_WB C B k)) nw (Nat.le_refl _))
theorem mF_out {h0 : ZH} {r f : Nat → Int32} {nw p : Nat} (C : WC h0 np nw) (hp : np ≤ p) : ∀ k, mF h0 r np nw f k p = f p
  | 0 => rfl
  | k + 1 => by
    unfold mF wat3
    rw [if_neg (by omega), wat_out C hp nw (Nat.le_refl _)]
    unfold wat1
    rw [if_neg (by omega)]
    exact mF_out C hp k
def DG (np : Nat) (dr : Nat → Int32) : Prop := ∀ p, p < np → dr p = -6 ∨ 0 ≤ (dr p).toInt
theorem mD_DG {h0 : ZH} {r f dr : Nat → Int32} {nw mo : Nat} (D : DG np dr) : ∀ k, mo + k < 2 ^ 31 → DG np (mD h0 r np nw mo f dr k)
  | 0, _ => D
  | k + 1, hk => fun p hp => by
    unfold mD watD
    by_cases c : p < np ∧ mD h0 r np nw mo f dr k p = -6 ∧ zI h0 207 p / 3 < mF h0 r np nw f (k + 1) p
    · rw [if_pos c, nI_toInt (by omega)]; right; omega
    · rw [if_neg c]; exact mD_DG D k (by omega) p hp
theorem watC_ext {h0 : ZH} {g dr dr' : Nat → Int32} : ∀ n, (∀ p, p < n → dr p = dr' p) → watC h0 g dr n = watC h0 g dr' n
  | 0, _ => rfl
  | n + 1, e => by
    unfold watC
    rw [watC_ext n (fun p hp => e p (by omega)), e n (by omega)]
theorem mD_ext {h0 : ZH} {r f dr dr' : Nat → Int32} {nw mo : Nat} (e : ∀ p, p < np → dr p = dr' p) : ∀ k p, p < np → mD h0 r np nw mo f dr k p = mD h0 r np nw mo f dr' k p
  | 0, p, hp => e p hp
  | k + 1, p, hp => by unfold mD watD; rw [mD_ext e k p hp]
theorem mC_ext {h0 : ZH} {r f dr dr' : Nat → Int32} {nw mo : Nat} (e : ∀ p, p < np → dr p = dr' p) : ∀ k, mC h0 r np nw mo f dr k = mC h0 r np nw mo f dr' k
  | 0 => rfl
  | k + 1 => by unfold mC; rw [mC_ext e k, watC_ext np (fun p hp => mD_ext e k p hp)]
/-! the same numbers out of another heap that agrees -/
section MC
variable {h1 h0 : ZH} {r f dr : Nat → Int32} {nw mo : Nat}
def Ag (h1 h0 : ZH) : Prop := ∀ a j, a = 207 ∨ a = 233 ∨ a = 237 ∨ a = 238 ∨ a = 239 → zI h1 a j = zI h0 a j
theorem wat1_c (e : Ag h1 h0) (k : Nat) : wat1 h1 f k = wat1 h0 f k := by funext p; unfold wat1; rw [e 233 p (by omega)]
theorem wat2_c (e : Ag h1 h0) : ∀ k, wat2 h1 f k = wat2 h0 f k
  | 0 => rfl
  | k + 1 => by unfold wat2; rw [wat2_c e k, e 237 k (by omega), e 238 k (by omega), e 239 k (by omega)]
theorem wat3_c (e : Ag h1 h0) (k : Nat) : wat3 h1 r f k = wat3 h0 r f k := by funext p; unfold wat3 dr1; rw [e 207 p (by omega)]
theorem watS_c (e : Ag h1 h0) (sp : Int32) : ∀ k, watS h1 r f sp k = watS h0 r f sp k
  | 0 => rfl
  | k + 1 => by unfold watS; rw [watS_c e sp k, e 207 k (by omega)]
theorem watD_c (e : Ag h1 h0) (m : Int32) (k : Nat) : watD h1 f dr m k = watD h0 f dr m k := by funext p; unfold watD; rw [e 207 p (by omega)]
theorem watC_c (e : Ag h1 h0) : ∀ k, watC h1 f dr k = watC h0 f dr k
  | 0 => rfl
  | k + 1 => by unfold watC; rw [watC_c e k, e 207 k (by omega)]
theorem mF_c (e : Ag h1 h0) : ∀ k, mF h1 r np nw f k = mF h0 r np nw f k
  | 0 => rfl
  | k + 1 => by unfold mF; rw [mF_c e k, wat1_c e, wat2_c e, wat3_c e]
theorem mP_c (e : Ag h1 h0) (pu : Int32) : ∀ k, mP h1 r np nw f pu k = mP h0 r np nw f pu k
  | 0 => rfl
  | k + 1 => by unfold mP; rw [mP_c e pu k, mF_c e k, wat1_c e, wat2_c e]
theorem mS_c (e : Ag h1 h0) (sp : Int32) : ∀ k, mS h1 r np nw f sp k = mS h0 r np nw f sp k
  | 0 => rfl
  | k + 1 => by unfold mS; rw [mS_c e sp k, mF_c e k, wat1_c e, wat2_c e, watS_c e]
theorem mD_c (e : Ag h1 h0) : ∀ k, mD h1 r np nw mo f dr k = mD h0 r np nw mo f dr k
  | 0 => rfl
  | k + 1 => by unfold mD; rw [mD_c e k, mF_c e, watD_c e]
theorem mC_c (e : Ag h1 h0) : ∀ k, mC h1 r np nw mo f dr k = mC h0 r np nw mo f dr k
  | 0 => rfl
  | k + 1 => by unfold mC; rw [mC_c e k, mF_c e, mD_c e, watC_c e]
end MC
theorem i_assoc (a b : Int32) : a + (b + 1) = a + b + 1 := (Int32.add_assoc a b 1).symm
set_option maxHeartbeats 4000000 in
theorem op_months {l1 : Int32} (hi : i < 1000) (J : Jx h i L xs) : ZcI mX10_months [.ref 10, .int l1] h (fun v h1 => ZcI mX11_months [.ref 200, .int l1] h1 (fun v' h2 => v = v' ∧ Jx h2 (i + 1) L xs)) := by
  have J0 := J
  obtain ⟨np, nm, nh, nw, ns, mo, ⟨S, C, T, P, M, St, G, R, W, V, X⟩, q1, q2⟩ := J
  have kX : zK h 10 = 11 := (shX S).1
  have kM : zK h 200 = 12 := (shM S).1
  have cp := C.1
  have cm := C.2.1
  have ch := C.2.2.1
  have cw := C.2.2.2.1
  have cs := C.2.2.2.2.1
  have b1 : np < 2 ^ 31 := by omega
  have b2 : nm < 2 ^ 31 := by omega
  have b3 : nh < 2 ^ 31 := by omega
  by_cases c1 : 1 ≤ l1 ∧ l1 ≤ 240
  rotate_left
  · exact wX10_months (X10_within_f c1 (N0 (wX11_months (X11_in_f (b := 1) (c := 240) c1 rfl rfl (N0 ⟨rfl, J0.up⟩)))))
  obtain ⟨n, hn, rfl⟩ := in_nI (a := l1) (n := 240) (by decide) ⟨Int32.le_trans (by decide) c1.1, c1.2⟩
  have hmo : mo ≤ 240 * i := C.2.2.2.2.2.1.2.2
  have m1 := C.2.2.2.2.2.1.1
  have m2 := C.2.2.2.2.2.1.2.1
  have m3 := C.2.2.2.2.2.2.1
  have m4 := C.2.2.2.2.2.2.2
  obtain ⟨W1, W2, W3⟩ := W
  have V0 := V
  clear V
  have hn8 := cp.2.2.2
  have CC : WC h np nw := ⟨cp.2.2.2, cw.2.2, fun p hp => ⟨by have Pp := P.1 p hp; simp only [Pp, and_self], (W2 p hp).2.2.2.2.2.1⟩, fun v hv => (W3 v hv).2.2.2⟩
  have BB : WB h np (fun p => zI h 234 p) := fun p hp => (W2 p hp).2.2.2.2.2.2
  have DD : DG np (fun p => zI h 236 p) := fun p hp => (W2 p hp).2.2.2.2.1
  have eD : ∀ p, p < np → zI h 65 p = zI h 236 p := fun p hp => (W2 p hp).2.2.2.1
  have KK : WK h 60 np nw (fun p => zI h 235 p) := ⟨Or.inl rfl, cp.2.2.1, cw.2.1, fun p hp => ⟨(W2 p hp).1, (W1 p (by omega)).1, (W2 p hp).2.1⟩, fun v hv => ⟨(W3 v hv).1, (W3 v hv).2.1, (W3 v hv).2.2.1⟩⟩
  have hr : ∀ p, p < np → (zI h 235 p = 0 ↔ zI h 235 p = 0 ∨ nI p = -6) := fun p hp => ⟨Or.inl, fun q => q.resolve_right (nI_ne6 (by omega))⟩
  generalize er : (fun p => zI h 235 p) = r at KK
  have hr' : ∀ p, p < np → (r p = 0 ↔ zI h 235 p = 0 ∨ nI p = -6) := by rw [← er]; exact hr
  generalize ef : (fun p => zI h 234 p) = f at BB
  generalize ed : (fun p => zI h 236 p) = dr at DD
  -- the model, behind the class
  have mod : ∀ H1, Wx H1 h 63 65 60 10 np (mF h r np nw f n) (mP h r np nw f (zI h 200 41) n) (mS h r np nw f (zI h 200 42) n) (mD h r np nw mo f dr n) (nI (mo + n)) → ZcI mX11_months [.ref 200, .int (nI n)] H1 (fun v' h2 => mC h r np nw mo f dr n = v' ∧ Jx h2 (i + 1) L xs) := by
    intro H1 V1
    have E1 : ∀ a j, ¬ (a = 63 ∨ a = 65 ∨ (a = 60 ∧ (j = 10 ∨ j = 11 ∨ j = 12))) → zI H1 a j = zI h a j := V1.2.2.2.1
    have S1 := S.same V1.1 V1.2.1 V1.2.2.1
    have ec : Ag H1 h := fun a j q => E1 a j (by omega)
    have C1 : WC H1 np nw := ⟨CC.1, CC.2.1, fun p hp => by rw [ec 207 p (by omega), ec 233 p (by omega)]; exact CC.2.2.1 p hp, fun v hv => by rw [ec 237 v (by omega), ec 238 v (by omega), ec 239 v (by omega)]; exact CC.2.2.2 v hv⟩
    have B1 : WB H1 np f := fun p hp => by rw [ec 207 p (by omega)]; exact BB p hp
    have hr1 : ∀ p, p < np → (r p = 0 ↔ zI H1 235 p = 0 ∨ nI p = -6) := fun p hp => by rw [E1 235 p (by omega)]; exact hr' p hp
    have c9 : zI H1 200 9 = nI np := (E1 200 9 (by omega)).trans cp.1
    have c39 : zI H1 200 39 = nI nw := (E1 200 39 (by omega)).trans cw.1
    rw [← mF_c ec, ← mP_c ec, ← mS_c ec, ← mD_c ec] at V1
    rw [← mC_c ec]
    refine wX11_months (X11_in_t (b := 1) (c := 240) c1 rfl rfl (N1 ?_))
    have := down (I := fun k => ∀ H, Wx H H1 234 236 200 40 np (mF H1 r np nw f k) (mP H1 r np nw f (zI h 200 41) k) (mS H1 r np nw f (zI h 200 42) k) (mD H1 r np nw mo f dr k) (nI (mo + k)) → Zt mX11_months (zPI (fun v' h2 => mC H1 r np nw mo f dr n = v' ∧ Jx h2 (i + 1) L xs)) 0 0 19 [some (.ref 200), some (.int (nI n)), some (.int (mC H1 r np nw mo f dr k)), some (.int (nI k)), none] [] H) (n := n) (fun H V => ?_) (fun k hk q H V => ?_)
    · refine this H1 ⟨rfl, rfl, rfl, fun _ _ _ => rfl, fun p hp => ?_, fun p hp => ?_, ?_, ?_, ?_⟩
      · rw [E1 234 p (by omega), ← ef]; rfl
      · rw [E1 236 p (by omega), ← ed]; rfl
      · rw [E1 200 40 (by omega)]; exact m1
      · rw [E1 200 41 (by omega)]; rfl
      · rw [E1 200 42 (by omega)]; rfl
    · refine wX11_months_19 ⟨fun _ => ⟨rfl, ?_⟩, fun z => absurd (Int32.le_refl _) z⟩
      have E : ∀ a j, ¬ (a = 63 ∨ a = 65 ∨ (a = 60 ∧ (j = 10 ∨ j = 11 ∨ j = 12)) ∨ a = 234 ∨ a = 236 ∨ (a = 200 ∧ (j = 40 ∨ j = 41 ∨ j = 42))) → zI H a j = zI h a j := fun a j q => (V.2.2.2.1 a j (by omega)).trans (E1 a j (by omega))
      have x3 : ∀ p, p < 8 → zI H 63 p = mF H1 r np nw f n p := fun p hp => (V.2.2.2.1 63 p (by omega)).trans (V1.2.2.2.2.1 p hp)
      have x5 : ∀ p, p < np → zI H 65 p = mD H1 r np nw mo f dr n p := fun p hp => (V.2.2.2.1 65 p (by omega)).trans (V1.2.2.2.2.2.1 p hp)
      have y3 : ∀ p, p < 8 → zI H 234 p = mF H1 r np nw f n p := V.2.2.2.2.1
      have y5 : ∀ p, p < np → zI H 236 p = mD H1 r np nw mo f dr n p := V.2.2.2.2.2.1
      refine ⟨np, nm, nh, nw, ns, mo + n, ⟨S1.same V.1 V.2.1 V.2.2.1, ?_, T.congr (fun a j q => E a j (by omega)), P.congr (fun a j q => E a j (by omega)) cp.2.2.2, M.congr (fun a j q => E a j (by omega)) cm.2.2, St.congr (fun a j q => E a j (by omega)), G.congr (fun a j q => E a j (by omega)), R.congr (fun a j q => E a j (by omega)), ⟨fun p hp => ?_, fun p hp => ?_, fun v hv => ?_⟩, V0.congr (fun a j q => E a j (by omega)), X.congr (fun a j q => E a j (by omega)) ch.2.2⟩, by rw [V.2.1, V1.2.1]; exact q1, fun j hj => by rw [E 4 j (by omega)]; exact q2 j hj⟩
      · unfold JC
        rw [E 200 9 (by omega), E 10 12 (by omega), E 60 5 (by omega), E 200 17 (by omega), E 10 13 (by omega), E 200 53 (by omega), E 10 14 (by omega), E 200 39 (by omega), E 60 9 (by omega), E 221 3 (by omega), E 24 1 (by omega)]
        refine ⟨cp, cm, ch, cw, cs, ⟨V.2.2.2.2.2.2.1, (V.2.2.2.1 60 10 (by omega)).trans V1.2.2.2.2.2.2.1, by omega⟩, ?_, ?_⟩
        · exact ((V.2.2.2.1 60 11 (by omega)).trans V1.2.2.2.2.2.2.2.1).trans V.2.2.2.2.2.2.2.1.symm
        · exact ((V.2.2.2.1 60 12 (by omega)).trans V1.2.2.2.2.2.2.2.2).trans V.2.2.2.2.2.2.2.2.symm
      · rw [E 62 p (by omega), E 233 p (by omega), x3 p hp, y3 p hp]
        refine ⟨(W1 p hp).1, rfl, fun z => ⟨((W1 p hp).2.2 z).1, ?_, by rw [E 64 p (by omega)]; exact ((W1 p hp).2.2 z).2.2⟩⟩
        rw [mF_out C1 z n, ← ef]
        exact ((W1 p hp).2.2 z).2.1
      · rw [E 61 p (by omega), E 64 p (by omega), E 207 p (by omega), E 233 p (by omega), E 235 p (by omega), x5 p hp, y5 p hp, y3 p (by omega)]
        have w := W2 p hp
        have b := mF_WB (r := r) C1 B1 n p hp
        rw [ec 207 p (by omega)] at b
        exact ⟨w.1, w.2.1, w.2.2.1, rfl, mD_DG DD n (by omega) p hp, w.2.2.2.2.2.1, b⟩
      · rw [E 66 v (by omega), E 67 v (by omega), E 68 v (by omega), E 237 v (by omega), E 238 v (by omega), E 239 v (by omega)]
        exact W3 v hv
    · refine wX11_months_19 ⟨fun z => absurd z (cnt_le (by omega) hk), fun _ => ⟨(shM (S1.same V.1 V.2.1 V.2.2.1)).1, s_X11_monthOn S1 c9 c39 hr1 C1 V (fun H2 V2 => ?_)⟩⟩
      have V2' : Wx H2 H1 234 236 200 40 np (mF H1 r np nw f (k + 1)) (mP H1 r np nw f (zI h 200 41) (k + 1)) (mS H1 r np nw f (zI h 200 42) (k + 1)) (mD H1 r np nw mo f dr k) (nI (mo + k)) := V2
      have Bk := mF_WB (r := r) C1 B1 (k + 1)
      have Dk := mD_DG (h0 := H1) (r := r) (f := f) (nw := nw) DD k (show mo + k < 2 ^ 31 by omega)
      have eD2 : mD H1 r np nw mo f dr (k + 1) = watD H1 (mF H1 r np nw f (k + 1)) (mD H1 r np nw mo f dr k) (nI (mo + k)) np := rfl
      have eC2 : mC H1 r np nw mo f dr (k + 1) = mC H1 r np nw mo f dr k + watC H1 (mF H1 r np nw f (k + 1)) (mD H1 r np nw mo f dr k) np := rfl
      rw [eD2, eC2] at q
      generalize mF H1 r np nw f (k + 1) = G' at q V2' Bk
      generalize mP H1 r np nw f (zI h 200 41) (k + 1) = P' at q V2'
      generalize mS H1 r np nw f (zI h 200 42) (k + 1) = S' at q V2'
      generalize mD H1 r np nw mo f dr k = D' at q V2' Dk
      generalize mC H1 r np nw mo f dr k = C' at q
      have := down (I := fun j => ∀ H, Wx H H1 234 236 200 40 np G' P' S' (watD H1 G' D' (nI (mo + k)) j) (nI (mo + k)) → Zt mX11_months (zPI (fun v' h2 => mC H1 r np nw mo f dr n = v' ∧ Jx h2 (i + 1) L xs)) 0 0 33 [some (.ref 200), some (.int (nI n)), some (.int (C' + watC H1 G' D' j)), some (.int (nI k)), some (.int (nI j))] [] H) (n := np) (fun H V => ?_) (fun p hp q' H V => ?_)
      · have z := this H2 (Wx.extD V2' (fun p _ => by unfold watD; rw [if_neg (by omega)]))
        have z0 : C' + watC H1 G' D' 0 = C' := i_add0 C'
        rw [z0] at z
        exact z
      · have o9 : zI H 200 9 = nI np := (V.2.2.2.1 200 9 (by omega)).trans c9
        have om : zI H 200 40 = nI (mo + k) := V.2.2.2.2.2.2.1
        refine wX11_months_33 ⟨(shM (S1.same V.1 V.2.1 V.2.2.1)).1, fun _ => ?_, fun z => absurd (by rw [o9]; exact Int32.le_refl _) z⟩
        rw [om, nI_1, nI_1]
        exact q _ (Wx.setM (by omega) V)
      · have o9 : zI H 200 9 = nI np := (V.2.2.2.1 200 9 (by omega)).trans c9
        have om : zI H 200 40 = nI (mo + k) := V.2.2.2.2.2.2.1
        have d1 : zI H 236 p = D' p := by
          rw [V.2.2.2.2.2.1 p hp]
          unfold watD
          rw [if_neg (by omega)]
        have e1 := nI_clamp (n := p) (by omega)
        have v1 : vp_in (nI p) 8 := vp_in_nI (by omega) (by omega)
        have SH := S1.same V.1 V.2.1 V.2.2.1
        have eC : watC H1 G' D' (p + 1) = if D' p = -6 ∧ zI H1 207 p / 3 < G' p then watC H1 G' D' p + 1 else watC H1 G' D' p := rfl
        refine wX11_months_33 ⟨(shM SH).1, fun z => absurd z (by rw [o9]; exact cnt_le (by omega) hp), fun _ => ?_⟩
        simp only [shM SH, e1, v1, d1, ne_eq, nI_1]
        have go : ¬ (D' p = -6 ∧ zI H1 207 p / 3 < G' p) → Zt mX11_months (zPI (fun v' h2 => mC H1 r np nw mo f dr n = v' ∧ Jx h2 (i + 1) L xs)) 0 0 33 [some (.ref 200), some (.int (nI n)), some (.int (C' + watC H1 G' D' p)), some (.int (nI k)), some (.int (nI (p + 1)))] [] H := fun c => by
          have := q' H (by rw [watD_n c]; exact V)
          rw [eC, if_neg c] at this
          exact this
        refine ⟨by decide, trivial, trivial, fun z => go (fun x => ?_), fun z => s_X11_isDrowned S1 C1 Bk V hp ?_⟩
        · rw [x.1] at z; exact absurd z (by decide)
        · have z6 : D' p = -6 := (Dk p hp).resolve_right (fun x => z (by rw [tI_le, tI_0]; exact x))
          refine ⟨fun y => go (fun x => zb_eq0.mp y x.2), fun y => ?_⟩
          have c : D' p = -6 ∧ zI H1 207 p / 3 < G' p := ⟨z6, Classical.not_not.mp (fun x => y (zb_eq0.mpr x))⟩
          simp only [shM SH, e1, v1, om, ne_eq, nI_1]
          refine ⟨trivial, by decide, trivial, trivial, ?_⟩
          have := q' _ (by rw [← watD_s c]; exact Wx.setD (p := p) (by omega) V)
          rw [eC, if_pos c, i_assoc] at this
          exact this
  refine wX10_months (X10_within_t c1 (N1 ?_))
  have := down (I := fun k => ∀ H, Wx H h 63 65 60 10 np (mF h r np nw f k) (mP h r np nw f (zI h 200 41) k) (mS h r np nw f (zI h 200 42) k) (mD h r np nw mo f dr k) (nI (mo + k)) → Zt mX10_months (zPI (fun v h1 => ZcI mX11_months [.ref 200, .int (nI n)] h1 (fun v' h2 => v = v' ∧ Jx h2 (i + 1) L xs))) 0 0 18 [some (.ref 10), some (.int (nI n)), some (.int (mC h r np nw mo f dr k)), some (.int (nI k))] [] H) (n := n) (fun H W => ?_) (fun k hk q H W => ?_)
  · refine this h ⟨rfl, rfl, rfl, fun _ _ _ => rfl, fun p hp => ?_, fun p hp => ?_, m2, m3, m4⟩
    · rw [← ef]; exact (W1 p hp).2.1
    · rw [← ed]; exact eD p hp
  · exact wX10_months_18 ⟨fun _ => mod H W, fun z => absurd (Int32.le_refl _) z⟩
  · have SH := S.same W.1 W.2.1 W.2.2.1
    refine wX10_months_18 ⟨fun z => absurd z (cnt_le (by omega) hk), fun _ => ?_⟩
    simp only [shX SH, shW SH, ne_eq]
    refine ⟨trivial, by decide, trivial, s_X9_pass (w := 60) S KK CC (mF_WB CC BB k) W (fun H2 W2 => ?_)⟩
    rw [nI_1]
    have e := q H2
    unfold WN at W2
    rw [nI_1] at W2
    exact e W2
end MONTHS
