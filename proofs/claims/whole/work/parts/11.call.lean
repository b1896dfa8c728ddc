theorem Met.mono {l : Launch} {y : MethodName} {ws : List Cond} {rm : Room} {Pc : Array Value → State → Prop} {Qc Qc' : Array Value → State → Outcome → State → Prop} {mc ms : Nat} {free : Addr → Prop} (hM : Met l y ws rm Pc Qc mc ms free) (hq : ∀ a st o t, Qc a st o t → Qc' a st o t) : Met l y ws rm Pc Qc' mc ms free := by
  intro p e h1 h2 h3 s m args below h4 h5 h6 h7
  obtain ⟨n, o, k1, k2, k3, k4, k5⟩ := hM p e h1 h2 h3 s m args below h4 h5 h6 h7
  exact ⟨n, o, k1, k2, k3, hq _ _ _ _ k4, k5⟩
theorem Zc.mono {y : ZM} {av : List Value} {h : ZH} {Φ Ψ : Option Value → ZH → Prop} (hc : Zc y av h Φ) (hi : ∀ v h1, Φ v h1 → Ψ v h1) : Zc y av h Ψ :=
  fun l D dA b0 tr => (hc l D dA b0 tr).mono (fun a st o t ⟨v, h1, tr1, q1, q2, q3, q4, q5, q6⟩ => ⟨v, h1, tr1, q1, q2, q3, q4, hi v h1 q5, q6⟩)
/-- the contract by its answer: an int, a long, nothing -/
def ZcI (y : ZM) (av : List Value) (h : ZH) (ψ : Int32 → ZH → Prop) : Prop := Zc y av h (fun v h1 => ∃ x : Int32, v = some (.int x) ∧ ψ x h1)
def ZcL (y : ZM) (av : List Value) (h : ZH) (ψ : Int64 → ZH → Prop) : Prop := Zc y av h (fun v h1 => ∃ x : Int64, v = some (.long x) ∧ ψ x h1)
def ZcV (y : ZM) (av : List Value) (h : ZH) (ψ : ZH → Prop) : Prop := Zc y av h (fun v h1 => v = none ∧ ψ h1)
theorem ZcI.mono {y : ZM} {av : List Value} {h : ZH} {φ ψ : Int32 → ZH → Prop} (hc : ZcI y av h φ) (hi : ∀ v h1, φ v h1 → ψ v h1) : ZcI y av h ψ := Zc.mono hc (fun _ h1 ⟨x, e, q⟩ => ⟨x, e, hi x h1 q⟩)
theorem ZcL.mono {y : ZM} {av : List Value} {h : ZH} {φ ψ : Int64 → ZH → Prop} (hc : ZcL y av h φ) (hi : ∀ v h1, φ v h1 → ψ v h1) : ZcL y av h ψ := Zc.mono hc (fun _ h1 ⟨x, e, q⟩ => ⟨x, e, hi x h1 q⟩)
theorem ZcV.mono {y : ZM} {av : List Value} {h : ZH} {φ ψ : ZH → Prop} (hc : ZcV y av h φ) (hi : ∀ h1, φ h1 → ψ h1) : ZcV y av h ψ := Zc.mono hc (fun _ h1 ⟨e, q⟩ => ⟨e, hi h1 q⟩)
/-- the locals with which a method begins -/
def zent : List Value → List (Option Value)
  | [] => []
  | v :: vs => if v.category = 2 then some v :: none :: zent vs else some v :: zent vs
theorem zent_args {tr : Nat → Nat} : ∀ {vs : List Value} {i j : Nat} {v : Value}, (zent vs)[j]? = some (some v) → (i + j, ztr tr v) ∈ lv_args i (vs.map (ztr tr))
  | [], i, j, v, e => by simp [zent] at e
  | w :: vs, i, j, v, e => by
    show (i + j, ztr tr v) ∈ (i, ztr tr w) :: lv_args (if (ztr tr w).category = 2 then i + 2 else i + 1) (vs.map (ztr tr))
    rw [zcat]
    by_cases hc : w.category = 2
    · simp only [zent, hc, if_true] at e ⊢
      match j, e with
      | 0, e =>
        have : w = v := by simpa using e
        subst this
        exact List.mem_cons_self
      | 1, e => simp at e
      | j + 2, e =>
        have := zent_args (tr := tr) (vs := vs) (i := i + 2) (j := j) (v := v) (by simpa using e)
        rw [show i + (j + 2) = i + 2 + j by omega]
        exact List.mem_cons_of_mem _ this
    · simp only [zent, hc, if_false] at e ⊢
      match j, e with
      | 0, e =>
        have : w = v := by simpa using e
        subst this
        exact List.mem_cons_self
      | j + 1, e =>
        have := zent_args (tr := tr) (vs := vs) (i := i + 1) (j := j) (v := v) (by simpa using e)
        rw [show i + (j + 1) = i + 1 + j by omega]
        exact List.mem_cons_of_mem _ this
theorem lg_sl_tr {tr : Nat → Nat} : ∀ vs : List Value, (lg_sl (vs.map (ztr tr))).length = (zent vs).length
  | [] => rfl
  | w :: vs => by
    have ih := lg_sl_tr (tr := tr) vs
    unfold lg_sl at ih ⊢
    rw [List.map_cons, List.flatMap_cons, List.length_append, ih, zcat]
    by_cases hc : w.category = 2
    · simp [zent, hc]; omega
    · simp [zent, hc]; omega
theorem zent_al {h : ZH} : ∀ {vs : List Value}, zalS h vs → zalL h (zent vs)
  | [], _ => trivial
  | w :: vs, hs => by
    by_cases hc : w.category = 2
    · simp only [zent, hc, if_true]
      exact ⟨hs.1, zent_al hs.2⟩
    · simp only [zent, hc, if_false]
      exact ⟨hs.1, zent_al hs.2⟩
theorem zlh_pad {tr : Nat → Nat} {n k : Nat} {ls : Array Slot} {L : List (Option Value)} (hl : zLH tr n ls L) : zLH tr n ls (L ++ List.replicate k none) := by
  refine ⟨hl.1, hl.2.1, fun i v e => ?_⟩
  by_cases hi : i < L.length
  · rw [List.getElem?_append_left hi] at e
    exact hl.2.2 i v e
  · rw [List.getElem?_append_right (by omega)] at e
    have := List.mem_replicate.mp (List.mem_of_getElem? e)
    cases this.2
/-- A METHOD FROM ITS ENTRY -/
theorem Zc.intro {y : ZM} {av : List Value} {h : ZH} {Φ : Option Value → ZH → Prop} {L : List (Option Value)} (hp : plainName (zm_x y).cls = true) (hL : zent av ++ List.replicate (zm_n y - (zent av).length) none = L) (hn : (zent av).length ≤ zm_n y) (k : Zt y Φ (zm_k y) (zm_s y) 0 L [] h) : Zc y av h Φ := by
  subst hL
  intro l D dA b0 tr
  refine Met.ofW (cc := zm_c y) (maxL := zm_n y) (ret := zm_r y) hp rfl ?_
  intro p e s m args below meth c s₁ B hml hv
  obtain ⟨rfl, hal, hK, hN, hb0, hH⟩ := hv
  have hts := atoms_spec (ws := zws y) B.pre
  have hl := lv_entry (av.map (ztr tr)) (n := zm_n y) (by rw [lg_sl_tr]; exact hn)
  rw [lg_entry_eq]
  generalize (lg_sl (av.map (ztr tr)) ++ List.replicate (zm_n y - (lg_sl (av.map (ztr tr))).length) Slot.unset).toArray = ls at hl ⊢
  have hX : zCx y D dA b0 p s m (av.map (ztr tr)).toArray meth c := ⟨B.exec, B.bytes, B.returns, hml, findClass_of_methodNamed B.named, fun w hw => hts w (List.mem_cons_of_mem _ hw), B.notSynchronized, (name_of_methodNamed B.named B.method).1, hK, hN, hb0⟩
  refine k l D dA b0 tr h p e s m _ below meth c hX tr s.heap [] 0 0 ls hH (fun a ha => ⟨rfl, rfl⟩) trivial ?_ ⟨Nat.le_refl _, fun _ _ => rfl, fun _ q => by cases q⟩ (zlh_pad ⟨hl.1, hl.2.1, fun i v e1 => ?_⟩) (by omega) (by omega)
  · refine zalL_sub (fun i v e1 => ?_)
    by_cases hi : i < (zent av).length
    · rw [List.getElem?_append_left hi] at e1
      exact zalL_at (zent_al hal) e1
    · rw [List.getElem?_append_right (by omega)] at e1
      have := List.mem_replicate.mp (List.mem_of_getElem? e1)
      cases this.2
  · have := hl.2.2 _ (zent_args (tr := tr) (i := 0) e1)
    rw [Nat.zero_add] at this
    exact this
/-- what a method must be to be called -/
def zOK (y : ZM) (n : Nat) : Prop := Cond.code (zm_x y) (zm_c y) (zm_n y) (zm_r y) ∈ zgood ∧ Cond.initialized (zm_x y).cls ∈ zgood ∧ (zm_x y).cls ≠ "java/lang/invoke/MethodHandle" ∧ (zm_x y).cls ≠ "java/lang/invoke/VarHandle" ∧ (parseMethodDescriptor (zm_x y).desc).map (fun d => d.parameters.length) = some n
def zML (own : String) (i : Nat) (x : MethodName) : Prop := Cond.methodLink own i x ∈ zgood ∨ ∃ host : String, Cond.methodLinkNest own i x host ∈ znest
theorem zgoodIn {ws : List Cond} (h : ∀ w ∈ ws, w ∈ zgood) : GoodIn zgood ws := fun w hw => ⟨h w hw, good_of_word (List.mem_filter.mp (h w hw)).2⟩
theorem zws_in {y : ZM} {n : Nat} (ok : zOK y n) : ∀ w ∈ zws y, w ∈ zgood := fun w hw => by
  rcases List.mem_cons.mp hw with rfl | hw
  · exact ok.1
  · exact hw
theorem zNW.same {u U : State} (e : u.vm = U.vm) (k : zNW u) : zNW U := by
  refine ⟨fun w hw => ?_, fun C hC => (k.2.1 C hC).moved (by rw [e]; exact Vm.Alike.refl _), fun t ht => (k.2.2 t ht).moved (by rw [e]; exact Vm.Alike.refl _)⟩
  have h := k.1 w hw
  have h2 := (List.mem_filter.mp hw).2
  cases w <;> first | exact va_Nw.same rfl e h | exact absurd h2 (by simp [zisN])
theorem zPc_blind {D : va_G} {dA : Nat → ClassId} {b0 : Nat} {tr : Nat → Nat} {h : ZH} {av : List Value} : FrameBlind (zPc D dA b0 tr h av) := fun a U g mk ⟨k1, k2, k3, k4, k5, k6⟩ =>
  ⟨k1, k2, k3.moved (U := U.calling g mk a) (Vm.Alike.refl _), zNW.same (u := U) (U := U.calling g mk a) rfl k4, k5, k6.moved (U := U.calling g mk a) (Vm.Alike.refl _)⟩
section ZCALL
variable {y : ZM} {Φ : Option Value → ZH → Prop} {rc rs pc q : Nat} {L : List (Option Value)} {S : List Value} {h : ZH}
theorem zcatsum {tr : Nat → Nat} (S : List Value) : ((S.map (ztr tr)).map fun v => v.category).sum = (S.map fun v => v.category).sum := by
  rw [List.map_map]
  congr 1
  exact List.map_congr_left (fun v _ => zcat tr v)
theorem Zt.run {y' : ZM} {av S0 : List Value} {Ψ : Option Value → ZH → Prop}
    (run : ∀ (l : Launch) (D : va_G) (dA : Nat → ClassId) (b0 : Nat) (p : Program) (e : Env) (s : State) (m : MethodId) (args : Array Value) (below : List Frame) (meth : Method) (c : Code), zCx y D dA b0 p s m args meth c → ∀ (tr : Nat → Nat) (H : Heap) (locs : List Loc) (cells slots : Nat) (ls : Array Slot), zHR D dA b0 tr h s H → zalS h S0 → s.heap.size ≤ H.size → ls.size = zm_n y → cells + zm_k y' ≤ zm_k y → slots + zm_s y' ≤ zm_s y →
      va_Run p l e (zrm y) s m args below meth c H locs cells slots (zm_k y') (zm_s y') (F0 m pc ls (S0.map (ztr tr))) (S.map (ztr tr)) (zQc D dA b0 tr h Ψ (av.map (ztr tr)).toArray) (fun q => b0 ≤ q))
    (hsub : zalS h S0 → zalS h S) (kk : ∀ v h1, Ψ v h1 → Zt y Φ rc rs (pc + 3) L (v.toList ++ S) h1) : Zt y Φ (rc + zm_k y') (rs + zm_s y') pc L S0 h := by
  intro l D dA b0 tr0 h0 p e s m args below meth c X tr H locs cells slots ls hH hE hS hL hF hl hc hs
  intro T hT XS
  obtain ⟨v0, st₀, t, T1, L2, e0, X1, hL2, e1, e2, ⟨v, h1, tr1, q1, q2, q3, q4, q5, q6, q7⟩, st⟩ := run l D dA b0 p e s m args below meth c X tr H locs cells slots ls hH hS hF.1 hl.1 (by omega) (by omega) T hT XS
  cases q1
  rw [e0] at q6 q7
  have hal : s.vm.Alike t.vm := by rw [← e2]; exact X1.warmed.alike
  have mono : ∀ b, zK h b ≠ 0 → zK h1 b ≠ 0 := fun b hb => by rw [(q4 b hb).2]; exact hb
  have teq : ∀ b, zK h b ≠ 0 → tr1 b = tr b := fun b hb => (q4 b hb).1
  have hS' := hsub hS
  have w := kk v h1 q5 l D dA b0 tr0 h0 p e s m args below meth c X tr1 T1.heap (locs ++ L2) (cells + zm_k y') (slots + zm_s y') ls (by rw [e1]; exact q3.moved hal.symm) (fun b hb => ⟨(teq b (by rw [(hE b hb).2]; exact hb)).trans (hE b hb).1, (q4 b (by rw [(hE b hb).2]; exact hb)).2.trans (hE b hb).2⟩) (zalS_app.mpr ⟨q2, zalS_mono mono hS'⟩) (zalL_mono mono hL)
    ⟨Nat.le_trans hF.1 (by rw [e1]; exact q6), fun x hx => by rw [e1, q7 x hx]; exact hF.2.1 x hx, fun x hx => by
      rcases List.mem_append.mp hx with g | g
      · exact hF.2.2 x g
      · exact hL2 x g⟩ (zLH_eq teq hL hl) (by omega) (by omega)
  have es : (v.toList ++ S).map (ztr tr1) = (v.map (ztr tr1)).toList ++ S.map (ztr tr) := by
    rw [List.map_append, ztr_map teq hS']
    cases v <;> rfl
  rw [es] at w
  obtain ⟨t2, a1, b1⟩ := w T1 rfl X1
  exact ⟨t2, st t2 a1, b1⟩
theorem zpre {D : va_G} {dA : Nat → ClassId} {b0 : Nat} {p : Program} {s : State} {m : MethodId} {args : Array Value} {meth : Method} {c : Code} (X : zCx y D dA b0 p s m args meth c) {tr : Nat → Nat} {H : Heap} (hH : zHR D dA b0 tr h s H) (hz : s.heap.size ≤ H.size) {av : List Value} (hal : zalS h av) : ∀ U : State, U.heap = H → s.WarmedH U.vm → zPc D dA b0 tr h av (av.map (ztr tr)).toArray U := fun U hU hW =>
  ⟨rfl, hal, X.2.2.2.2.2.2.2.2.1.moved hW.alike, X.2.2.2.2.2.2.2.2.2.1.warm hW, by rw [hU]; exact Nat.le_trans X.2.2.2.2.2.2.2.2.2.2 hz, by rw [hU]; exact hH.moved hW.alike⟩
theorem z_callS0 {y' : ZM} {av : List Value} {n i : Nat} {Ψ : Option Value → ZH → Prop} (hC : Zc y' av h Ψ) (hd : decode (zm_c y) pc = .ok (.invokestatic i, 3)) (hlk : zML (zm_x y).cls i (zm_x y')) (ok : zOK y' n) (hst : Cond.static (zm_x y') ∈ zgood) (hn : av.length = n) (hw : (S.map fun v => v.category).sum ≤ 8) (hdp : zm_d y' + 1 ≤ zm_d y) (hml : zm_n y' ≤ 45)
    (kk : ∀ v h1, Ψ v h1 → Zt y Φ rc rs (pc + 3) L (v.toList ++ S) h1) : Zt y Φ (rc + zm_k y') (rs + zm_s y') pc L (av.reverse ++ S) h := by
  refine Zt.run (y' := y') (av := av) (Ψ := Ψ) ?_ (fun k => (zalS_app.mp k).2) kk
  intro l D dA b0 p e s m args below meth c X tr H locs cells slots ls hH hS hz hl hck hsk
  have hav : zalS h av := zalS_mem.mpr (fun v hv => zalS_mem.mp hS v (List.mem_append_left _ (List.mem_reverse.mpr hv)))
  obtain ⟨hx, hb, hr0, hmlx, hown, hts, hlkx, hnm, hK, hN, hb0⟩ := id X
  have hstk : (F0 m pc ls ((av.reverse ++ S).map (ztr tr))).stack = (av.map (ztr tr)).reverse ++ S.map (ztr tr) := by rw [List.map_append, List.map_reverse]
  have hW8 : 2 * (F0 m pc ls ((av.reverse ++ S).map (ztr tr))).monitorRoom + ((S.map (ztr tr)).map fun v => v.category).sum ≤ 8 := by rw [zcatsum]; show 2 * 0 + _ ≤ 8; omega
  rcases hlk with hlk | ⟨host, hlk⟩
  · exact va_runS (Ts := zgood) ⟨hx, hb, hmlx, hown, hts⟩ (hC l D dA b0 tr) (va_cwS n hts (zgoodIn (fun w hw => by
      rcases List.mem_append.mp hw with g | g
      · rcases List.mem_cons.mp g with rfl | g
        · exact hlk
        · rcases List.mem_cons.mp g with rfl | g
          · exact hst
          · rcases List.mem_cons.mp g with rfl | g
            · exact ok.2.1
            · cases g
      · exact zws_in ok w g)) rfl rfl rfl ⟨ok.2.2.1, ok.2.2.2.1, ok.2.2.2.2⟩ ⟨hdp, by show 8 + (zm_n y' + 11) + 64 * zm_d y' ≤ 64 * zm_d y; omega⟩) ⟨zPc_blind, zpre X hH hz hav⟩ rfl (by rw [List.length_map]; exact hn) hl hstk hW8 hd ⟨hck, hsk⟩
  · exact va_runSN (Ts := zgood) (host := host) ⟨hx, hb, hmlx, hown, hts⟩ (hC l D dA b0 tr) ⟨va_cnB n hts (zgoodIn (zws_in ok)) rfl rfl rfl (hN.1 _ hlk) (hts _ ok.2.1) ⟨ok.2.2.1, ok.2.2.2.1, ok.2.2.2.2⟩ ⟨hdp, by show 8 + (zm_n y' + 11) + 64 * zm_d y' ≤ 64 * zm_d y; omega⟩, hts _ hst, trivial⟩ ⟨zPc_blind, zpre X hH hz hav⟩ rfl (by rw [List.length_map]; exact hn) hl hstk hW8 hd ⟨hck, hsk⟩
theorem z_callV0 {y' : ZM} {b ci : Nat} {av : List Value} {n i : Nat} {r : vw_C} {Ψ : Option Value → ZH → Prop} (hC : Zc y' (.ref b :: av) h Ψ) (hd : decode (zm_c y) pc = .ok (.invokevirtual i, 3)) (hlk : zML (zm_x y).cls i (zm_x y')) (ok : zOK y' n) (hin : Cond.instanceMethod (zm_x y') ∈ zgood) (hse : Cond.selects (zm_x y').cls (zm_x y') (zm_x y') ∈ zgood) (hr : vwCl[ci]? = some r) (hcl : r.1 = (zm_x y').cls) (hb0 : zK h b = ci + 1) (hn : av.length = n) (hw : (S.map fun v => v.category).sum ≤ 8) (hdp : zm_d y' + 1 ≤ zm_d y) (hml : zm_n y' ≤ 45)
    (kk : ∀ v h1, Ψ v h1 → Zt y Φ rc rs (pc + 3) L (v.toList ++ S) h1) : Zt y Φ (rc + zm_k y') (rs + zm_s y') pc L (av.reverse ++ .ref b :: S) h := by
  refine Zt.run (y' := y') (av := .ref b :: av) (Ψ := Ψ) ?_ (fun k => (zalS_app.mp k).2.2) kk
  intro l D dA b0 p e s m args below meth c X tr H locs cells slots ls hH hS hz hl hck hsk
  have hav : zalS h (.ref b :: av) := ⟨(zalS_app.mp hS).2.1, zalS_mem.mpr (fun v hv => zalS_mem.mp hS v (List.mem_append_left _ (List.mem_reverse.mpr hv)))⟩
  obtain ⟨hx, hb, hr0, hmlx, hown, hts, hlkx, hnm, hK, hN, hbx⟩ := id X
  have hstk : (F0 m pc ls ((av.reverse ++ .ref b :: S).map (ztr tr))).stack = (av.map (ztr tr)).reverse ++ .ref (tr b) :: S.map (ztr tr) := by rw [List.map_append, List.map_reverse]; rfl
  have hW8 : 2 * (F0 m pc ls ((av.reverse ++ .ref b :: S).map (ztr tr))).monitorRoom + ((S.map (ztr tr)).map fun v => v.category).sum ≤ 8 := by rw [zcatsum]; show 2 * 0 + _ ≤ 8; omega
  obtain ⟨cellB, g1, g2, g3, -⟩ := (hH.1 b (by omega)).1.2.2 ci r hb0 hr
  have hrecv : ∃ cellB : Cell, H[tr b]? = some cellB ∧ cellB.vm.isStatics = false ∧ s.vm.findClass (zm_x y').cls = some cellB.cls := ⟨cellB, g1, by rw [g3]; rfl, by rw [g2, ← hcl]; exact (hK.1 ci r hr).2.1⟩
  rcases hlk with hlk | ⟨host, hlk⟩
  · exact va_runV (Ts := zgood) (C := (zm_x y').cls) ⟨hx, hb, hmlx, hown, hts⟩ (hC l D dA b0 tr) (cwV n hts (zgoodIn (fun w hw => by
      rcases List.mem_append.mp hw with g | g
      · rcases List.mem_cons.mp g with rfl | g
        · exact hlk
        · rcases List.mem_cons.mp g with rfl | g
          · exact hin
          · rcases List.mem_cons.mp g with rfl | g
            · exact hse
            · rcases List.mem_cons.mp g with rfl | g
              · exact ok.2.1
              · cases g
      · exact zws_in ok w g)) rfl rfl rfl ⟨rfl, ok.2.2.1, ok.2.2.2.1, ok.2.2.2.2⟩ ⟨hdp, by show 8 + (zm_n y' + 11) + 64 * zm_d y' ≤ 64 * zm_d y; omega⟩) ⟨zPc_blind, hrecv, zpre X hH hz hav⟩ rfl (by rw [List.length_map]; exact hn) hl hstk hW8 hd ⟨hck, hsk⟩
  · exact va_runVN (Ts := zgood) (host := host) (C := (zm_x y').cls) ⟨hx, hb, hmlx, hown, hts⟩ (hC l D dA b0 tr) ⟨va_cnB n hts (zgoodIn (zws_in ok)) rfl rfl rfl (hN.1 _ hlk) (hts _ ok.2.1) ⟨ok.2.2.1, ok.2.2.2.1, ok.2.2.2.2⟩ ⟨hdp, by show 8 + (zm_n y' + 11) + 64 * zm_d y' ≤ 64 * zm_d y; omega⟩, hts _ hin, hts _ hse⟩ ⟨zPc_blind, hrecv, zpre X hH hz hav⟩ rfl (by rw [List.length_map]; exact hn) hl hstk hW8 hd ⟨hck, hsk⟩
theorem z_callC0 {y' : ZM} {b : Nat} {av : List Value} {n i : Nat} {Ψ : Option Value → ZH → Prop} (hC : Zc y' (.ref b :: av) h Ψ) (hd : decode (zm_c y) pc = .ok (.invokespecial i, 3)) (hlk : zML (zm_x y).cls i (zm_x y')) (ok : zOK y' n) (hrt : zm_r y' = none) (hin : Cond.instanceMethod (zm_x y') ∈ zgood) (hnm0 : (zm_x y').name = "<init>") (hn : av.length = n) (hw : (S.map fun v => v.category).sum ≤ 8) (hdp : zm_d y' + 1 ≤ zm_d y) (hml : zm_n y' ≤ 45)
    (kk : ∀ v h1, Ψ v h1 → Zt y Φ rc rs (pc + 3) L (v.toList ++ S) h1) : Zt y Φ (rc + zm_k y') (rs + zm_s y') pc L (av.reverse ++ .ref b :: S) h := by
  refine Zt.run (y' := y') (av := .ref b :: av) (Ψ := Ψ) ?_ (fun k => (zalS_app.mp k).2.2) kk
  intro l D dA b0 p e s m args below meth c X tr H locs cells slots ls hH hS hz hl hck hsk
  have hav : zalS h (.ref b :: av) := ⟨(zalS_app.mp hS).2.1, zalS_mem.mpr (fun v hv => zalS_mem.mp hS v (List.mem_append_left _ (List.mem_reverse.mpr hv)))⟩
  obtain ⟨hx, hb, hr0, hmlx, hown, hts, hlkx, hnm, hK, hN, hbx⟩ := id X
  have hstk : (F0 m pc ls ((av.reverse ++ .ref b :: S).map (ztr tr))).stack = (av.map (ztr tr)).reverse ++ .ref (tr b) :: S.map (ztr tr) := by rw [List.map_append, List.map_reverse]; rfl
  have hW8 : 2 * (F0 m pc ls ((av.reverse ++ .ref b :: S).map (ztr tr))).monitorRoom + ((S.map (ztr tr)).map fun v => v.category).sum ≤ 8 := by rw [zcatsum]; show 2 * 0 + _ ≤ 8; omega
  have hcw : zws y' = Cond.code (zm_x y') (zm_c y') (zm_n y') none :: zgood := by unfold zws; rw [hrt]
  rcases hlk with hlk | ⟨host, hlk⟩
  · exact va_runI (Ts := zgood) ⟨hx, hb, hmlx, hown, hts⟩ (hC l D dA b0 tr) ⟨callB_of n hts (zgoodIn (zws_in ok)) hcw rfl rfl (hts _ ok.2.1) (hts _ hlk) ⟨ok.2.2.1, ok.2.2.2.1, ok.2.2.2.2⟩ ⟨hdp, by show 8 + (zm_n y' + 11) + 64 * zm_d y' ≤ 64 * zm_d y; omega⟩, hnm0, hts _ hin⟩ ⟨zPc_blind, zpre X hH hz hav⟩ rfl (by rw [List.length_map]; exact hn) hl hstk hW8 hd ⟨hck, hsk⟩
  · exact va_runIN (Ts := zgood) (host := host) ⟨hx, hb, hmlx, hown, hts⟩ (hC l D dA b0 tr) ⟨va_cnB n hts (zgoodIn (zws_in ok)) hcw rfl rfl (hN.1 _ hlk) (hts _ ok.2.1) ⟨ok.2.2.1, ok.2.2.2.1, ok.2.2.2.2⟩ ⟨hdp, by show 8 + (zm_n y' + 11) + 64 * zm_d y' ≤ 64 * zm_d y; omega⟩, hnm0, hts _ hin⟩ ⟨zPc_blind, zpre X hH hz hav⟩ rfl (by rw [List.length_map]; exact hn) hl hstk hW8 hd ⟨hck, hsk⟩
end ZCALL
