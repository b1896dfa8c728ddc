section FAULT3
variable {h : ZH} {ψ : Int32 → ZH → Prop} {np nm nh : Nat}
theorem s_X11_isDigit {c : Int32} (k : ψ (zb (isDg c)) h) : ZcI mX11_isDigit [.int c] h ψ := wX11_isDigit (s_X11_inI (b := 48) (c := 57) rfl rfl ⟨zb_01, k⟩)
theorem s_X11_isFact {c : Int32} (k : ψ (zb (isFa c)) h) : ZcI mX11_isFact [.int c] h ψ := by
  have t : isFa c → ψ 1 h := fun e => by rw [zb_t e] at k; exact k
  refine wX11_isFact ⟨fun e => t (by simp [isFa, e]), fun n1 => ⟨fun e => t (by simp [isFa, e]), fun n2 => ⟨fun e => t (by simp [isFa, e]), fun n3 => ⟨fun e => t (by simp [isFa, e]), fun n4 => ⟨fun n5 => ?_, fun e => t (by simp [isFa, e])⟩⟩⟩⟩⟩
  rw [zb_f (by simp [isFa, *])] at k
  exact k
theorem s_X11_isAct {c : Int32} (k : ψ (zb (isAc c)) h) : ZcI mX11_isAct [.int c] h ψ := by
  have t : isAc c → ψ 1 h := fun e => by rw [zb_t e] at k; exact k
  refine wX11_isAct ⟨fun e => t (by simp [isAc, e]), fun n1 => ⟨fun e => t (by simp [isAc, e]), fun n2 => ⟨fun e => t (by simp [isAc, e]), fun n3 => ⟨fun e => t (by simp [isAc, e]), fun n4 => ⟨fun e => t (by simp [isAc, e]), fun n5 => ⟨fun e => t (by simp [isAc, e]), fun n6 => ⟨fun e => t (by simp [isAc, e]), fun n7 => ⟨fun n8 => ?_, fun e => t (by simp [isAc, e])⟩⟩⟩⟩⟩⟩⟩⟩
  rw [zb_f (by simp [isAc, *])] at k
  exact k
set_option maxHeartbeats 1000000 in
theorem s_X11_fault {ns : Nat} (S : Sh h np nm nh) (c : zI h 221 3 = nI ns) (hn : ns ≤ 40) (k : ψ (fo (fun j => zI h 220 (120 + j)) ns 0 0 0) h) : ZcI mX11_fault [.ref 200] h ψ := by
  refine wX11_fault ?_
  refine scan (A := fun i m d => Zt mX11_fault (zPI ψ) 0 0 6 [some (.ref 200), some (.int (nI m)), some (.int (nI d)), some (.int (nI i)), none, none] [] h) (F := fun j => zI h 220 (120 + j)) (ns := ns) (res := fun v => ψ v h) (fun i m d hi hv no go => ?_) (fun m d hv r => ?_) ns 0 0 0 (by omega) ⟨by omega, by omega, by omega⟩ k
  · have v2 : vp_in (120 + nI i) 160 := by rw [show (120 : Int32) = nI 120 from rfl, nI_add]; exact vp_in_nI (by omega) (by omega)
    have e2 : (120 + nI i).toNatClampNeg = 120 + i := by rw [show (120 : Int32) = nI 120 from rfl, nI_add, nI_clamp (by omega)]
    have le0 : (nI d ≤ 0) ↔ d = 0 := by rw [tI_le, nI_toInt (by omega), tI_0]; omega
    have l5 : (5 ≤ nI m) ↔ ¬ m < 5 := by
      rw [tI_le, nI_toInt (by omega)]
      have : (5 : Int32).toInt = 5 := by decide
      omega
    have l4 : (4 ≤ nI d) ↔ ¬ d < 4 := by
      rw [tI_le, nI_toInt (by omega)]
      have : (4 : Int32).toInt = 4 := by decide
      omega
    have l1 : (1 < nI m) ↔ 1 < m := by rw [tI_lt, nI_toInt (by omega), tI_1]; omega
    have l0 : (nI m ≤ 0) ↔ ¬ 0 < m := by rw [tI_le, nI_toInt (by omega), tI_0]; omega
    have no' : stp m d (zI h 220 (120 + i)) = none → ψ (nI i) h := no
    have go' : ∀ m' d', stp m d (zI h 220 (120 + i)) = some (m', d') → Zt mX11_fault (zPI ψ) 0 0 6 [some (.ref 200), some (.int (nI m')), some (.int (nI d')), some (.int (nI (i + 1))), none, none] [] h := go
    refine wX11_fault_6 ?_
    simp only [shM S, c, e2, v2, ne_eq, forall_eq, nI_1]
    refine ⟨trivial, by decide, trivial, by decide, fun z => absurd z (cnt_le (by omega) hi), fun _ => ⟨by decide, trivial, trivial, fun z => ?_, fun z => ?_⟩⟩
    · have d0 := le0.mp z
      subst d0
      generalize zI h 220 (120 + i) = g at no' go'
      have r92 : isDg g ∨ isFa g → Zt mX11_fault (zPI ψ) 0 0 92 [some (.ref 200), some (.int (nI m)), none, some (.int (nI i)), some (.int g), none] [] h := fun df => by
        refine wX11_fault_92 ⟨fun y => ?_, fun y => ?_⟩
        · have := no' (by unfold stp; rw [if_neg (by omega), if_pos df, if_neg (l5.mp y)])
          exact s_X11_isDigit ⟨fun _ => this, fun _ => this⟩
        · have m5 : m < 5 := Classical.not_not.mp (fun x => y (l5.mpr x))
          have es : stp m 0 g = some (m + 1, if isDg g then 1 else 0) := by unfold stp; rw [if_neg (by omega), if_pos df, if_pos m5]
          rw [nI_1, nI_1]
          refine s_X11_isDigit (zb_if (fun x => ?_) (fun x => ?_))
          · rw [if_pos x] at es; exact go' _ _ es
          · rw [if_neg x] at es; exact go' _ _ es
      refine s_X11_isDigit ⟨fun q => r92 (Or.inl (Classical.not_not.mp (fun x => q (zb_eq0.mpr x)))), fun q => s_X11_isFact (zb_if (fun x => r92 (Or.inr x)) (fun nf => ?_))⟩
      have nd := zb_eq0.mp q
      have ndf : ¬ (isDg g ∨ isFa g) := fun x => x.elim nd nf
      have r137 : (isAc g → ¬ 1 < m) → Zt mX11_fault (zPI ψ) 0 0 137 [some (.ref 200), some (.int (nI m)), some (.int (nI 0)), some (.int (nI i)), some (.int g), none] [] h := fun ha => by
        refine wX11_fault_137 ⟨fun n33 => ?_, fun y33 => ?_⟩
        · have := no' (by
            unfold stp
            rw [if_neg (by omega), if_neg ndf]
            by_cases a : isAc g
            · rw [if_pos a, if_neg (ha a)]
            · rw [if_neg a, if_neg n33])
          exact s_X11_isAct ⟨fun _ => this, fun _ => this⟩
        · have na : ¬ isAc g := by subst y33; decide
          refine ⟨fun y => ?_, fun y => ?_⟩
          · have := no' (by unfold stp; rw [if_neg (by omega), if_neg ndf, if_neg na, if_pos y33, if_neg (l0.mp y)])
            exact s_X11_isAct ⟨fun _ => this, fun _ => this⟩
          · have m0 : 0 < m := Classical.not_not.mp (fun x => y (l0.mpr x))
            have es : stp m 0 g = some (m, 0) := by unfold stp; rw [if_neg (by omega), if_neg ndf, if_neg na, if_pos y33, if_pos m0]
            rw [nI_1, Int32.sub_zero]
            exact s_X11_isAct (zb_if (fun x => absurd x na) (fun _ => go' _ _ es))
      refine s_X11_isAct (zb_if (fun ya => ⟨fun y => ?_, fun y => r137 (fun _ q => y (l1.mpr q))⟩) (fun na => r137 (fun x => absurd x na)))
      have es : stp m 0 g = some (m - 1, 0) := by unfold stp; rw [if_neg (by omega), if_neg ndf, if_pos ya, if_pos (l1.mp y)]
      refine s_X11_isAct (zb_if (fun _ => ?_) (fun x => absurd ya x))
      have := go' _ _ es
      obtain ⟨x, rfl⟩ : ∃ x, m = x + 1 := ⟨m - 1, by have := l1.mp y; omega⟩
      rw [nI_pred]
      exact this
    · have hd : 0 < d := by
        have : ¬ d = 0 := fun q => z (le0.mpr q)
        omega
      generalize zI h 220 (120 + i) = g at no' go'
      refine ⟨fun y => ⟨fun q => absurd y q, fun _ => go' _ _ (by unfold stp; rw [if_pos hd, if_pos y])⟩, fun y => s_X11_isDigit (zb_if (fun dg => ⟨fun w => ?_, fun w => ?_⟩) (fun nd => ?_))⟩
      · have := no' (by unfold stp; rw [if_pos hd, if_neg y, if_neg (fun q => l4.mp w q.2)])
        exact ⟨fun _ => this, fun _ => this⟩
      · exact ⟨fun _ => go' _ _ (by unfold stp; rw [if_pos hd, if_neg y, if_pos ⟨dg, Classical.not_not.mp (fun x => w (l4.mpr x))⟩]), fun q => absurd q y⟩
      · have := no' (by unfold stp; rw [if_pos hd, if_neg y, if_neg (fun q => nd q.1)])
        exact ⟨fun _ => this, fun _ => this⟩
  · have ed : (nI d = 0) ↔ d = 0 := ⟨fun q => nI_inj' (b := 0) (by omega) (by omega) q, fun q => by rw [q]; rfl⟩
    have em : (nI m = 1) ↔ m = 1 := ⟨fun q => nI_inj' (b := 1) (by omega) (by omega) q, fun q => by rw [q]; rfl⟩
    refine wX11_fault_6 ?_
    simp only [shM S, c, ne_eq]
    refine ⟨trivial, by decide, trivial, by decide, fun _ => ⟨fun y => ?_, fun y => ⟨fun z => ?_, fun z => ?_⟩⟩, fun z => absurd (Int32.le_refl _) z⟩
    · rw [if_neg (fun q => y (em.mpr q.1))] at r; exact r
    · rw [if_neg (fun q => z (ed.mpr q.2))] at r; exact r
    · rw [if_pos ⟨em.mp y, ed.mp z⟩] at r; exact r
end FAULT3
