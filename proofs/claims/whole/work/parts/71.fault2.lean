section FAULT2
variable {h : ZH} {ψ : Int32 → ZH → Prop} {np nm nh : Nat}
set_option maxHeartbeats 1000000 in
theorem s_X8_firstFault {a ns : Nat} {F : Nat → Int32} (X : Tx h a F ns) (k : ψ (fo F ns 0 0 0) h) : ZcI mX8_firstFault [.ref a] h ψ := by
  obtain ⟨x1, x2, x3, x4, x5, x6, x7⟩ := X
  refine wX8_firstFault ?_
  refine scan (A := fun i m d => Zt mX8_firstFault (zPI ψ) 0 0 6 [some (.ref a), some (.int (nI (m - (if 0 < d then 1 else 0)))), some (.int (nI d)), some (.int (nI i)), none] [] h) (F := F) (ns := ns) (res := fun v => ψ v h) (fun i m d hi hv no go => ?_) (fun m d hv r => ?_) ns 0 0 0 (by omega) ⟨by omega, by omega, by omega⟩ k
  · have e1 := nI_clamp (n := i) (by omega)
    have v1 : vp_in (nI i) 40 := vp_in_nI (by omega) (by omega)
    have fi := x7 i hi
    have le0 : (nI d ≤ 0) ↔ d = 0 := by rw [tI_le, nI_toInt (by omega), tI_0]; omega
    refine wX8_firstFault_6 ⟨x1, fun z => absurd z (by rw [x5]; exact cnt_le (by omega) hi), fun _ => ?_⟩
    simp only [x2, x3, x4, e1, v1, fi, ne_eq, nI_1]
    refine ⟨Nat.succ_ne_zero _, trivial, trivial, s_X8_isDigit (zb_if (fun dg => ?_) (fun nd => ?_))⟩
    · have n44 := isDg_44 dg
      have l4 : (4 < nI (d + 1)) ↔ ¬ d < 4 := by rw [tI_lt, nI_toInt (by omega)]; have : (4 : Int32).toInt = 4 := by decide
                                                 omega
      by_cases hd : 0 < d
      · by_cases h4 : d < 4
        · have es : stp m d (F i) = some (m, d + 1) := by unfold stp; rw [if_pos hd, if_neg n44, if_pos ⟨dg, h4⟩]
          refine ⟨fun z => absurd h4 (l4.mp z), fun _ => ⟨fun _ => ?_, fun z => absurd ?_ z⟩⟩
          · have := go _ _ es
            rw [if_pos (show 0 < d + 1 by omega)] at this
            rw [if_pos hd]
            exact this
          · rw [if_pos hd, tI_lt, nI_toInt (by omega)]
            have : (5 : Int32).toInt = 5 := by decide
            omega
        · have es : stp m d (F i) = none := by unfold stp; rw [if_pos hd, if_neg n44, if_neg (fun q => h4 q.2)]
          exact ⟨fun _ => no es, fun z => absurd (l4.mpr h4) z⟩
      · have d0 : d = 0 := by omega
        subst d0
        have l5 : (nI (m - (if 0 < 0 then 1 else 0)) < 5) ↔ m < 5 := by
          rw [if_neg (by omega), tI_lt, nI_toInt (by omega)]
          have : (5 : Int32).toInt = 5 := by decide
          omega
        refine ⟨fun z => absurd (by omega) (l4.mp z), fun _ => ⟨fun z => ?_, fun z => ?_⟩⟩
        · have es : stp m 0 (F i) = some (m + 1, 1) := by unfold stp; rw [if_neg hd, if_pos (Or.inl dg), if_pos (l5.mp z), if_pos dg]
          have := go _ _ es
          rw [if_pos (show 0 < 1 by omega)] at this
          rw [if_neg hd]
          exact this
        · exact no (by unfold stp; rw [if_neg hd, if_pos (Or.inl dg), if_neg (fun q => z (l5.mpr q))])
    · simp only [x1, x2, x3, x4, e1, v1, fi, ne_eq]
      refine ⟨fun z => ⟨trivial, Nat.succ_ne_zero _, trivial, trivial, fun n44 => ?_, fun y44 => ?_⟩, fun z => ⟨trivial, Nat.succ_ne_zero _, trivial, trivial, fun n44 => ?_, fun y44 => ?_⟩⟩
      · have d0 := le0.mp z
        subst d0
        refine wX8_firstFault_74 (Z1 ?_)
        simp only [x1, x2, x3, x4, e1, v1, fi, ne_eq]
        refine ⟨trivial, Nat.succ_ne_zero _, trivial, trivial, s_hb ?_⟩
        rw [if_neg (show ¬ 0 < 0 by omega), Nat.sub_zero, hb_ok hv.1 n44 nd]
        cases es : stp m 0 (F i) with
        | none => exact ⟨fun q => absurd rfl q, fun _ => no es⟩
        | some s =>
          have si := stp_inv hv es
          refine ⟨fun _ => ?_, fun q => absurd q (nI_ne6 (by omega))⟩
          have s2 : s.2 = 0 := by
            unfold stp at es
            rw [if_neg (show ¬ 0 < 0 by omega)] at es
            repeat' split at es
            all_goals first
              | (cases es; done)
              | (cases es; rfl)
              | (cases es; rename_i q; exact absurd q nd)
          have := go s.1 s.2 es
          rw [s2, if_neg (show ¬ 0 < 0 by omega), Nat.sub_zero] at this
          rw [nI_1]
          exact this
      · have d0 := le0.mp z
        subst d0
        refine wX8_firstFault_74 (Z0 (no ?_))
        rw [y44]
        unfold stp
        rw [if_neg (by omega), if_neg (by decide), if_neg (by decide), if_neg (by decide)]
      · have hd : 0 < d := by
          have : ¬ d = 0 := fun q => z (le0.mpr q)
          omega
        refine wX8_firstFault_74 (Z0 (no ?_))
        unfold stp
        rw [if_pos hd, if_neg n44, if_neg (fun q => nd q.1)]
      · have hd : 0 < d := by
          have : ¬ d = 0 := fun q => z (le0.mpr q)
          omega
        have hm := hv.2.2 hd
        have es : stp m d (F i) = some (m, 0) := by unfold stp; rw [if_pos hd, if_pos y44]
        refine wX8_firstFault_74 (Z1 ?_)
        simp only [x1, x2, x3, x4, e1, v1, fi, ne_eq]
        refine ⟨trivial, Nat.succ_ne_zero _, trivial, trivial, s_hb ?_⟩
        rw [if_pos hd, hb_f (by simp [y44]), if_neg (by
          rw [tI_le, nI_toInt (by omega)]
          have : (5 : Int32).toInt = 5 := by decide
          omega), nI_1, nI_1, Nat.sub_add_cancel hm]
        refine ⟨fun _ => ?_, fun q => absurd q (nI_ne6 (by omega))⟩
        have := go _ _ es
        rw [if_neg (show ¬ 0 < 0 by omega), Nat.sub_zero] at this
        exact this
  · have ed : (nI d = 0) ↔ d = 0 := ⟨fun q => nI_inj' (b := 0) (by omega) (by omega) q, fun q => by rw [q]; rfl⟩
    refine wX8_firstFault_6 ⟨x1, fun _ => ?_, fun z => absurd (by rw [x5]; exact Int32.le_refl _) z⟩
    rw [x5]
    refine ⟨fun z => ?_, fun z => ?_⟩
    · rw [if_neg (fun q => z (ed.mpr q.2))] at r; exact r
    · have d0 := ed.mp z
      subst d0
      rw [if_neg (show ¬ 0 < 0 by omega), Nat.sub_zero]
      have em : (nI m = 1) ↔ m = 1 := ⟨fun q => nI_inj' (b := 1) (by omega) (by omega) q, fun q => by rw [q]; rfl⟩
      refine ⟨fun y => ?_, fun y => ?_⟩
      · rw [if_neg (fun q => y (em.mpr q.1))] at r; exact r
      · rw [if_pos ⟨em.mp y, rfl⟩] at r; exact r
end FAULT2
