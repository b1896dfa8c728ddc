section THREAT
variable {h : ZH} {np nm nh : Nat}
theorem zI_cpn {h : ZH} {b s a d n q j : Nat} (e : q ≠ a) : zI (zcp h b s a d n) q j = zI h q j := if_neg (fun x => e x.1)
theorem zI_cps {h : ZH} {b a n j : Nat} (e : j < n) : zI (zcp h b 0 a 0 n) a j = zI h b j := by
  show (if a = a ∧ 0 ≤ j ∧ j < 0 + n then zI h b (0 + (j - 0)) else zI h a j) = _
  rw [if_pos ⟨rfl, by omega, by omega⟩, Nat.sub_zero, Nat.zero_add]
/-- the trial water is as the true one -/
def CP (H h : ZH) : Prop := zK H = zK h ∧ zN H = zN h ∧ zR H = zR h ∧ (∀ a j, ¬ (70 ≤ a ∧ a ≤ 78) → zI H a j = zI h a j) ∧ (∀ p, p < 8 → zI H 71 p = zI h 61 p ∧ zI H 72 p = zI h 62 p ∧ zI H 73 p = zI h 63 p ∧ zI H 74 p = zI h 64 p ∧ zI H 75 p = zI h 65 p) ∧ (∀ v, v < 12 → zI H 76 v = zI h 66 v ∧ zI H 77 v = zI h 67 v ∧ zI H 78 v = zI h 68 v) ∧ zI H 70 5 = zI h 60 5 ∧ zI H 70 9 = zI h 60 9 ∧ zI H 70 10 = zI h 60 10 ∧ zI H 70 11 = zI h 60 11 ∧ zI H 70 12 = zI h 60 12
/-- the pumps are copied one by one -/
theorem s_X9_pumps {ψ : ZH → Prop} (S : Sh h np nm nh) (h01 : ∀ j, j < 8 → zI h 64 j = 0 ∨ zI h 64 j = 1) (k : ∀ H, zK H = zK h → zN H = zN h → zR H = zR h → (∀ a j, a ≠ 74 → zI H a j = zI h a j) → (∀ j, j < 8 → zI H 74 j = zI h 64 j) → Zt mX9_copyFrom (zPV ψ) 0 0 62 [some (.ref 70), some (.ref 60), some (.int 8)] [] H) : Zt mX9_copyFrom (zPV ψ) 0 0 62 [some (.ref 70), some (.ref 60), some (.int 0)] [] h := by
  refine down (I := fun n => ∀ H, zK H = zK h → zN H = zN h → zR H = zR h → (∀ a j, a ≠ 74 → zI H a j = zI h a j) → (∀ j, j < n → zI H 74 j = zI h 64 j) → Zt mX9_copyFrom (zPV ψ) 0 0 62 [some (.ref 70), some (.ref 60), some (.int (nI n))] [] H) (n := 8) k (fun m hm q => ?_) h rfl rfl rfl (fun _ _ _ => rfl) (fun j hj => absurd hj (Nat.not_lt_zero j))
  intro H K N R F G
  refine wX9_copyFrom_62 ?_
  have e1 := nI_clamp (n := m) (by omega)
  have v1 : vp_in (nI m) 8 := vp_in_nI (by omega) (by omega)
  have c1 : zI H 64 m = 0 ∨ zI H 64 m = 1 := by rw [F 64 m (by decide)]; exact h01 m hm
  refine Bf (cnt_le (n := 8) (by omega) hm) ?_
  simp only [K, N, R, shW S, shT S, e1, v1, ne_eq, nI_1]
  refine ⟨trivial, by decide, trivial, by decide, trivial, trivial, trivial, trivial, c1, ?_⟩
  refine q _ (by rw [zK_sI, K]) (by rw [zN_sI, N]) (by rw [zR_sI, R]) (fun a j n => by rw [zI_sIa n, F a j n]) (fun j hj => ?_)
  by_cases e : j = m
  · rw [e, zI_sIs, F 64 m (by decide)]
  · rw [zI_sIj e, G j (by omega)]
set_option maxHeartbeats 4000000 in
theorem s_X9_copy {ψ : ZH → Prop} (S : Sh h np nm nh) (h01 : ∀ j, j < 8 → zI h 64 j = 0 ∨ zI h 64 j = 1) (k : ∀ H, CP H h → ψ H) : ZcV mX9_copyFrom [.ref 70, .ref 60] h ψ := by
  refine wX9_copyFrom ?_
  simp only [shW S, shT S, ne_eq]
  refine ⟨trivial, by decide, trivial, by decide, trivial, trivial, by decide, by decide, by decide, fun a1 e1 => ?_⟩
  have K1 : zK a1 = zK h := by rw [e1, zK_cp]
  have N1 : zN a1 = zN h := by rw [e1, zN_cp]
  have R1 : zR a1 = zR h := by rw [e1, zR_cp]
  have F1 : ∀ a j, a ≠ 71 → zI a1 a j = zI h a j := fun a j q => by rw [e1, zI_cpn q]
  have G1 : ∀ j, j < 8 → zI a1 71 j = zI h 61 j := fun j q => by rw [e1, zI_cps q]
  clear e1
  simp only [K1, N1, R1, shW S, shT S, ne_eq]
  refine ⟨trivial, by decide, trivial, by decide, trivial, trivial, by decide, by decide, by decide, fun a2 e2 => ?_⟩
  have K2 : zK a2 = zK h := by rw [e2, zK_cp, K1]
  have N2 : zN a2 = zN h := by rw [e2, zN_cp, N1]
  have R2 : zR a2 = zR h := by rw [e2, zR_cp, R1]
  have F2 : ∀ a j, a ≠ 72 → zI a2 a j = zI a1 a j := fun a j q => by rw [e2, zI_cpn q]
  have G2 : ∀ j, j < 8 → zI a2 72 j = zI a1 62 j := fun j q => by rw [e2, zI_cps q]
  clear e2
  simp only [K2, N2, R2, shW S, shT S, ne_eq]
  refine ⟨trivial, by decide, trivial, by decide, trivial, trivial, by decide, by decide, by decide, fun a3 e3 => ?_⟩
  have K3 : zK a3 = zK h := by rw [e3, zK_cp, K2]
  have N3 : zN a3 = zN h := by rw [e3, zN_cp, N2]
  have R3 : zR a3 = zR h := by rw [e3, zR_cp, R2]
  have F3 : ∀ a j, a ≠ 73 → zI a3 a j = zI a2 a j := fun a j q => by rw [e3, zI_cpn q]
  have G3 : ∀ j, j < 8 → zI a3 73 j = zI a2 63 j := fun j q => by rw [e3, zI_cps q]
  clear e3
  simp only [K3, N3, R3, shW S, shT S, ne_eq]
  refine ⟨trivial, by decide, trivial, by decide, trivial, trivial, by decide, by decide, by decide, fun a4 e4 => ?_⟩
  have K4 : zK a4 = zK h := by rw [e4, zK_cp, K3]
  have N4 : zN a4 = zN h := by rw [e4, zN_cp, N3]
  have R4 : zR a4 = zR h := by rw [e4, zR_cp, R3]
  have F4 : ∀ a j, a ≠ 75 → zI a4 a j = zI a3 a j := fun a j q => by rw [e4, zI_cpn q]
  have G4 : ∀ j, j < 8 → zI a4 75 j = zI a3 65 j := fun j q => by rw [e4, zI_cps q]
  clear e4
  refine s_X9_pumps (S.same K4 N4 R4) (fun j hj => by rw [F4 64 j (by decide), F3 64 j (by decide), F2 64 j (by decide), F1 64 j (by decide)]; exact h01 j hj) (fun a5 k5 n5 r5 F5 G5 => ?_)
  have K5 : zK a5 = zK h := k5.trans K4
  have N5 : zN a5 = zN h := n5.trans N4
  have R5 : zR a5 = zR h := r5.trans R4
  clear k5 n5 r5
  refine wX9_copyFrom_62 ⟨fun _ => ?_, fun q => absurd (Int32.le_refl _) q⟩
  simp only [K5, N5, R5, shW S, shT S, ne_eq]
  refine ⟨trivial, trivial, by decide, by decide, trivial, trivial, by decide, by decide, by decide, fun a6 e6 => ?_⟩
  have K6 : zK a6 = zK h := by rw [e6, zK_cp, zK_sI, K5]
  have N6 : zN a6 = zN h := by rw [e6, zN_cp, zN_sI, N5]
  have R6 : zR a6 = zR h := by rw [e6, zR_cp, zR_sI, R5]
  have F6 : ∀ a j, a ≠ 76 → a ≠ 70 → zI a6 a j = zI a5 a j := fun a j q q2 => by rw [e6, zI_cpn q, zI_sIa q2]
  have G6 : ∀ j, j < 12 → zI a6 76 j = zI a5 66 j := fun j q => by rw [e6, zI_cps q, zI_sIa (by decide)]
  have X6 : zI a6 70 5 = zI a5 60 5 := by rw [e6, zI_cpn (by decide), zI_sIs]
  clear e6
  simp only [K6, N6, R6, shW S, shT S, ne_eq]
  refine ⟨trivial, by decide, trivial, by decide, trivial, trivial, by decide, by decide, by decide, fun a7 e7 => ?_⟩
  have K7 : zK a7 = zK h := by rw [e7, zK_cp, K6]
  have N7 : zN a7 = zN h := by rw [e7, zN_cp, N6]
  have R7 : zR a7 = zR h := by rw [e7, zR_cp, R6]
  have F7 : ∀ a j, a ≠ 77 → zI a7 a j = zI a6 a j := fun a j q => by rw [e7, zI_cpn q]
  have G7 : ∀ j, j < 12 → zI a7 77 j = zI a6 67 j := fun j q => by rw [e7, zI_cps q]
  clear e7
  simp only [K7, N7, R7, shW S, shT S, ne_eq]
  refine ⟨trivial, by decide, trivial, by decide, trivial, trivial, by decide, by decide, by decide, fun a8 e8 => ?_⟩
  have K8 : zK a8 = zK h := by rw [e8, zK_cp, K7]
  have N8 : zN a8 = zN h := by rw [e8, zN_cp, N7]
  have R8 : zR a8 = zR h := by rw [e8, zR_cp, R7]
  have F8 : ∀ a j, a ≠ 78 → zI a8 a j = zI a7 a j := fun a j q => by rw [e8, zI_cpn q]
  have G8 : ∀ j, j < 12 → zI a8 78 j = zI a7 68 j := fun j q => by rw [e8, zI_cps q]
  clear e8
  simp only [K8, shW S, shT S]
  refine ⟨trivial, trivial, fun b1 f1 => ?_⟩
  have k1 : zK b1 = zK h := by rw [f1, zK_sI, K8]
  simp only [k1, shW S, shT S]
  refine ⟨trivial, trivial, fun b2 f2 => ?_⟩
  have k2 : zK b2 = zK h := by rw [f2, zK_sI, k1]
  simp only [k2, shW S, shT S]
  refine ⟨trivial, trivial, fun b3 f3 => ?_⟩
  have k3 : zK b3 = zK h := by rw [f3, zK_sI, k2]
  simp only [k3, shW S, shT S]
  refine ⟨trivial, trivial, k _ ?_⟩
  have Y1 : ∀ a j, a ≠ 70 → zI b1 a j = zI a8 a j := fun a j q => by rw [f1, zI_sIa q]
  have Y2 : ∀ a j, a ≠ 70 → zI b2 a j = zI a8 a j := fun a j q => by rw [f2, zI_sIa q, Y1 a j q]
  have Y3 : ∀ a j, a ≠ 70 → zI b3 a j = zI a8 a j := fun a j q => by rw [f3, zI_sIa q, Y2 a j q]
  have Y4 : ∀ a j, a ≠ 70 → zI (zsI b3 70 12 (zI b3 60 12)) a j = zI a8 a j := fun a j q => by rw [zI_sIa q, Y3 a j q]
  have O : ∀ a j, ¬ (70 ≤ a ∧ a ≤ 78) → zI a8 a j = zI h a j := fun a j q => by
    rw [F8 a j (by omega), F7 a j (by omega), F6 a j (by omega) (by omega), F5 a j (by omega), F4 a j (by omega), F3 a j (by omega), F2 a j (by omega), F1 a j (by omega)]
  have Z : ∀ j, j ≠ 9 → j ≠ 10 → j ≠ 11 → j ≠ 12 → zI (zsI b3 70 12 (zI b3 60 12)) 70 j = zI a8 70 j := fun j q1 q2 q3 q4 => by rw [zI_sIj q4, f3, zI_sIj q3, f2, zI_sIj q2, f1, zI_sIj q1]
  refine ⟨by rw [zK_sI, k3], by rw [zN_sI, f3, zN_sI, f2, zN_sI, f1, zN_sI, N8], by rw [zR_sI, f3, zR_sI, f2, zR_sI, f1, zR_sI, R8], fun a j q => (Y4 a j (by omega)).trans (O a j q), fun p hp => ⟨?_, ?_, ?_, ?_, ?_⟩, fun v hv => ⟨?_, ?_, ?_⟩, ?_, ?_, ?_, ?_, ?_⟩
  · rw [Y4 71 p (by decide), F8 71 p (by decide), F7 71 p (by decide), F6 71 p (by decide) (by decide), F5 71 p (by decide), F4 71 p (by decide), F3 71 p (by decide), F2 71 p (by decide), G1 p hp]
  · rw [Y4 72 p (by decide), F8 72 p (by decide), F7 72 p (by decide), F6 72 p (by decide) (by decide), F5 72 p (by decide), F4 72 p (by decide), F3 72 p (by decide), G2 p hp, F1 62 p (by decide)]
  · rw [Y4 73 p (by decide), F8 73 p (by decide), F7 73 p (by decide), F6 73 p (by decide) (by decide), F5 73 p (by decide), F4 73 p (by decide), G3 p hp, F2 63 p (by decide), F1 63 p (by decide)]
  · rw [Y4 74 p (by decide), F8 74 p (by decide), F7 74 p (by decide), F6 74 p (by decide) (by decide), G5 p hp, F4 64 p (by decide), F3 64 p (by decide), F2 64 p (by decide), F1 64 p (by decide)]
  · rw [Y4 75 p (by decide), F8 75 p (by decide), F7 75 p (by decide), F6 75 p (by decide) (by decide), F5 75 p (by decide), G4 p hp, F3 65 p (by decide), F2 65 p (by decide), F1 65 p (by decide)]
  · rw [Y4 76 v (by decide), F8 76 v (by decide), F7 76 v (by decide), G6 v hv, F5 66 v (by decide), F4 66 v (by decide), F3 66 v (by decide), F2 66 v (by decide), F1 66 v (by decide)]
  · rw [Y4 77 v (by decide), F8 77 v (by decide), G7 v hv, F6 67 v (by decide) (by decide), F5 67 v (by decide), F4 67 v (by decide), F3 67 v (by decide), F2 67 v (by decide), F1 67 v (by decide)]
  · rw [Y4 78 v (by decide), G8 v hv, F7 68 v (by decide), F6 68 v (by decide) (by decide), F5 68 v (by decide), F4 68 v (by decide), F3 68 v (by decide), F2 68 v (by decide), F1 68 v (by decide)]
  · rw [Z 5 (by decide) (by decide) (by decide) (by decide), F8 70 5 (by decide), F7 70 5 (by decide), X6, F5 60 5 (by decide), F4 60 5 (by decide), F3 60 5 (by decide), F2 60 5 (by decide), F1 60 5 (by decide)]
  · rw [zI_sIj (by decide), f3, zI_sIj (by decide), f2, zI_sIj (by decide), f1, zI_sIs, O 60 9 (by omega)]
  · rw [zI_sIj (by decide), f3, zI_sIj (by decide), f2, zI_sIs, Y1 60 10 (by decide), O 60 10 (by omega)]
  · rw [zI_sIj (by decide), f3, zI_sIs, Y2 60 11 (by decide), O 60 11 (by omega)]
  · rw [zI_sIs, Y3 60 12 (by decide), O 60 12 (by omega)]
end THREAT
