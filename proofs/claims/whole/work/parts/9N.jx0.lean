section JX0
variable {M : Nat} {h : ZH} {f : Nat → Nat → Int32}
theorem Fz3_0 {b : Nat} (h5 : 5 ≤ b) (h1 : b < 90 ∨ 92 < b) (h2 : b ≠ 23) (h3 : b ≠ 219) (h4 : b ≠ 221) (h6 : b ≠ 245) (j : Nat) : Fz3 f b j = 0 := by
  unfold Fz3
  rw [if_neg h3, if_neg (fun z => h6 z.1), if_neg (fun z => h4 z.1), Fz2_0 h5 h1 h2]
set_option maxRecDepth 100000 in
set_option maxHeartbeats 4000000 in
theorem Jx0 (S : ST M lD eD (Fz3 f) h) (f1 : ∀ k, k < 7 → f 1 k = atF k) (f2 : ∀ k, k < 7 → f 2 k = sLo k) (f3 : ∀ k, k < 7 → f 3 k = sHi k) : Jx h 0 M (f 4) := by
  have I := S.2.2.2.1
  have lT : ∀ t, t < 6 → lD.contains (12 + t) = true := by decide
  have lR : ∀ r, r < 3 → lD.contains (27 + 2 * r) = true := by decide
  have lV : ∀ r, r < 3 → lD.contains (90 + r) = true := by decide
  have z : ∀ b, lD.contains b = true → 5 ≤ b → (b < 90 ∨ 92 < b) → b ≠ 23 → b ≠ 219 → b ≠ 221 → b ≠ 245 → ∀ j, zI h b j = 0 := fun b hb h5 h1 h2 h3 h4 h6 j => by rw [I b hb j, Fz3_0 h5 h1 h2 h3 h4 h6]
  have z10 := z 10 (by decide) (by decide) (by decide) (by decide) (by decide) (by decide) (by decide)
  have z200 := z 200 (by decide) (by decide) (by decide) (by decide) (by decide) (by decide) (by decide)
  have z60 := z 60 (by decide) (by decide) (by decide) (by decide) (by decide) (by decide) (by decide)
  have z24 := z 24 (by decide) (by decide) (by decide) (by decide) (by decide) (by decide) (by decide)
  have z221 : zI h 221 3 = 0 := by rw [I 221 (by decide) 3]; unfold Fz3; rw [if_neg (by decide), if_neg (by decide), if_neg (by decide), Fz2_0 (by decide) (by decide) (by decide)]
  have n0 : (0 : Int32) = nI 0 := rfl
  have sh : Sh h 0 0 0 := by
    refine ⟨fun a ha => ?_, fun a ha h4 => ?_, fun a k q => ?_, fun p hp => absurd hp (by omega), fun p _ hp => ?_, fun m hm => absurd hm (by omega), fun m _ hm => ?_, fun k hk => absurd hk (by omega), fun k _ hk => ?_⟩
    · rw [S.1 a (by omega)]
      rcases lD_1 a ha with c | c
      · rw [if_pos c]
      · by_cases d : lD.contains a = true
        · rw [if_pos d]
        · rw [if_neg d, c.1]
    · rw [S.2.1 a ha h4]
      rcases lD_1 a ha with c | c
      · rw [if_pos c]
      · by_cases d : lD.contains a = true
        · rw [if_pos d]
        · rw [if_neg d, c.2]
    · have w := cR_lt2 q
      exact S.rf (eD_1 a w.1 k w.2 q)
    · have w := fun d hd => S.zz (lD_2 d hd) (by omega)
      have w1 := w (3 * p) (by omega)
      have w2 := w (3 * p + 1) (by omega)
      have w3 := w (3 * p + 2) (by omega)
      exact ⟨w1, by rw [show 301 + 3 * p = 300 + (3 * p + 1) by omega]; exact w2, by rw [show 302 + 3 * p = 300 + (3 * p + 2) by omega]; exact w3⟩
    · rw [show 400 + m = 300 + (100 + m) by omega]
      exact S.zz (lD_2 _ (by omega)) (by omega)
    · refine ⟨?_, ?_⟩
      · rw [show 500 + 2 * k = 300 + (200 + 2 * k) by omega]; exact S.zz (lD_2 _ (by omega)) (by omega)
      · rw [show 501 + 2 * k = 300 + (201 + 2 * k) by omega]; exact S.zz (lD_2 _ (by omega)) (by omega)
  refine ⟨0, 0, 0, 0, 0, 0, ⟨sh, ?_, fun t ht => ?_, ⟨fun p hp => absurd hp (by omega), fun p t hp => absurd hp (by omega), fun p _ _ => ?_, fun p t _ _ _ => ?_⟩, fun m hm => absurd hm (by omega), fun k hk => ?_, fun j hj => absurd hj (by omega), fun r hr => Or.inl ⟨?_, ?_⟩, ⟨fun p hp => ?_, fun p hp => absurd hp (by omega), fun w hw => absurd hw (by omega)⟩, fun r t hr ht => ?_, fun k hk => absurd hk (by omega)⟩, S.2.2.2.2, fun j hj => ?_⟩
  · unfold JC
    simp only [z10, z200, z60, z24, z221]
    exact ⟨⟨rfl, rfl, rfl, by omega⟩, ⟨rfl, rfl, by omega⟩, ⟨rfl, rfl, by omega⟩, ⟨rfl, rfl, by omega⟩, ⟨rfl, rfl, by omega⟩, ⟨rfl, rfl, by omega⟩, trivial, trivial⟩
  · have a := z (12 + t) (lT t ht) (by omega) (by omega) (by omega) (by omega) (by omega) (by omega)
    have b := z 201 (by decide) (by decide) (by decide) (by decide) (by decide) (by decide) (by decide)
    have c := z 202 (by decide) (by decide) (by decide) (by decide) (by decide) (by decide) (by decide)
    rw [a, a, b, c]
    exact ⟨rfl, rfl, ⟨by decide, by decide⟩, ⟨by decide, by decide⟩⟩
  · exact z 248 (by decide) (by decide) (by decide) (by decide) (by decide) (by decide) (by decide) p
  · exact z 209 (by decide) (by decide) (by decide) (by decide) (by decide) (by decide) (by decide) _
  · have a23 : zI h 23 k = atF k := by
      rw [I 23 (by decide) k]
      unfold Fz3 Fz2
      rw [if_neg (by decide), if_neg (fun z => absurd z.1 (by decide)), if_neg (fun z => absurd z.1 (by decide)), if_pos ⟨rfl, hk⟩, f1 k hk]
    have a219 : zI h 219 k = atF k := by rw [I 219 (by decide) k]; unfold Fz3; rw [if_pos rfl]
    have st : ∀ b, b < 5 → lD.contains b = true → zI h b k = f b k := fun b hb hl => by
      rw [I b hl k]
      unfold Fz3 Fz2 Fz1 Fz0
      rw [if_neg (by omega), if_neg (fun z => absurd z.1 (by omega)), if_neg (fun z => absurd z.1 (by omega)), if_neg (fun z => absurd z.1 (by omega)), if_neg (by omega), if_pos hb]
    rw [a23, a219, st 2 (by decide) (by decide), st 3 (by decide) (by decide), f2 k hk, f3 k hk]
    have tb : ∀ k, k < 7 → sLo k ≤ atF k ∧ atF k ≤ sHi k := by decide
    exact ⟨rfl, (tb k hk).1, (tb k hk).2, rfl, rfl⟩
  · rw [I 221 (by decide) r]
    unfold Fz3
    rw [if_neg (by decide), if_neg (fun z => absurd z.1 (by decide)), if_pos ⟨rfl, hr⟩]
  · exact z (27 + 2 * r) (lR r hr) (by omega) (by omega) (by omega) (by omega) (by omega) (by omega) 1
  · have a := fun b hb h5 => z b hb h5
    rw [z 62 (by decide) (by decide) (by decide) (by decide) (by decide) (by decide) (by decide), z 63 (by decide) (by decide) (by decide) (by decide) (by decide) (by decide) (by decide), z 233 (by decide) (by decide) (by decide) (by decide) (by decide) (by decide) (by decide), z 234 (by decide) (by decide) (by decide) (by decide) (by decide) (by decide) (by decide), z 64 (by decide) (by decide) (by decide) (by decide) (by decide) (by decide) (by decide)]
    exact ⟨rfl, rfl, fun _ => ⟨rfl, rfl, rfl⟩⟩
  · have a : zI h (90 + r) t = 100 := by
      rw [I (90 + r) (lV r hr) t]
      unfold Fz3 Fz2 Fz1
      rw [if_neg (by omega), if_neg (fun z => absurd z.1 (by omega)), if_neg (fun z => absurd z.1 (by omega)), if_neg (fun z => absurd z.1 (by omega)), if_pos ⟨by omega, by omega, ht⟩]
    have b : zI h 245 (5 * r + t) = 100 := by
      rw [I 245 (by decide) _]
      unfold Fz3
      rw [if_neg (by decide), if_pos ⟨rfl, by omega⟩]
    rw [a, b]
    exact ⟨rfl, by decide, by decide⟩
  · rw [I 4 (by decide) j]
    unfold Fz3 Fz2 Fz1 Fz0
    rw [if_neg (by decide), if_neg (fun z => absurd z.1 (by decide)), if_neg (fun z => absurd z.1 (by decide)), if_neg (fun z => absurd z.1 (by decide)), if_neg (by omega), if_pos (by decide)]
end JX0
