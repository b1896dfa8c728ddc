set_option maxRecDepth 100000 in
set_option maxHeartbeats 4000000 in
theorem wJ9_abs_0f7a4 {ψ : Int32 → ZH → Prop} {l0 : Int32} {h : ZH} (hF : ((0 ≤ l0 → ψ l0 h) ∧ (¬ 0 ≤ l0 → ψ (-l0) h))) : ZcI mJ9_abs_0f7a4 [.int l0] h ψ := by
  refine Zc.intro (L := [some (.int l0)]) (by decide) rfl (by decide) ?_
  show Zt _ _ 0 0 _ _ _ _
  refine z_iload_n (q := 1) dJ9_abs_0f7a4_0 rfl rfl rfl ?_
  refine z_if_ge (t := 9) (q := 4) dJ9_abs_0f7a4_1 (by decide) rfl (fun hc => ?_) (fun hc => ?_)
  · have hF := hF.1 hc
    refine z_iload_n (q := 10) dJ9_abs_0f7a4_9 rfl rfl rfl ?_
    exact z_ireturn dJ9_abs_0f7a4_10 rfl ⟨_, rfl, hF⟩
  · have hF := hF.2 hc
    refine z_iload_n (q := 5) dJ9_abs_0f7a4_4 rfl rfl rfl ?_
    refine z_ineg (q := 6) dJ9_abs_0f7a4_5 rfl ?_
    refine z_goto (q := 10) dJ9_abs_0f7a4_6 (by decide) ?_
    exact z_ireturn dJ9_abs_0f7a4_10 rfl ⟨_, rfl, hF⟩
set_option maxRecDepth 100000 in
set_option maxHeartbeats 4000000 in
theorem wJ9_max_7cf53 {ψ : Int32 → ZH → Prop} {l0 : Int32} {l1 : Int32} {h : ZH} (hF : ((l0 < l1 → ψ l1 h) ∧ (¬ l0 < l1 → ψ l0 h))) : ZcI mJ9_max_7cf53 [.int l0, .int l1] h ψ := by
  refine Zc.intro (L := [some (.int l0), some (.int l1)]) (by decide) rfl (by decide) ?_
  show Zt _ _ 0 0 _ _ _ _
  refine z_iload_n (q := 1) dJ9_max_7cf53_0 rfl rfl rfl ?_
  refine z_iload_n (q := 2) dJ9_max_7cf53_1 rfl rfl rfl ?_
  refine z_icmp_lt (t := 9) (q := 5) dJ9_max_7cf53_2 (by decide) rfl (fun hc => ?_) (fun hc => ?_)
  · have hF := hF.1 hc
    refine z_iload_n (q := 10) dJ9_max_7cf53_9 rfl rfl rfl ?_
    exact z_ireturn dJ9_max_7cf53_10 rfl ⟨_, rfl, hF⟩
  · have hF := hF.2 hc
    refine z_iload_n (q := 6) dJ9_max_7cf53_5 rfl rfl rfl ?_
    refine z_goto (q := 10) dJ9_max_7cf53_6 (by decide) ?_
    exact z_ireturn dJ9_max_7cf53_10 rfl ⟨_, rfl, hF⟩
set_option maxRecDepth 100000 in
set_option maxHeartbeats 4000000 in
theorem wJ9_max_f86c9 {ψ : Int64 → ZH → Prop} {l0 : Int64} {l2 : Int64} {h : ZH} (hF : (((lg_cmp l0 l2) < 0 → ψ l2 h) ∧ (¬ (lg_cmp l0 l2) < 0 → ψ l0 h))) : ZcL mJ9_max_f86c9 [.long l0, .long l2] h ψ := by
  refine Zc.intro (L := [some (.long l0), none, some (.long l2), none]) (by decide) rfl (by decide) ?_
  show Zt _ _ 0 0 _ _ _ _
  refine z_lload_n (q := 1) dJ9_max_f86c9_0 rfl rfl rfl ?_
  refine z_lload_n (q := 2) dJ9_max_f86c9_1 rfl rfl rfl ?_
  refine z_lcmp (q := 3) dJ9_max_f86c9_2 rfl ?_
  refine z_if_lt (t := 10) (q := 6) dJ9_max_f86c9_3 (by decide) rfl (fun hc => ?_) (fun hc => ?_)
  · have hF := hF.1 hc
    refine z_lload_n (q := 11) dJ9_max_f86c9_10 rfl rfl rfl ?_
    exact z_lreturn dJ9_max_f86c9_11 rfl ⟨_, rfl, hF⟩
  · have hF := hF.2 hc
    refine z_lload_n (q := 7) dJ9_max_f86c9_6 rfl rfl rfl ?_
    refine z_goto (q := 11) dJ9_max_f86c9_7 (by decide) ?_
    exact z_lreturn dJ9_max_f86c9_11 rfl ⟨_, rfl, hF⟩
set_option maxRecDepth 100000 in
set_option maxHeartbeats 4000000 in
theorem wJ9_min_7cf53 {ψ : Int32 → ZH → Prop} {l0 : Int32} {l1 : Int32} {h : ZH} (hF : ((l1 < l0 → ψ l1 h) ∧ (¬ l1 < l0 → ψ l0 h))) : ZcI mJ9_min_7cf53 [.int l0, .int l1] h ψ := by
  refine Zc.intro (L := [some (.int l0), some (.int l1)]) (by decide) rfl (by decide) ?_
  show Zt _ _ 0 0 _ _ _ _
  refine z_iload_n (q := 1) dJ9_min_7cf53_0 rfl rfl rfl ?_
  refine z_iload_n (q := 2) dJ9_min_7cf53_1 rfl rfl rfl ?_
  refine z_icmp_gt (t := 9) (q := 5) dJ9_min_7cf53_2 (by decide) rfl (fun hc => ?_) (fun hc => ?_)
  · have hF := hF.1 hc
    refine z_iload_n (q := 10) dJ9_min_7cf53_9 rfl rfl rfl ?_
    exact z_ireturn dJ9_min_7cf53_10 rfl ⟨_, rfl, hF⟩
  · have hF := hF.2 hc
    refine z_iload_n (q := 6) dJ9_min_7cf53_5 rfl rfl rfl ?_
    refine z_goto (q := 10) dJ9_min_7cf53_6 (by decide) ?_
    exact z_ireturn dJ9_min_7cf53_10 rfl ⟨_, rfl, hF⟩
set_option maxRecDepth 100000 in
set_option maxHeartbeats 4000000 in
theorem wJ9_min_f86c9 {ψ : Int64 → ZH → Prop} {l0 : Int64} {l2 : Int64} {h : ZH} (hF : ((0 < (lg_cmp l0 l2) → ψ l2 h) ∧ (¬ 0 < (lg_cmp l0 l2) → ψ l0 h))) : ZcL mJ9_min_f86c9 [.long l0, .long l2] h ψ := by
  refine Zc.intro (L := [some (.long l0), none, some (.long l2), none]) (by decide) rfl (by decide) ?_
  show Zt _ _ 0 0 _ _ _ _
  refine z_lload_n (q := 1) dJ9_min_f86c9_0 rfl rfl rfl ?_
  refine z_lload_n (q := 2) dJ9_min_f86c9_1 rfl rfl rfl ?_
  refine z_lcmp (q := 3) dJ9_min_f86c9_2 rfl ?_
  refine z_if_gt (t := 10) (q := 6) dJ9_min_f86c9_3 (by decide) rfl (fun hc => ?_) (fun hc => ?_)
  · have hF := hF.1 hc
    refine z_lload_n (q := 11) dJ9_min_f86c9_10 rfl rfl rfl ?_
    exact z_lreturn dJ9_min_f86c9_11 rfl ⟨_, rfl, hF⟩
  · have hF := hF.2 hc
    refine z_lload_n (q := 7) dJ9_min_f86c9_6 rfl rfl rfl ?_
    refine z_goto (q := 11) dJ9_min_f86c9_7 (by decide) ?_
    exact z_lreturn dJ9_min_f86c9_11 rfl ⟨_, rfl, hF⟩
