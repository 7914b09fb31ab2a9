theorem okm_load0 {l : Launch} {K : KK} {d : Nat} {μ : Mm} {P : Option AV → Mm → Prop} {lv : Nat} {t : TS} (hl : lv < 4) (hS : SvR μ lv t) (h : ∀ μ2, OffM μ μ2 → (μ2 8 0 0 6 = nI (mSt t) ∧ μ2 8 0 0 7 = nI (mSd t) ∧ μ2 8 0 0 8 = nI (htF t (t 0 1)) ∧ μ2 8 0 0 9 = nI (t 8 0) ∧ μ2 8 0 0 10 = nI (t 8 1)) → P none μ2) : Ok l K d 149 [vR 8 0 0, vI (nI lv)] μ P := by
  refine ok_go 2 (by decide +kernel) [some (vR 8 0 0), some (vI (nI lv))] rfl (Nat.le_of_ble_eq_true rfl) ?_
  obtain ⟨q0, hq0⟩ : ∃ q, q = 5 * lv := ⟨_, rfl⟩
  obtain ⟨q1, hq1⟩ : ∃ q, q = 5 * lv + 1 := ⟨_, rfl⟩
  obtain ⟨q2, hq2⟩ : ∃ q, q = 5 * lv + 2 := ⟨_, rfl⟩
  obtain ⟨q3, hq3⟩ : ∃ q, q = 5 * lv + 3 := ⟨_, rfl⟩
  obtain ⟨q4, hq4⟩ : ∃ q, q = 5 * lv + 4 := ⟨_, rfl⟩
  have e5 : (5 : Int32) * nI lv = nI q0 := by rw [hq0]; exact pk_mul 5 lv
  have e51 : nI q0 + 1 = nI q1 := by rw [hq0, hq1]; exact nI_add _ 1
  have e52 : nI q0 + 2 = nI q2 := by rw [hq0, hq2]; exact nI_add _ 2
  have e53 : nI q0 + 3 = nI q3 := by rw [hq0, hq3]; exact nI_add _ 3
  have e54 : nI q0 + 4 = nI q4 := by rw [hq0, hq4]; exact nI_add _ 4
  have v0 : vp_in (nI q0) 20 := vin (by omega) (by omega)
  have v1 : vp_in (nI q1) 20 := vin (by omega) (by omega)
  have v2 : vp_in (nI q2) 20 := vin (by omega) (by omega)
  have v3 : vp_in (nI q3) 20 := vin (by omega) (by omega)
  have v4 : vp_in (nI q4) 20 := vin (by omega) (by omega)
  have x0 : ix (nI q0) = q0 := nI_ix (by omega)
  have x1 : ix (nI q1) = q1 := nI_ix (by omega)
  have x2 : ix (nI q2) = q2 := nI_ix (by omega)
  have x3 : ix (nI q3) = q3 := nI_ix (by omega)
  have x4 : ix (nI q4) = q4 := nI_ix (by omega)
  unfold SvR at hS
  rw [← hq4, ← hq3, ← hq2, ← hq1, ← hq0] at hS
  obtain ⟨s0, s1, s2, s3, s4⟩ := hS
  have un : ∀ (μ' : Mm) a v j, up μ' 8 0 0 a v 8 0 24 j = μ' 8 0 24 j := fun μ' a v j => up_ne (by omega)
  refine go_blk [(.aload_n 0, 0, 0, 0), (.aload_n 0, 0, 0, 0), (.getfield 33, 8, 23, 0), (.iconst 5, 0, 0, 0), (.iload_n 1, 0, 0, 0), (.imul, 0, 0, 0)] (by decide +kernel) ?_
  simp only [e_al_0, e_gf_8_23, e_ic_5, e_il_1, e_imul, rd_8_23, e_nil, nol_n, nol_I, nol_R, rsum_0, rsum_I, rsum_R, ps_s, ps_n, true_and, and_true, Nat.reduceAdd, Nat.reduceLeDiff, e5, e51, e52, e53, e54, v0, v1, v2, v3, v4, x0, x1, x2, x3, x4, un, s0, s1, s2, s3, s4]
  refine go_blk [(.iaload, 0, 0, 0)] (by decide +kernel) ?_
  simp only [e_ia, ai_0_4, ai_1_7, ai_2_1, ai_2_2, ai_3_1, ai_4_1, ai_6_3, ai_6_4, ai_6_5, ai_6_6, ai_6_7, ai_6_8, ai_8_5, ai_8_6, ai_8_17, ai_8_21, ai_8_23, ai_8_24, ai_8_27, ai_8_28, ai_8_38, ai_8_39, ai_8_40, e_nil, nol_n, nol_I, nol_R, rsum_0, rsum_I, rsum_R, ps_s, ps_n, true_and, and_true, Nat.reduceAdd, Nat.reduceLeDiff, e5, e51, e52, e53, e54, v0, v1, v2, v3, v4, x0, x1, x2, x3, x4, un, s0, s1, s2, s3, s4]
  refine go_blk [(.putfield 99, 8, 6, 0)] (by decide +kernel) ?_
  simp only [e_pf_8_6, e_nil, nol_n, nol_I, nol_R, rsum_0, rsum_I, rsum_R, ps_s, ps_n, true_and, and_true, Nat.reduceAdd, Nat.reduceLeDiff, e5, e51, e52, e53, e54, v0, v1, v2, v3, v4, x0, x1, x2, x3, x4, un, s0, s1, s2, s3, s4]
  refine go_blk [(.aload_n 0, 0, 0, 0), (.aload_n 0, 0, 0, 0), (.getfield 33, 8, 23, 0), (.iconst 5, 0, 0, 0), (.iload_n 1, 0, 0, 0), (.imul, 0, 0, 0), (.iconst 1, 0, 0, 0), (.iadd, 0, 0, 0)] (by decide +kernel) ?_
  simp only [e_al_0, e_gf_8_23, e_ic_5, e_il_1, e_imul, e_ic_1, e_iadd, rd_8_23, e_nil, nol_n, nol_I, nol_R, rsum_0, rsum_I, rsum_R, ps_s, ps_n, true_and, and_true, Nat.reduceAdd, Nat.reduceLeDiff, e5, e51, e52, e53, e54, v0, v1, v2, v3, v4, x0, x1, x2, x3, x4, un, s0, s1, s2, s3, s4]
  refine go_blk [(.iaload, 0, 0, 0)] (by decide +kernel) ?_
  simp only [e_ia, ai_0_4, ai_1_7, ai_2_1, ai_2_2, ai_3_1, ai_4_1, ai_6_3, ai_6_4, ai_6_5, ai_6_6, ai_6_7, ai_6_8, ai_8_5, ai_8_6, ai_8_17, ai_8_21, ai_8_23, ai_8_24, ai_8_27, ai_8_28, ai_8_38, ai_8_39, ai_8_40, e_nil, nol_n, nol_I, nol_R, rsum_0, rsum_I, rsum_R, ps_s, ps_n, true_and, and_true, Nat.reduceAdd, Nat.reduceLeDiff, e5, e51, e52, e53, e54, v0, v1, v2, v3, v4, x0, x1, x2, x3, x4, un, s0, s1, s2, s3, s4]
  refine go_blk [(.putfield 102, 8, 7, 0)] (by decide +kernel) ?_
  simp only [e_pf_8_7, e_nil, nol_n, nol_I, nol_R, rsum_0, rsum_I, rsum_R, ps_s, ps_n, true_and, and_true, Nat.reduceAdd, Nat.reduceLeDiff, e5, e51, e52, e53, e54, v0, v1, v2, v3, v4, x0, x1, x2, x3, x4, un, s0, s1, s2, s3, s4]
  refine go_blk [(.aload_n 0, 0, 0, 0), (.aload_n 0, 0, 0, 0), (.getfield 33, 8, 23, 0), (.iconst 5, 0, 0, 0), (.iload_n 1, 0, 0, 0), (.imul, 0, 0, 0), (.iconst 2, 0, 0, 0), (.iadd, 0, 0, 0)] (by decide +kernel) ?_
  simp only [e_al_0, e_gf_8_23, e_ic_5, e_il_1, e_imul, e_ic_2, e_iadd, rd_8_23, e_nil, nol_n, nol_I, nol_R, rsum_0, rsum_I, rsum_R, ps_s, ps_n, true_and, and_true, Nat.reduceAdd, Nat.reduceLeDiff, e5, e51, e52, e53, e54, v0, v1, v2, v3, v4, x0, x1, x2, x3, x4, un, s0, s1, s2, s3, s4]
  refine go_blk [(.iaload, 0, 0, 0)] (by decide +kernel) ?_
  simp only [e_ia, ai_0_4, ai_1_7, ai_2_1, ai_2_2, ai_3_1, ai_4_1, ai_6_3, ai_6_4, ai_6_5, ai_6_6, ai_6_7, ai_6_8, ai_8_5, ai_8_6, ai_8_17, ai_8_21, ai_8_23, ai_8_24, ai_8_27, ai_8_28, ai_8_38, ai_8_39, ai_8_40, e_nil, nol_n, nol_I, nol_R, rsum_0, rsum_I, rsum_R, ps_s, ps_n, true_and, and_true, Nat.reduceAdd, Nat.reduceLeDiff, e5, e51, e52, e53, e54, v0, v1, v2, v3, v4, x0, x1, x2, x3, x4, un, s0, s1, s2, s3, s4]
  refine go_blk [(.putfield 105, 8, 8, 0)] (by decide +kernel) ?_
  simp only [e_pf_8_8, e_nil, nol_n, nol_I, nol_R, rsum_0, rsum_I, rsum_R, ps_s, ps_n, true_and, and_true, Nat.reduceAdd, Nat.reduceLeDiff, e5, e51, e52, e53, e54, v0, v1, v2, v3, v4, x0, x1, x2, x3, x4, un, s0, s1, s2, s3, s4]
  refine go_blk [(.aload_n 0, 0, 0, 0), (.aload_n 0, 0, 0, 0), (.getfield 33, 8, 23, 0), (.iconst 5, 0, 0, 0), (.iload_n 1, 0, 0, 0), (.imul, 0, 0, 0), (.iconst 3, 0, 0, 0), (.iadd, 0, 0, 0)] (by decide +kernel) ?_
  simp only [e_al_0, e_gf_8_23, e_ic_5, e_il_1, e_imul, e_ic_3, e_iadd, rd_8_23, e_nil, nol_n, nol_I, nol_R, rsum_0, rsum_I, rsum_R, ps_s, ps_n, true_and, and_true, Nat.reduceAdd, Nat.reduceLeDiff, e5, e51, e52, e53, e54, v0, v1, v2, v3, v4, x0, x1, x2, x3, x4, un, s0, s1, s2, s3, s4]
  refine go_blk [(.iaload, 0, 0, 0)] (by decide +kernel) ?_
  simp only [e_ia, ai_0_4, ai_1_7, ai_2_1, ai_2_2, ai_3_1, ai_4_1, ai_6_3, ai_6_4, ai_6_5, ai_6_6, ai_6_7, ai_6_8, ai_8_5, ai_8_6, ai_8_17, ai_8_21, ai_8_23, ai_8_24, ai_8_27, ai_8_28, ai_8_38, ai_8_39, ai_8_40, e_nil, nol_n, nol_I, nol_R, rsum_0, rsum_I, rsum_R, ps_s, ps_n, true_and, and_true, Nat.reduceAdd, Nat.reduceLeDiff, e5, e51, e52, e53, e54, v0, v1, v2, v3, v4, x0, x1, x2, x3, x4, un, s0, s1, s2, s3, s4]
  refine go_blk [(.putfield 83, 8, 9, 0)] (by decide +kernel) ?_
  simp only [e_pf_8_9, e_nil, nol_n, nol_I, nol_R, rsum_0, rsum_I, rsum_R, ps_s, ps_n, true_and, and_true, Nat.reduceAdd, Nat.reduceLeDiff, e5, e51, e52, e53, e54, v0, v1, v2, v3, v4, x0, x1, x2, x3, x4, un, s0, s1, s2, s3, s4]
  refine go_blk [(.aload_n 0, 0, 0, 0), (.aload_n 0, 0, 0, 0), (.getfield 33, 8, 23, 0), (.iconst 5, 0, 0, 0), (.iload_n 1, 0, 0, 0), (.imul, 0, 0, 0), (.iconst 4, 0, 0, 0), (.iadd, 0, 0, 0)] (by decide +kernel) ?_
  simp only [e_al_0, e_gf_8_23, e_ic_5, e_il_1, e_imul, e_ic_4, e_iadd, rd_8_23, e_nil, nol_n, nol_I, nol_R, rsum_0, rsum_I, rsum_R, ps_s, ps_n, true_and, and_true, Nat.reduceAdd, Nat.reduceLeDiff, e5, e51, e52, e53, e54, v0, v1, v2, v3, v4, x0, x1, x2, x3, x4, un, s0, s1, s2, s3, s4]
  refine go_blk [(.iaload, 0, 0, 0)] (by decide +kernel) ?_
  simp only [e_ia, ai_0_4, ai_1_7, ai_2_1, ai_2_2, ai_3_1, ai_4_1, ai_6_3, ai_6_4, ai_6_5, ai_6_6, ai_6_7, ai_6_8, ai_8_5, ai_8_6, ai_8_17, ai_8_21, ai_8_23, ai_8_24, ai_8_27, ai_8_28, ai_8_38, ai_8_39, ai_8_40, e_nil, nol_n, nol_I, nol_R, rsum_0, rsum_I, rsum_R, ps_s, ps_n, true_and, and_true, Nat.reduceAdd, Nat.reduceLeDiff, e5, e51, e52, e53, e54, v0, v1, v2, v3, v4, x0, x1, x2, x3, x4, un, s0, s1, s2, s3, s4]
  refine go_blk [(.putfield 86, 8, 10, 0)] (by decide +kernel) ?_
  simp only [e_pf_8_10, e_nil, nol_n, nol_I, nol_R, rsum_0, rsum_I, rsum_R, ps_s, ps_n, true_and, and_true, Nat.reduceAdd, Nat.reduceLeDiff, e5, e51, e52, e53, e54, v0, v1, v2, v3, v4, x0, x1, x2, x3, x4, un, s0, s1, s2, s3, s4]
  refine go_blk [(.return_, 0, 0, 0)] (by decide +kernel) ?_
  simp only [e_vret, e_nil, nol_n, nol_I, nol_R, rsum_0, rsum_I, rsum_R, ps_s, ps_n, true_and, and_true, Nat.reduceAdd, Nat.reduceLeDiff, e5, e51, e52, e53, e54, v0, v1, v2, v3, v4, x0, x1, x2, x3, x4, un, s0, s1, s2, s3, s4]
  have oO := offm_up (offm_up (offm_up (offm_up (offm_up (offm_rf μ) (j := 6) (by omega) (by omega) (nI (mSt t))) (j := 7) (by omega) (by omega) (nI (mSd t))) (j := 8) (by omega) (by omega) (nI (htF t (t 0 1)))) (j := 9) (by omega) (by omega) (nI (t 8 0))) (j := 10) (by omega) (by omega) (nI (t 8 1))
  refine h _ oO ⟨?_, ?_, ?_, ?_, ?_⟩
  · rw [up_ne (by omega), up_ne (by omega), up_ne (by omega), up_ne (by omega), up_self]
  · rw [up_ne (by omega), up_ne (by omega), up_ne (by omega), up_self]
  · rw [up_ne (by omega), up_ne (by omega), up_self]
  · rw [up_ne (by omega), up_self]
  · rw [up_self]
theorem lp_im1 {l : Launch} {K : KK} {d : Nat} {P : Option AV → Mm → Prop} {μ0 : Mm} (hk : ∀ μ2, (∀ c i s j, ¬ (c = 8 ∧ i = 0 ∧ (s = 38)) → μ2 c i s j = μ0 c i s j) → (∀ j, j < 5 → μ2 8 0 38 j = μ0 8 0 24 j) → ∀ x, Go l K d 172 101 [some (vR 8 0 0), some (vI x)] [] μ2 P) : ∀ (r e : Nat) (μ : Mm), e + r = 5 → (∀ c i s j, ¬ (c = 8 ∧ i = 0 ∧ (s = 38)) → μ c i s j = μ0 c i s j) → (∀ j, j < e → μ 8 0 38 j = μ0 8 0 24 j) → Go l K d 172 78 [some (vR 8 0 0), some (vI (nI e))] [] μ P := by
  intro r
  induction r with
  | zero =>
    intro e μ he hO hA
    have e0 : e = 5 := by omega
    subst e0
    refine go_blk [(.iload_n 1, 0, 0, 0), (.iconst 5, 0, 0, 0), (.if_icmp .ge 21, 101, 0, 0)] (by decide +kernel) ?_
    simp only [e_il_1, e_ic_5, e_icmp_ge, e_nil, nol_n, nol_I, nol_R, rsum_0, rsum_I, rsum_R, ps_s, ps_n, true_and, and_true, Nat.reduceAdd, Nat.reduceLeDiff]
    refine ⟨fun c80 => ?_, fun c80 => ?_⟩
    · exact hk μ hO hA _
    · exact absurd (by decide) c80
  | succ r ih =>
    intro e μ he hO hA
    have x2 : ix (nI e) = e := nI_ix (by omega)
    have v5 : vp_in (nI e) 5 := vin (by omega) (by omega)
    have v20 : vp_in (nI e) 20 := vin (by omega) (by omega)
    have g0 : μ 8 0 24 e = μ0 8 0 24 e := hO 8 0 24 e (by omega)
    refine go_blk [(.iload_n 1, 0, 0, 0), (.iconst 5, 0, 0, 0), (.if_icmp .ge 21, 101, 0, 0)] (by decide +kernel) ?_
    simp only [e_il_1, e_ic_5, e_icmp_ge, e_nil, nol_n, nol_I, nol_R, rsum_0, rsum_I, rsum_R, ps_s, ps_n, true_and, and_true, Nat.reduceAdd, Nat.reduceLeDiff, x2, v5, v20, g0]
    refine ⟨fun c80 => ?_, fun c80 => ?_⟩
    · exact absurd c80 (nI_ge (b := 5) (by omega) (by omega))
    · refine go_blk [(.aload_n 0, 0, 0, 0), (.getfield 42, 8, 37, 0), (.iload_n 1, 0, 0, 0), (.aload_n 0, 0, 0, 0), (.getfield 33, 8, 23, 0), (.iload_n 1, 0, 0, 0), (.iaload, 0, 0, 0), (.iastore, 0, 0, 0)] (by decide +kernel) ?_
      simp only [e_al_0, e_gf_8_37, e_il_1, e_gf_8_23, e_ia, e_iast, rd_8_37, rd_8_23, ai_0_4, ai_1_7, ai_2_1, ai_2_2, ai_3_1, ai_4_1, ai_6_3, ai_6_4, ai_6_5, ai_6_6, ai_6_7, ai_6_8, ai_8_5, ai_8_6, ai_8_17, ai_8_21, ai_8_23, ai_8_24, ai_8_27, ai_8_28, ai_8_38, ai_8_39, ai_8_40, e_nil, nol_n, nol_I, nol_R, rsum_0, rsum_I, rsum_R, ps_s, ps_n, true_and, and_true, Nat.reduceAdd, Nat.reduceLeDiff, x2, v5, v20, g0]
      refine go_blk [(.iinc 1 1, 0, 0, 0), (.goto (-20), 78, 0, 0)] (by decide +kernel) ?_
      simp only [e_inc_1_1n, e_inc_1_1I, e_inc_1_1R, e_goto, e_nil, nol_n, nol_I, nol_R, rsum_0, rsum_I, rsum_R, ps_s, ps_n, true_and, and_true, Nat.reduceAdd, Nat.reduceLeDiff, x2, v5, v20, g0]
      rw [nI_1]
      refine ih (e + 1) _ (by omega) (fun c i s j hc => (up_ne (by omega)).trans (hO c i s j hc)) (fun j hj => ?_)
      by_cases z : j = e
      · rw [z, up_self]
      · rw [up_ne (by omega)]; exact hA j (by omega)
theorem lp_im2 {l : Launch} {K : KK} {d : Nat} {P : Option AV → Mm → Prop} {μ0 : Mm} (hk : ∀ μ2, (∀ c i s j, ¬ (c = 8 ∧ i = 0 ∧ (s = 39 ∨ s = 40)) → μ2 c i s j = μ0 c i s j) → (∀ j, j < 6 → μ2 8 0 39 j = μ0 8 0 6 j ∧ μ2 8 0 40 j = μ0 8 0 17 j) → ∀ x, Go l K d 172 139 [some (vR 8 0 0), some (vI x)] [] μ2 P) : ∀ (r e : Nat) (μ : Mm), e + r = 6 → (∀ c i s j, ¬ (c = 8 ∧ i = 0 ∧ (s = 39 ∨ s = 40)) → μ c i s j = μ0 c i s j) → (∀ j, j < e → μ 8 0 39 j = μ0 8 0 6 j ∧ μ 8 0 40 j = μ0 8 0 17 j) → Go l K d 172 103 [some (vR 8 0 0), some (vI (nI e))] [] μ P := by
  intro r
  induction r with
  | zero =>
    intro e μ he hO hA
    have e0 : e = 6 := by omega
    subst e0
    refine go_blk [(.iload_n 1, 0, 0, 0), (.bipush 6, 0, 0, 0), (.if_icmp .ge 33, 139, 0, 0)] (by decide +kernel) ?_
    simp only [e_il_1, e_bp_6, e_icmp_ge, e_nil, nol_n, nol_I, nol_R, rsum_0, rsum_I, rsum_R, ps_s, ps_n, true_and, and_true, Nat.reduceAdd, Nat.reduceLeDiff]
    refine ⟨fun c106 => ?_, fun c106 => ?_⟩
    · exact hk μ hO hA _
    · exact absurd (by decide) c106
  | succ r ih =>
    intro e μ he hO hA
    have x2 : ix (nI e) = e := nI_ix (by omega)
    have v6 : vp_in (nI e) 6 := vin (by omega) (by omega)
    have g0 : μ 8 0 6 e = μ0 8 0 6 e := hO 8 0 6 e (by omega)
    have g1 : up μ 8 0 39 e (μ0 8 0 6 e) 8 0 17 e = μ0 8 0 17 e := (up_ne (by omega)).trans (hO 8 0 17 e (by omega))
    refine go_blk [(.iload_n 1, 0, 0, 0), (.bipush 6, 0, 0, 0), (.if_icmp .ge 33, 139, 0, 0)] (by decide +kernel) ?_
    simp only [e_il_1, e_bp_6, e_icmp_ge, e_nil, nol_n, nol_I, nol_R, rsum_0, rsum_I, rsum_R, ps_s, ps_n, true_and, and_true, Nat.reduceAdd, Nat.reduceLeDiff, x2, v6, g0, g1]
    refine ⟨fun c106 => ?_, fun c106 => ?_⟩
    · exact absurd c106 (nI_ge (b := 6) (by omega) (by omega))
    · refine go_blk [(.aload_n 0, 0, 0, 0), (.getfield 45, 8, 38, 0), (.iload_n 1, 0, 0, 0), (.aload_n 0, 0, 0, 0), (.getfield 13, 8, 5, 0), (.iload_n 1, 0, 0, 0), (.iaload, 0, 0, 0), (.iastore, 0, 0, 0)] (by decide +kernel) ?_
      simp only [e_al_0, e_gf_8_38, e_il_1, e_gf_8_5, e_ia, e_iast, rd_8_38, rd_8_5, ai_0_4, ai_1_7, ai_2_1, ai_2_2, ai_3_1, ai_4_1, ai_6_3, ai_6_4, ai_6_5, ai_6_6, ai_6_7, ai_6_8, ai_8_5, ai_8_6, ai_8_17, ai_8_21, ai_8_23, ai_8_24, ai_8_27, ai_8_28, ai_8_38, ai_8_39, ai_8_40, e_nil, nol_n, nol_I, nol_R, rsum_0, rsum_I, rsum_R, ps_s, ps_n, true_and, and_true, Nat.reduceAdd, Nat.reduceLeDiff, x2, v6, g0, g1]
      refine go_blk [(.aload_n 0, 0, 0, 0), (.getfield 48, 8, 39, 0), (.iload_n 1, 0, 0, 0), (.aload_n 0, 0, 0, 0), (.getfield 23, 8, 16, 0), (.iload_n 1, 0, 0, 0), (.iaload, 0, 0, 0), (.iastore, 0, 0, 0)] (by decide +kernel) ?_
      simp only [e_al_0, e_gf_8_39, e_il_1, e_gf_8_16, e_ia, e_iast, rd_8_39, rd_8_16, ai_0_4, ai_1_7, ai_2_1, ai_2_2, ai_3_1, ai_4_1, ai_6_3, ai_6_4, ai_6_5, ai_6_6, ai_6_7, ai_6_8, ai_8_5, ai_8_6, ai_8_17, ai_8_21, ai_8_23, ai_8_24, ai_8_27, ai_8_28, ai_8_38, ai_8_39, ai_8_40, e_nil, nol_n, nol_I, nol_R, rsum_0, rsum_I, rsum_R, ps_s, ps_n, true_and, and_true, Nat.reduceAdd, Nat.reduceLeDiff, x2, v6, g0, g1]
      refine go_blk [(.iinc 1 1, 0, 0, 0), (.goto (-33), 103, 0, 0)] (by decide +kernel) ?_
      simp only [e_inc_1_1n, e_inc_1_1I, e_inc_1_1R, e_goto, e_nil, nol_n, nol_I, nol_R, rsum_0, rsum_I, rsum_R, ps_s, ps_n, true_and, and_true, Nat.reduceAdd, Nat.reduceLeDiff, x2, v6, g0, g1]
      rw [nI_1]
      refine ih (e + 1) _ (by omega) (fun c i s j hc => (up_ne (by omega)).trans ((up_ne (by omega)).trans (hO c i s j hc))) (fun j hj => ?_)
      by_cases z : j = e
      · rw [z, up_self]
        exact ⟨(up_ne (by omega)).trans (up_self _ _ _ _ _ _), rfl⟩
      · rw [up_ne (by omega), up_ne (by omega), up_ne (by omega), up_ne (by omega)]; exact hA j (by omega)
theorem lp_rs1 {l : Launch} {K : KK} {d : Nat} {P : Option AV → Mm → Prop} {μ0 : Mm} (hk : ∀ μ2, (∀ c i s j, ¬ (c = 8 ∧ i = 0 ∧ (s = 24)) → μ2 c i s j = μ0 c i s j) → (∀ j, j < 5 → μ2 8 0 24 j = μ0 8 0 38 j) → ∀ x, Go l K d 173 94 [some (vR 8 0 0), some (vI x)] [] μ2 P) : ∀ (r e : Nat) (μ : Mm), e + r = 5 → (∀ c i s j, ¬ (c = 8 ∧ i = 0 ∧ (s = 24)) → μ c i s j = μ0 c i s j) → (∀ j, j < e → μ 8 0 24 j = μ0 8 0 38 j) → Go l K d 173 71 [some (vR 8 0 0), some (vI (nI e))] [] μ P := by
  intro r
  induction r with
  | zero =>
    intro e μ he hO hA
    have e0 : e = 5 := by omega
    subst e0
    refine go_blk [(.iload_n 1, 0, 0, 0), (.iconst 5, 0, 0, 0), (.if_icmp .ge 21, 94, 0, 0)] (by decide +kernel) ?_
    simp only [e_il_1, e_ic_5, e_icmp_ge, e_nil, nol_n, nol_I, nol_R, rsum_0, rsum_I, rsum_R, ps_s, ps_n, true_and, and_true, Nat.reduceAdd, Nat.reduceLeDiff]
    refine ⟨fun c73 => ?_, fun c73 => ?_⟩
    · exact hk μ hO hA _
    · exact absurd (by decide) c73
  | succ r ih =>
    intro e μ he hO hA
    have x2 : ix (nI e) = e := nI_ix (by omega)
    have v5 : vp_in (nI e) 5 := vin (by omega) (by omega)
    have v20 : vp_in (nI e) 20 := vin (by omega) (by omega)
    have g0 : μ 8 0 38 e = μ0 8 0 38 e := hO 8 0 38 e (by omega)
    refine go_blk [(.iload_n 1, 0, 0, 0), (.iconst 5, 0, 0, 0), (.if_icmp .ge 21, 94, 0, 0)] (by decide +kernel) ?_
    simp only [e_il_1, e_ic_5, e_icmp_ge, e_nil, nol_n, nol_I, nol_R, rsum_0, rsum_I, rsum_R, ps_s, ps_n, true_and, and_true, Nat.reduceAdd, Nat.reduceLeDiff, x2, v5, v20, g0]
    refine ⟨fun c73 => ?_, fun c73 => ?_⟩
    · exact absurd c73 (nI_ge (b := 5) (by omega) (by omega))
    · refine go_blk [(.aload_n 0, 0, 0, 0), (.getfield 33, 8, 23, 0), (.iload_n 1, 0, 0, 0), (.aload_n 0, 0, 0, 0), (.getfield 42, 8, 37, 0), (.iload_n 1, 0, 0, 0), (.iaload, 0, 0, 0), (.iastore, 0, 0, 0)] (by decide +kernel) ?_
      simp only [e_al_0, e_gf_8_23, e_il_1, e_gf_8_37, e_ia, e_iast, rd_8_23, rd_8_37, ai_0_4, ai_1_7, ai_2_1, ai_2_2, ai_3_1, ai_4_1, ai_6_3, ai_6_4, ai_6_5, ai_6_6, ai_6_7, ai_6_8, ai_8_5, ai_8_6, ai_8_17, ai_8_21, ai_8_23, ai_8_24, ai_8_27, ai_8_28, ai_8_38, ai_8_39, ai_8_40, e_nil, nol_n, nol_I, nol_R, rsum_0, rsum_I, rsum_R, ps_s, ps_n, true_and, and_true, Nat.reduceAdd, Nat.reduceLeDiff, x2, v5, v20, g0]
      refine go_blk [(.iinc 1 1, 0, 0, 0), (.goto (-20), 71, 0, 0)] (by decide +kernel) ?_
      simp only [e_inc_1_1n, e_inc_1_1I, e_inc_1_1R, e_goto, e_nil, nol_n, nol_I, nol_R, rsum_0, rsum_I, rsum_R, ps_s, ps_n, true_and, and_true, Nat.reduceAdd, Nat.reduceLeDiff, x2, v5, v20, g0]
      rw [nI_1]
      refine ih (e + 1) _ (by omega) (fun c i s j hc => (up_ne (by omega)).trans (hO c i s j hc)) (fun j hj => ?_)
      by_cases z : j = e
      · rw [z, up_self]
      · rw [up_ne (by omega)]; exact hA j (by omega)
theorem lp_rs2 {l : Launch} {K : KK} {d : Nat} {P : Option AV → Mm → Prop} {μ0 : Mm} (hk : ∀ μ2, (∀ c i s j, ¬ (c = 8 ∧ i = 0 ∧ (s = 6 ∨ s = 17)) → μ2 c i s j = μ0 c i s j) → (∀ j, j < 6 → μ2 8 0 6 j = μ0 8 0 39 j ∧ μ2 8 0 17 j = μ0 8 0 40 j) → ∀ x, Go l K d 173 137 [some (vR 8 0 0), some (vI x)] [] μ2 P) : ∀ (r e : Nat) (μ : Mm), e + r = 6 → (∀ c i s j, ¬ (c = 8 ∧ i = 0 ∧ (s = 6 ∨ s = 17)) → μ c i s j = μ0 c i s j) → (∀ j, j < e → μ 8 0 6 j = μ0 8 0 39 j ∧ μ 8 0 17 j = μ0 8 0 40 j) → Go l K d 173 101 [some (vR 8 0 0), some (vI (nI e))] [] μ P := by
  intro r
  induction r with
  | zero =>
    intro e μ he hO hA
    have e0 : e = 6 := by omega
    subst e0
    refine go_blk [(.iload_n 1, 0, 0, 0), (.bipush 6, 0, 0, 0), (.if_icmp .ge 33, 137, 0, 0)] (by decide +kernel) ?_
    simp only [e_il_1, e_bp_6, e_icmp_ge, e_nil, nol_n, nol_I, nol_R, rsum_0, rsum_I, rsum_R, ps_s, ps_n, true_and, and_true, Nat.reduceAdd, Nat.reduceLeDiff]
    refine ⟨fun c104 => ?_, fun c104 => ?_⟩
    · exact hk μ hO hA _
    · exact absurd (by decide) c104
  | succ r ih =>
    intro e μ he hO hA
    have x2 : ix (nI e) = e := nI_ix (by omega)
    have v6 : vp_in (nI e) 6 := vin (by omega) (by omega)
    have g0 : μ 8 0 39 e = μ0 8 0 39 e := hO 8 0 39 e (by omega)
    have g1 : up μ 8 0 6 e (μ0 8 0 39 e) 8 0 40 e = μ0 8 0 40 e := (up_ne (by omega)).trans (hO 8 0 40 e (by omega))
    refine go_blk [(.iload_n 1, 0, 0, 0), (.bipush 6, 0, 0, 0), (.if_icmp .ge 33, 137, 0, 0)] (by decide +kernel) ?_
    simp only [e_il_1, e_bp_6, e_icmp_ge, e_nil, nol_n, nol_I, nol_R, rsum_0, rsum_I, rsum_R, ps_s, ps_n, true_and, and_true, Nat.reduceAdd, Nat.reduceLeDiff, x2, v6, g0, g1]
    refine ⟨fun c104 => ?_, fun c104 => ?_⟩
    · exact absurd c104 (nI_ge (b := 6) (by omega) (by omega))
    · refine go_blk [(.aload_n 0, 0, 0, 0), (.getfield 13, 8, 5, 0), (.iload_n 1, 0, 0, 0), (.aload_n 0, 0, 0, 0), (.getfield 45, 8, 38, 0), (.iload_n 1, 0, 0, 0), (.iaload, 0, 0, 0), (.iastore, 0, 0, 0)] (by decide +kernel) ?_
      simp only [e_al_0, e_gf_8_5, e_il_1, e_gf_8_38, e_ia, e_iast, rd_8_5, rd_8_38, ai_0_4, ai_1_7, ai_2_1, ai_2_2, ai_3_1, ai_4_1, ai_6_3, ai_6_4, ai_6_5, ai_6_6, ai_6_7, ai_6_8, ai_8_5, ai_8_6, ai_8_17, ai_8_21, ai_8_23, ai_8_24, ai_8_27, ai_8_28, ai_8_38, ai_8_39, ai_8_40, e_nil, nol_n, nol_I, nol_R, rsum_0, rsum_I, rsum_R, ps_s, ps_n, true_and, and_true, Nat.reduceAdd, Nat.reduceLeDiff, x2, v6, g0, g1]
      refine go_blk [(.aload_n 0, 0, 0, 0), (.getfield 23, 8, 16, 0), (.iload_n 1, 0, 0, 0), (.aload_n 0, 0, 0, 0), (.getfield 48, 8, 39, 0), (.iload_n 1, 0, 0, 0), (.iaload, 0, 0, 0), (.iastore, 0, 0, 0)] (by decide +kernel) ?_
      simp only [e_al_0, e_gf_8_16, e_il_1, e_gf_8_39, e_ia, e_iast, rd_8_16, rd_8_39, ai_0_4, ai_1_7, ai_2_1, ai_2_2, ai_3_1, ai_4_1, ai_6_3, ai_6_4, ai_6_5, ai_6_6, ai_6_7, ai_6_8, ai_8_5, ai_8_6, ai_8_17, ai_8_21, ai_8_23, ai_8_24, ai_8_27, ai_8_28, ai_8_38, ai_8_39, ai_8_40, e_nil, nol_n, nol_I, nol_R, rsum_0, rsum_I, rsum_R, ps_s, ps_n, true_and, and_true, Nat.reduceAdd, Nat.reduceLeDiff, x2, v6, g0, g1]
      refine go_blk [(.iinc 1 1, 0, 0, 0), (.goto (-33), 101, 0, 0)] (by decide +kernel) ?_
      simp only [e_inc_1_1n, e_inc_1_1I, e_inc_1_1R, e_goto, e_nil, nol_n, nol_I, nol_R, rsum_0, rsum_I, rsum_R, ps_s, ps_n, true_and, and_true, Nat.reduceAdd, Nat.reduceLeDiff, x2, v6, g0, g1]
      rw [nI_1]
      refine ih (e + 1) _ (by omega) (fun c i s j hc => (up_ne (by omega)).trans ((up_ne (by omega)).trans (hO c i s j hc))) (fun j hj => ?_)
      by_cases z : j = e
      · rw [z, up_self]
        exact ⟨(up_ne (by omega)).trans (up_self _ _ _ _ _ _), rfl⟩
      · rw [up_ne (by omega), up_ne (by omega), up_ne (by omega), up_ne (by omega)]; exact hA j (by omega)
theorem xm_image {l : Launch} {K : KK} {d : Nat} {μ : Mm} {P : Option AV → Mm → Prop} {N : Nat} {S : SS} (hV : Inv N S) (hR : RM μ S) (hd1 : 14 ≤ d) (h : ∀ μ2, RM μ2 ((aImage S).2) → OffX μ μ2 → P (some (vI ((aImage S).1))) μ2) : Ok l K d 172 [vR 8 0 0] μ P := by
  refine ok_go 2 (by decide +kernel) [some (vR 8 0 0), none] rfl (Nat.le_of_ble_eq_true rfl) ?_
  have hR0 := hR
  have hV0 := hV
  obtain ⟨⟨L, pg⟩, ⟨laid, op⟩, t, ⟨f, cs⟩, ⟨im, t2, f2, cs2⟩, q, w, b⟩ := S
  obtain ⟨⟨rP, r0, r2⟩, ⟨rM, rG⟩, ⟨rK, rK2⟩, ⟨r1, r17, r18⟩⟩ := hR
  obtain ⟨⟨iL, iP⟩, ⟨iO, iO2⟩, ⟨iT, iF⟩, iK, ⟨iq, iw, ib⟩⟩ := hV
  have hd2 : 1 ≤ d := by omega
  obtain ⟨⟨g11, g12, g13, g14, g15⟩, g17⟩ := id rG
  have m3 := rM.1.1
  obtain ⟨μA, hA⟩ : ∃ m, m = up (up (up (up (up (up (up (up μ 8 0 0 29 1) 8 0 0 30 (nI q)) 8 0 0 31 (nI (t 0 1))) 8 0 0 32 (f 1)) 8 0 0 33 (f 2)) 8 0 0 34 (f 3)) 8 0 0 35 (f 4)) 8 0 0 36 (f 5) := ⟨_, rfl⟩
  have oA : ∀ c i s j, ¬ (c = 8 ∧ i = 0 ∧ s = 0 ∧ 29 ≤ j ∧ j ≤ 36) → μA c i s j = μ c i s j := fun c i s j hc => by
    rw [hA]
    repeat rw [up_ne (by omega)]
  have kA : μA 8 0 0 29 = 1 ∧ μA 8 0 0 30 = nI q ∧ μA 8 0 0 31 = nI (t 0 1) ∧ μA 8 0 0 32 = f 1 ∧ μA 8 0 0 33 = f 2 ∧ μA 8 0 0 34 = f 3 ∧ μA 8 0 0 35 = f 4 ∧ μA 8 0 0 36 = f 5 := by
    rw [hA]
    refine ⟨?_, ?_, ?_, ?_, ?_, ?_, ?_, ?_⟩ <;> (repeat first | rw [up_self] | rw [up_ne (by omega)])
  have u : ∀ (m : Mm) j v j', ¬ j' = j → up m 8 0 0 j v 8 0 0 j' = m 8 0 0 j' := fun m j v j' hj => up_ne (by omega)
  have w1 := u μ 29 1 1 (by omega)
  have y1 : up μ 8 0 0 29 1 8 0 0 1 = nI q := by
    repeat rw [up_ne (by omega)]
    exact r1
  have y3 : up (up μ 8 0 0 29 1) 8 0 0 30 (nI q) 8 0 0 3 = nI (t 0 1) := by
    repeat rw [up_ne (by omega)]
    exact m3
  have y11 : up (up (up μ 8 0 0 29 1) 8 0 0 30 (nI q)) 8 0 0 31 (nI (t 0 1)) 8 0 0 11 = f 1 := by
    repeat rw [up_ne (by omega)]
    exact g11
  have y12 : up (up (up (up μ 8 0 0 29 1) 8 0 0 30 (nI q)) 8 0 0 31 (nI (t 0 1))) 8 0 0 32 (f 1) 8 0 0 12 = f 2 := by
    repeat rw [up_ne (by omega)]
    exact g12
  have y13 : up (up (up (up (up μ 8 0 0 29 1) 8 0 0 30 (nI q)) 8 0 0 31 (nI (t 0 1))) 8 0 0 32 (f 1)) 8 0 0 33 (f 2) 8 0 0 13 = f 3 := by
    repeat rw [up_ne (by omega)]
    exact g13
  have y14 : up (up (up (up (up (up μ 8 0 0 29 1) 8 0 0 30 (nI q)) 8 0 0 31 (nI (t 0 1))) 8 0 0 32 (f 1)) 8 0 0 33 (f 2)) 8 0 0 34 (f 3) 8 0 0 14 = f 4 := by
    repeat rw [up_ne (by omega)]
    exact g14
  have y15 : up (up (up (up (up (up (up μ 8 0 0 29 1) 8 0 0 30 (nI q)) 8 0 0 31 (nI (t 0 1))) 8 0 0 32 (f 1)) 8 0 0 33 (f 2)) 8 0 0 34 (f 3)) 8 0 0 35 (f 4) 8 0 0 15 = f 5 := by
    repeat rw [up_ne (by omega)]
    exact g15
  refine go_blk [(.aload_n 0, 0, 0, 0), (.getfield 89, 8, 0, 0), (.ifCond .ne 6, 10, 0, 0)] (by decide +kernel) ?_
  simp only [e_al_0, e_gf_8_0, e_if_ne, rd_8_0, e_nil, nol_n, nol_I, nol_R, rsum_0, rsum_I, rsum_R, ps_s, ps_n, true_and, and_true, Nat.reduceAdd, Nat.reduceLeDiff, hd2, bi_0, r0, or_true, true_or, y1, y3, y11, y12, y13, y14, y15]
  refine ⟨fun c4 => ?_, fun c4 => ?_⟩
  · have e : aImage ((L, pg), (laid, op), t, (f, cs), (im, t2, f2, cs2), (q, w, b)) = (f 1, ((L, pg), (laid, op), t, (f, cs), (true, t, f, cs), (q, w, b))) := by
      show (if _ then _ else _) = _
      rw [if_neg c4]
    rw [e] at h
    refine go_blk [(.aload_n 0, 0, 0, 0), (.iconst 1, 0, 0, 0), (.putfield 275, 8, 29, 0)] (by decide +kernel) ?_
    simp only [e_al_0, e_ic_1, e_pf_8_29, e_nil, nol_n, nol_I, nol_R, rsum_0, rsum_I, rsum_R, ps_s, ps_n, true_and, and_true, Nat.reduceAdd, Nat.reduceLeDiff, hd2, bi_0, r0, or_true, true_or, y1, y3, y11, y12, y13, y14, y15]
    refine go_blk [(.aload_n 0, 0, 0, 0), (.aload_n 0, 0, 0, 0), (.getfield 93, 8, 1, 0), (.putfield 278, 8, 30, 0)] (by decide +kernel) ?_
    simp only [e_al_0, e_gf_8_1, e_pf_8_30, rd_8_1, e_nil, nol_n, nol_I, nol_R, rsum_0, rsum_I, rsum_R, ps_s, ps_n, true_and, and_true, Nat.reduceAdd, Nat.reduceLeDiff, hd2, bi_0, r0, or_true, true_or, y1, y3, y11, y12, y13, y14, y15]
    refine go_blk [(.aload_n 0, 0, 0, 0), (.aload_n 0, 0, 0, 0), (.getfield 96, 8, 3, 0), (.putfield 281, 8, 31, 0)] (by decide +kernel) ?_
    simp only [e_al_0, e_gf_8_3, e_pf_8_31, rd_8_3, e_nil, nol_n, nol_I, nol_R, rsum_0, rsum_I, rsum_R, ps_s, ps_n, true_and, and_true, Nat.reduceAdd, Nat.reduceLeDiff, hd2, bi_0, r0, or_true, true_or, y1, y3, y11, y12, y13, y14, y15]
    refine go_blk [(.aload_n 0, 0, 0, 0), (.aload_n 0, 0, 0, 0), (.getfield 108, 8, 11, 0), (.putfield 284, 8, 32, 0)] (by decide +kernel) ?_
    simp only [e_al_0, e_gf_8_11, e_pf_8_32, rd_8_11, e_nil, nol_n, nol_I, nol_R, rsum_0, rsum_I, rsum_R, ps_s, ps_n, true_and, and_true, Nat.reduceAdd, Nat.reduceLeDiff, hd2, bi_0, r0, or_true, true_or, y1, y3, y11, y12, y13, y14, y15]
    refine go_blk [(.aload_n 0, 0, 0, 0), (.aload_n 0, 0, 0, 0), (.getfield 16, 8, 12, 0), (.putfield 287, 8, 33, 0)] (by decide +kernel) ?_
    simp only [e_al_0, e_gf_8_12, e_pf_8_33, rd_8_12, e_nil, nol_n, nol_I, nol_R, rsum_0, rsum_I, rsum_R, ps_s, ps_n, true_and, and_true, Nat.reduceAdd, Nat.reduceLeDiff, hd2, bi_0, r0, or_true, true_or, y1, y3, y11, y12, y13, y14, y15]
    refine go_blk [(.aload_n 0, 0, 0, 0), (.aload_n 0, 0, 0, 0), (.getfield 111, 8, 13, 0), (.putfield 290, 8, 34, 0)] (by decide +kernel) ?_
    simp only [e_al_0, e_gf_8_13, e_pf_8_34, rd_8_13, e_nil, nol_n, nol_I, nol_R, rsum_0, rsum_I, rsum_R, ps_s, ps_n, true_and, and_true, Nat.reduceAdd, Nat.reduceLeDiff, hd2, bi_0, r0, or_true, true_or, y1, y3, y11, y12, y13, y14, y15]
    refine go_blk [(.aload_n 0, 0, 0, 0), (.aload_n 0, 0, 0, 0), (.getfield 20, 8, 14, 0), (.putfield 293, 8, 35, 0)] (by decide +kernel) ?_
    simp only [e_al_0, e_gf_8_14, e_pf_8_35, rd_8_14, e_nil, nol_n, nol_I, nol_R, rsum_0, rsum_I, rsum_R, ps_s, ps_n, true_and, and_true, Nat.reduceAdd, Nat.reduceLeDiff, hd2, bi_0, r0, or_true, true_or, y1, y3, y11, y12, y13, y14, y15]
    refine go_blk [(.aload_n 0, 0, 0, 0), (.aload_n 0, 0, 0, 0), (.getfield 114, 8, 15, 0), (.putfield 296, 8, 36, 0)] (by decide +kernel) ?_
    simp only [e_al_0, e_gf_8_15, e_pf_8_36, rd_8_15, e_nil, nol_n, nol_I, nol_R, rsum_0, rsum_I, rsum_R, ps_s, ps_n, true_and, and_true, Nat.reduceAdd, Nat.reduceLeDiff, hd2, bi_0, r0, or_true, true_or, y1, y3, y11, y12, y13, y14, y15]
    refine go_blk [(.aload_n 0, 0, 0, 0), (.iconst 0, 0, 0, 0), (.invokevirtual 199, 148, 1, 8)] (by decide +kernel) ?_
    simp only [e_al_0, e_ic_0, e_iv_8_1, e_nil, nol_n, nol_I, nol_R, rsum_0, rsum_I, rsum_R, ps_s, ps_n, true_and, and_true, Nat.reduceAdd, Nat.reduceLeDiff, hd2, bi_0, r0, or_true, true_or, y1, y3, y11, y12, y13, y14, y15]
    rw [← hA]
    refine okm_save (lv := 0) (by omega) (mr_off rM (fun s j hs => oA 8 0 s j (by omega))) (fun μB sS sO => ?_)
    refine go_blk [(.iconst 0, 0, 0, 0), (.istore_n 1, 0, 0, 0)] (by decide +kernel) ?_
    simp only [e_ic_0, e_is_1n, e_is_1I, e_is_1R, e_nil, nol_n, nol_I, nol_R, rsum_0, rsum_I, rsum_R, ps_s, ps_n, true_and, and_true, Nat.reduceAdd, Nat.reduceLeDiff, hd2, bi_0, r0, or_true, true_or, y1, y3, y11, y12, y13, y14, y15]
    refine lp_im1 (μ0 := μB) (fun μC oC kC x => ?_) 5 0 μB (by omega) (fun c i s j hc => rfl) (fun j hj => by omega)
    refine go_blk [(.iconst 0, 0, 0, 0), (.istore_n 1, 0, 0, 0)] (by decide +kernel) ?_
    simp only [e_ic_0, e_is_1n, e_is_1I, e_is_1R, e_nil, nol_n, nol_I, nol_R, rsum_0, rsum_I, rsum_R, ps_s, ps_n, true_and, and_true, Nat.reduceAdd, Nat.reduceLeDiff]
    refine lp_im2 (μ0 := μC) (fun μD oD kD x => ?_) 6 0 μC (by omega) (fun c i s j hc => rfl) (fun j hj => by omega)
    have oF : ∀ c i s j, ¬ (c = 8 ∧ i = 0 ∧ ((s = 0 ∧ 29 ≤ j ∧ j ≤ 36) ∨ s = 24 ∨ s = 38 ∨ s = 39 ∨ s = 40)) → μD c i s j = μ c i s j := fun c i s j hc => by
      rw [oD c i s j (by omega), oC c i s j (by omega), sO c i s j (by omega), oA c i s j (by omega)]
    have oK : ∀ j, 29 ≤ j → j ≤ 36 → μD 8 0 0 j = μA 8 0 0 j := fun j h1 h2 => by
      rw [oD 8 0 0 j (by omega), oC 8 0 0 j (by omega), sO 8 0 0 j (by omega)]
    have k38 : ∀ j, j < 5 → μD 8 0 38 j = μB 8 0 24 j := fun j hj => by rw [oD 8 0 38 j (by omega)]; exact kC j hj
    have k6 : ∀ j, μC 8 0 6 j = μ 8 0 6 j := fun j => by rw [oC 8 0 6 j (by omega), sO 8 0 6 j (by omega), oA 8 0 6 j (by omega)]
    have k17 : ∀ j, μC 8 0 17 j = μ 8 0 17 j := fun j => by rw [oC 8 0 17 j (by omega), sO 8 0 17 j (by omega), oA 8 0 17 j (by omega)]
    have gF : μD 8 0 0 11 = f 1 := (oF 8 0 0 11 (by omega)).trans g11
    refine go_blk [(.aload_n 0, 0, 0, 0), (.getfield 108, 8, 11, 0), (.ireturn, 0, 0, 0)] (by decide +kernel) ?_
    simp only [e_al_0, e_gf_8_11, e_iret0, rd_8_11, e_nil, nol_n, nol_I, nol_R, rsum_0, rsum_I, rsum_R, ps_s, ps_n, true_and, and_true, Nat.reduceAdd, Nat.reduceLeDiff, gF]
    obtain ⟨x1, x2, x3, x4, x5, x6, x7, x8⟩ := kA
    obtain ⟨s0, s1, s2, s3, s4⟩ := sS
    have hn := iT.1
    refine h μD ⟨⟨⟨(oF 8 0 0 19 (by omega)).trans rP.1, fun j hj => (oF 8 0 21 j (by omega)).trans (rP.2 j hj)⟩, (oF 8 0 0 0 (by omega)).trans r0, (oF 8 0 0 2 (by omega)).trans r2⟩, ⟨mr_off rM (fun s j hs => oF 8 0 s j (by omega)), gm_off rG (fun j h1 h2 => oF 8 0 0 j (by omega)) (fun j => oF 8 0 17 j (by omega))⟩, ⟨fun _ => ⟨⟨(oK 29 (by omega) (by omega)).trans x1, (oK 30 (by omega) (by omega)).trans x2, (oK 31 (by omega) (by omega)).trans x3⟩, ⟨(oK 32 (by omega) (by omega)).trans x4, (oK 33 (by omega) (by omega)).trans x5, (oK 34 (by omega) (by omega)).trans x6, (oK 35 (by omega) (by omega)).trans x7, (oK 36 (by omega) (by omega)).trans x8⟩, ⟨(k38 0 (by omega)).trans s0, (k38 1 (by omega)).trans s1, (k38 2 (by omega)).trans s2, (k38 3 (by omega)).trans s3, (k38 4 (by omega)).trans s4⟩, fun j hj => ((kD j (by omega)).1.trans (k6 j)).trans (rM.1.2.2 j hj), fun j hj => ((kD j hj).2.trans (k17 j)).trans (g17 j hj)⟩, fun z => (by cases z)⟩, ⟨(oF 8 0 0 1 (by omega)).trans r1, (oF 8 0 0 17 (by omega)).trans r17, (oF 8 0 0 18 (by omega)).trans r18⟩⟩ (fun c hc => by funext i s j; exact oF c i s j (by omega))
  · have e : aImage ((L, pg), (laid, op), t, (f, cs), (im, t2, f2, cs2), (q, w, b)) = (-103, ((L, pg), (laid, op), t, (f, cs), (im, t2, f2, cs2), (q, w, b))) := by
      show (if _ then _ else _) = _
      rw [if_pos c4]
    rw [e] at h
    refine go_blk [(.bipush (-103), 0, 0, 0), (.ireturn, 0, 0, 0)] (by decide +kernel) ?_
    simp only [e_bp_m103, e_iret0, e_nil, nol_n, nol_I, nol_R, rsum_0, rsum_I, rsum_R, ps_s, ps_n, true_and, and_true, Nat.reduceAdd, Nat.reduceLeDiff, hd2, bi_0, r0, or_true, true_or, y1, y3, y11, y12, y13, y14, y15]
    exact h μ hR0 (offx_rf μ)
theorem xm_restore {l : Launch} {K : KK} {d : Nat} {μ : Mm} {P : Option AV → Mm → Prop} {N : Nat} {S : SS} (hN : N < 2 ^ 30) (hV : Inv N S) (hR : RM μ S) (hd1 : 14 ≤ d) (h : ∀ μ2, RM μ2 ((aRestore S).2) → OffX μ μ2 → P (some (vI ((aRestore S).1))) μ2) : Ok l K d 173 [vR 8 0 0] μ P := by
  refine ok_go 2 (by decide +kernel) [some (vR 8 0 0), none] rfl (Nat.le_of_ble_eq_true rfl) ?_
  have hR0 := hR
  have hV0 := hV
  obtain ⟨⟨L, pg⟩, ⟨laid, op⟩, t, ⟨f, cs⟩, ⟨im, t2, f2, cs2⟩, q, w, b⟩ := S
  obtain ⟨⟨rP, r0, r2⟩, ⟨rM, rG⟩, ⟨rK, rK2⟩, ⟨r1, r17, r18⟩⟩ := hR
  obtain ⟨⟨iL, iP⟩, ⟨iO, iO2⟩, ⟨iT, iF⟩, iK, ⟨iq, iw, ib⟩⟩ := hV
  have hd2 : 1 ≤ d := by omega
  have tr : im = true → μ 8 0 0 29 = 1 ∧ μ 8 0 0 30 = nI q := fun z => ⟨(rK z).1.1, (rK z).1.2.1⟩
  obtain ⟨μA, hA⟩ : ∃ m, m = up (up (up (up (up (up μ 8 0 0 3 (nI (t2 0 1))) 8 0 0 11 (f2 1)) 8 0 0 12 (f2 2)) 8 0 0 13 (f2 3)) 8 0 0 14 (f2 4)) 8 0 0 15 (f2 5) := ⟨_, rfl⟩
  have oA : ∀ c i s j, ¬ (c = 8 ∧ i = 0 ∧ s = 0 ∧ (j = 3 ∨ (11 ≤ j ∧ j ≤ 15))) → μA c i s j = μ c i s j := fun c i s j hc => by
    rw [hA]
    repeat rw [up_ne (by omega)]
  have kA : μA 8 0 0 3 = nI (t2 0 1) ∧ μA 8 0 0 11 = f2 1 ∧ μA 8 0 0 12 = f2 2 ∧ μA 8 0 0 13 = f2 3 ∧ μA 8 0 0 14 = f2 4 ∧ μA 8 0 0 15 = f2 5 := by
    rw [hA]
    refine ⟨?_, ?_, ?_, ?_, ?_, ?_⟩ <;> (repeat first | rw [up_self] | rw [up_ne (by omega)])
  refine go_blk [(.aload_n 0, 0, 0, 0), (.getfield 275, 8, 29, 0), (.ifCond .eq 14, 18, 0, 0)] (by decide +kernel) ?_
  simp only [e_al_0, e_gf_8_29, e_if_eq, rd_8_29, e_nil, nol_n, nol_I, nol_R, rsum_0, rsum_I, rsum_R, ps_s, ps_n, true_and, and_true, Nat.reduceAdd, Nat.reduceLeDiff, hd2]
  refine ⟨fun c4 => ?_, fun c4 => ?_⟩
  · have imf : im = false := by
      cases z : im
      · rfl
      · rw [(tr z).1] at c4; exact absurd c4 (by decide)
    have e : aRestore ((L, pg), (laid, op), t, (f, cs), (im, t2, f2, cs2), (q, w, b)) = (-103, ((L, pg), (laid, op), t, (f, cs), (im, t2, f2, cs2), (q, w, b))) := by
      show (if _ then _ else _) = _
      rw [if_pos imf]
    rw [e] at h
    refine go_blk [(.bipush (-103), 0, 0, 0), (.ireturn, 0, 0, 0)] (by decide +kernel) ?_
    simp only [e_bp_m103, e_iret0, e_nil, nol_n, nol_I, nol_R, rsum_0, rsum_I, rsum_R, ps_s, ps_n, true_and, and_true, Nat.reduceAdd, Nat.reduceLeDiff, hd2]
    exact h μ hR0 (offx_rf μ)
  · refine go_blk [(.aload_n 0, 0, 0, 0), (.getfield 278, 8, 30, 0), (.aload_n 0, 0, 0, 0), (.getfield 93, 8, 1, 0), (.if_icmp .eq 6, 21, 0, 0)] (by decide +kernel) ?_
    simp only [e_al_0, e_gf_8_30, e_gf_8_1, e_icmp_eq, rd_8_30, rd_8_1, e_nil, nol_n, nol_I, nol_R, rsum_0, rsum_I, rsum_R, ps_s, ps_n, true_and, and_true, Nat.reduceAdd, Nat.reduceLeDiff, hd2]
    refine ⟨fun c15 => ?_, fun c15 => ?_⟩
    · have im1 : im = true := by
        cases z : im
        · rcases rK2 z with y | ⟨q', y1, y2⟩
          · exact absurd y c4
          · rw [y2, r1] at c15
            have := nI_inj (by omega) (by omega) c15
            omega
        · rfl
      have e : aRestore ((L, pg), (laid, op), t, (f, cs), (im, t2, f2, cs2), (q, w, b)) = (f2 1, ((L, pg), (laid, op), t2, (f2, cs2), (im, t2, f2, cs2), (q, w, b))) := by
        show (if _ then _ else _) = _
        rw [if_neg (by rw [im1]; decide)]
      rw [e] at h
      obtain ⟨⟨-, -, x31⟩, ⟨x32, x33, x34, x35, x36⟩, ⟨z0, z1, z2, z3, z4⟩, x39, x40⟩ := rK im1
      obtain ⟨⟨-, jT, jF⟩, jn, jk⟩ := iK im1
      have y32 : up μ 8 0 0 3 (nI (t2 0 1)) 8 0 0 32 = f2 1 := by
        repeat rw [up_ne (by omega)]
        exact x32
      have y33 : up (up μ 8 0 0 3 (nI (t2 0 1))) 8 0 0 11 (f2 1) 8 0 0 33 = f2 2 := by
        repeat rw [up_ne (by omega)]
        exact x33
      have y34 : up (up (up μ 8 0 0 3 (nI (t2 0 1))) 8 0 0 11 (f2 1)) 8 0 0 12 (f2 2) 8 0 0 34 = f2 3 := by
        repeat rw [up_ne (by omega)]
        exact x34
      have y35 : up (up (up (up μ 8 0 0 3 (nI (t2 0 1))) 8 0 0 11 (f2 1)) 8 0 0 12 (f2 2)) 8 0 0 13 (f2 3) 8 0 0 35 = f2 4 := by
        repeat rw [up_ne (by omega)]
        exact x35
      have y36 : up (up (up (up (up μ 8 0 0 3 (nI (t2 0 1))) 8 0 0 11 (f2 1)) 8 0 0 12 (f2 2)) 8 0 0 13 (f2 3)) 8 0 0 14 (f2 4) 8 0 0 36 = f2 5 := by
        repeat rw [up_ne (by omega)]
        exact x36
      refine go_blk [(.aload_n 0, 0, 0, 0), (.aload_n 0, 0, 0, 0), (.getfield 281, 8, 31, 0), (.putfield 96, 8, 3, 0)] (by decide +kernel) ?_
      simp only [e_al_0, e_gf_8_31, e_pf_8_3, rd_8_31, e_nil, nol_n, nol_I, nol_R, rsum_0, rsum_I, rsum_R, ps_s, ps_n, true_and, and_true, Nat.reduceAdd, Nat.reduceLeDiff, hd2, x31, y32, y33, y34, y35, y36]
      refine go_blk [(.aload_n 0, 0, 0, 0), (.aload_n 0, 0, 0, 0), (.getfield 284, 8, 32, 0), (.putfield 108, 8, 11, 0)] (by decide +kernel) ?_
      simp only [e_al_0, e_gf_8_32, e_pf_8_11, rd_8_32, e_nil, nol_n, nol_I, nol_R, rsum_0, rsum_I, rsum_R, ps_s, ps_n, true_and, and_true, Nat.reduceAdd, Nat.reduceLeDiff, hd2, x31, y32, y33, y34, y35, y36]
      refine go_blk [(.aload_n 0, 0, 0, 0), (.aload_n 0, 0, 0, 0), (.getfield 287, 8, 33, 0), (.putfield 16, 8, 12, 0)] (by decide +kernel) ?_
      simp only [e_al_0, e_gf_8_33, e_pf_8_12, rd_8_33, e_nil, nol_n, nol_I, nol_R, rsum_0, rsum_I, rsum_R, ps_s, ps_n, true_and, and_true, Nat.reduceAdd, Nat.reduceLeDiff, hd2, x31, y32, y33, y34, y35, y36]
      refine go_blk [(.aload_n 0, 0, 0, 0), (.aload_n 0, 0, 0, 0), (.getfield 290, 8, 34, 0), (.putfield 111, 8, 13, 0)] (by decide +kernel) ?_
      simp only [e_al_0, e_gf_8_34, e_pf_8_13, rd_8_34, e_nil, nol_n, nol_I, nol_R, rsum_0, rsum_I, rsum_R, ps_s, ps_n, true_and, and_true, Nat.reduceAdd, Nat.reduceLeDiff, hd2, x31, y32, y33, y34, y35, y36]
      refine go_blk [(.aload_n 0, 0, 0, 0), (.aload_n 0, 0, 0, 0), (.getfield 293, 8, 35, 0), (.putfield 20, 8, 14, 0)] (by decide +kernel) ?_
      simp only [e_al_0, e_gf_8_35, e_pf_8_14, rd_8_35, e_nil, nol_n, nol_I, nol_R, rsum_0, rsum_I, rsum_R, ps_s, ps_n, true_and, and_true, Nat.reduceAdd, Nat.reduceLeDiff, hd2, x31, y32, y33, y34, y35, y36]
      refine go_blk [(.aload_n 0, 0, 0, 0), (.aload_n 0, 0, 0, 0), (.getfield 296, 8, 36, 0), (.putfield 114, 8, 15, 0)] (by decide +kernel) ?_
      simp only [e_al_0, e_gf_8_36, e_pf_8_15, rd_8_36, e_nil, nol_n, nol_I, nol_R, rsum_0, rsum_I, rsum_R, ps_s, ps_n, true_and, and_true, Nat.reduceAdd, Nat.reduceLeDiff, hd2, x31, y32, y33, y34, y35, y36]
      refine go_blk [(.iconst 0, 0, 0, 0), (.istore_n 1, 0, 0, 0)] (by decide +kernel) ?_
      simp only [e_ic_0, e_is_1n, e_is_1I, e_is_1R, e_nil, nol_n, nol_I, nol_R, rsum_0, rsum_I, rsum_R, ps_s, ps_n, true_and, and_true, Nat.reduceAdd, Nat.reduceLeDiff, hd2, x31, y32, y33, y34, y35, y36]
      rw [← hA]
      refine lp_rs1 (μ0 := μA) (fun μB oB kB x => ?_) 5 0 μA (by omega) (fun c i s j hc => rfl) (fun j hj => by omega)
      refine go_blk [(.aload_n 0, 0, 0, 0), (.iconst 0, 0, 0, 0), (.invokevirtual 212, 149, 1, 8)] (by decide +kernel) ?_
      simp only [e_al_0, e_ic_0, e_iv_8_1, e_nil, nol_n, nol_I, nol_R, rsum_0, rsum_I, rsum_R, ps_s, ps_n, true_and, and_true, Nat.reduceAdd, Nat.reduceLeDiff, hd2]
      have sS : SvR μB 0 t2 := ⟨(kB 0 (by omega)).trans ((oA 8 0 38 0 (by omega)).trans z0), (kB 1 (by omega)).trans ((oA 8 0 38 1 (by omega)).trans z1), (kB 2 (by omega)).trans ((oA 8 0 38 2 (by omega)).trans z2), (kB 3 (by omega)).trans ((oA 8 0 38 3 (by omega)).trans z3), (kB 4 (by omega)).trans ((oA 8 0 38 4 (by omega)).trans z4)⟩
      refine okm_load0 (lv := 0) (by omega) sS (fun μC oC kC => ?_)
      refine go_blk [(.iconst 0, 0, 0, 0), (.istore_n 1, 0, 0, 0)] (by decide +kernel) ?_
      simp only [e_ic_0, e_is_1n, e_is_1I, e_is_1R, e_nil, nol_n, nol_I, nol_R, rsum_0, rsum_I, rsum_R, ps_s, ps_n, true_and, and_true, Nat.reduceAdd, Nat.reduceLeDiff, hd2]
      refine lp_rs2 (μ0 := μC) (fun μD oD kD x => ?_) 6 0 μC (by omega) (fun c i s j hc => rfl) (fun j hj => by omega)
      have oF : ∀ c i s j, ¬ (c = 8 ∧ i = 0 ∧ ((s = 0 ∧ (j = 3 ∨ (6 ≤ j ∧ j ≤ 15))) ∨ s = 24 ∨ s = 6 ∨ s = 17)) → μD c i s j = μ c i s j := fun c i s j hc => by
        rw [oD c i s j (by omega), oC c i s j (by omega), oB c i s j (by omega), oA c i s j (by omega)]
      have oK : ∀ j, (j = 3 ∨ (11 ≤ j ∧ j ≤ 15)) → μD 8 0 0 j = μA 8 0 0 j := fun j hj => by
        rw [oD 8 0 0 j (by omega), oC 8 0 0 j (by omega), oB 8 0 0 j (by omega)]
      have oM : ∀ j, 6 ≤ j → j ≤ 10 → μD 8 0 0 j = μC 8 0 0 j := fun j h1 h2 => oD 8 0 0 j (by omega)
      have k39 : ∀ j, μC 8 0 39 j = μ 8 0 39 j := fun j => by rw [oC 8 0 39 j (by omega), oB 8 0 39 j (by omega), oA 8 0 39 j (by omega)]
      have k40 : ∀ j, μC 8 0 40 j = μ 8 0 40 j := fun j => by rw [oC 8 0 40 j (by omega), oB 8 0 40 j (by omega), oA 8 0 40 j (by omega)]
      obtain ⟨w3, w11, w12, w13, w14, w15⟩ := kA
      have gF : μD 8 0 0 11 = f2 1 := (oK 11 (by omega)).trans w11
      refine go_blk [(.aload_n 0, 0, 0, 0), (.getfield 108, 8, 11, 0), (.ireturn, 0, 0, 0)] (by decide +kernel) ?_
      simp only [e_al_0, e_gf_8_11, e_iret0, rd_8_11, e_nil, nol_n, nol_I, nol_R, rsum_0, rsum_I, rsum_R, ps_s, ps_n, true_and, and_true, Nat.reduceAdd, Nat.reduceLeDiff, gF]
      have hn := iT.1
      have nM : MRep μD t2 := ⟨⟨(oK 3 (by omega)).trans w3, fun j hj => by rw [oF 8 0 5 j (by omega), jk j hj]; exact rM.1.2.1 j (by omega), fun j hj => ((kD j (by omega)).1.trans (k39 j)).trans (x39 j hj)⟩, ⟨(oM 6 (by omega) (by omega)).trans kC.1, (oM 7 (by omega) (by omega)).trans kC.2.1, (oM 8 (by omega) (by omega)).trans kC.2.2.1⟩, (oM 9 (by omega) (by omega)).trans kC.2.2.2.1, (oM 10 (by omega) (by omega)).trans kC.2.2.2.2⟩
      have z9 := rm_gm (μ2 := μD) (t' := t2) (f' := f2) (cs' := cs2) hR0 (fun c i s j hc => oF c i s j (fun z => hc ⟨z.1, z.2.1, by unfold Scr; omega⟩)) nM ⟨⟨gF, (oK 12 (by omega)).trans w12, (oK 13 (by omega)).trans w13, (oK 14 (by omega)).trans w14, (oK 15 (by omega)).trans w15⟩, fun j hj => ((kD j hj).2.trans (k40 j)).trans (x40 j hj)⟩
      exact h μD z9.1 z9.2
    · have imf : im = false := by
        cases z : im
        · rfl
        · exact absurd ((tr z).2.trans r1.symm) c15
      have e : aRestore ((L, pg), (laid, op), t, (f, cs), (im, t2, f2, cs2), (q, w, b)) = (-103, ((L, pg), (laid, op), t, (f, cs), (im, t2, f2, cs2), (q, w, b))) := by
        show (if _ then _ else _) = _
        rw [if_pos imf]
      rw [e] at h
      refine go_blk [(.bipush (-103), 0, 0, 0), (.ireturn, 0, 0, 0)] (by decide +kernel) ?_
      simp only [e_bp_m103, e_iret0, e_nil, nol_n, nol_I, nol_R, rsum_0, rsum_I, rsum_R, ps_s, ps_n, true_and, and_true, Nat.reduceAdd, Nat.reduceLeDiff, hd2]
      exact h μ hR0 (offx_rf μ)
