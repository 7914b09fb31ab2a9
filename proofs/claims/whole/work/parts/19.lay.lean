theorem g_pl : ∀ c, c < 15 → rwI (nI c) * 6 + clI (nI c) = nI (c + c / 5) ∧ c + c / 5 < 17 := by decide +kernel
/-- only the carpet's own cells have changed -/
def Off0 (μ μ' : Mm) : Prop := ∀ c, c ≠ 0 → μ' c = μ c
theorem Off0.rf (μ : Mm) : Off0 μ μ := fun _ _ => rfl
theorem Off0.up {μ μ' : Mm} (h : Off0 μ μ') (i s j : Nat) (v : Int32) : Off0 μ (up μ' 0 i s j v) := by
  intro c hc
  rw [← h c hc]
  funext i' s' j'
  exact up_ne fun q => hc q.1
theorem PRep.off {μ μ' : Mm} {L : Nat} {pg : Nat → Nat} (h : PRep μ L pg) (e : μ' 3 = μ 3) : PRep μ' L pg := by
  unfold PRep at *
  rw [e]
  exact h
theorem lp_lay1 {l : Launch} {K : KK} {d : Nat} {P : Option AV → Mm → Prop} {μ0 : Mm} {pg : Nat → Nat} (hp : PRep μ0 20 pg) (hd1 : 1 ≤ d) (hk : ∀ μ1, Off0 μ0 μ1 → μ1 0 0 0 0 = 1 → μ1 0 0 0 1 = nI (opF pg 15) → ∀ y3, Go l K d 1 60 [some (vR 0 0 0), some (vR 3 0 0), some (vI 15), y3] [] μ1 P) : ∀ (r e : Nat) (μ : Mm) (y3 : Option AV), e + r = 15 → Off0 μ0 μ → μ 0 0 0 0 = 1 → μ 0 0 0 1 = nI (opF pg e) → Go l K d 1 12 [some (vR 0 0 0), some (vR 3 0 0), some (vI (nI e)), y3] [] μ P := by
  intro r
  induction r with
  | zero =>
    intro e μ y3 he h0 h1 h2
    have e15 : e = 15 := by omega
    subst e15
    refine go_blk [(.iload_n 2, 0, 0, 0), (.bipush 15, 0, 0, 0), (.if_icmp .ge 45, 60, 0, 0)] (by decide +kernel) ?_
    simp only [e_il_2, e_bp_15, e_icmp_ge, e_nil, nol_n, nol_I, nol_R, rsum_0, rsum_I, rsum_R, ps_s, ps_n, true_and, and_true, Nat.reduceAdd, Nat.reduceLeDiff]
    refine ⟨fun c15 => ?_, fun c15 => ?_⟩
    · exact hk μ h0 h1 h2 y3
    · exact absurd (by decide) c15
  | succ r ih =>
    intro e μ y3 he h0 h1 h2
    have hg := g_pl e (by omega)
    have hsh := nI_shl (c := e) (by omega)
    have hp1 := hp.off (h0 3 (by decide))
    have hv : vp_in (nI (e + e / 5)) 22 := vin (by omega) (by omega)
    have hx : ix (nI (e + e / 5)) = e + e / 5 := nI_ix (by omega)
    have hm := hp1.2.2 (e + e / 5) (by omega)
    have hm1 := hm.1
    have he46 : (nI (pg (e + e / 5)) = 46) = (pg (e + e / 5) = 46) := propext (nI_eq (b := 46) (by omega) (by omega))
    have hl1 : opF pg (e + 1) = opF pg e ||| (if pg (e + e / 5) = 46 then 2 ^ e else 0) := rfl
    refine go_blk [(.iload_n 2, 0, 0, 0), (.bipush 15, 0, 0, 0), (.if_icmp .ge 45, 60, 0, 0)] (by decide +kernel) ?_
    simp only [e_il_2, e_bp_15, e_icmp_ge, e_nil, nol_n, nol_I, nol_R, rsum_0, rsum_I, rsum_R, ps_s, ps_n, true_and, and_true, Nat.reduceAdd, Nat.reduceLeDiff, hd1, hg.1, hv, hx, hm1, he46, h2, hsh, nI_or, rd_0_1, nI_1]
    refine ⟨fun c15 => ?_, fun c15 => ?_⟩
    · exact absurd c15 (nI_ge (b := 15) (by omega) (by omega))
    · refine go_blk [(.iload_n 2, 0, 0, 0), (.invokestatic 29, 21, 1, 0)] (by decide +kernel) ?_
      simp only [e_il_2, e_ivs_1, e_nil, Nat.reduceLT, nol_n, nol_I, nol_R, rsum_0, rsum_I, rsum_R, ps_s, ps_n, true_and, and_true, Nat.reduceAdd, Nat.reduceLeDiff, hd1, hg.1, hv, hx, hm1, he46, h2, hsh, nI_or, rd_0_1, nI_1]
      refine ok_rowOf ?_
      refine go_blk [(.bipush 6, 0, 0, 0), (.imul, 0, 0, 0), (.iload_n 2, 0, 0, 0), (.invokestatic 35, 22, 1, 0)] (by decide +kernel) ?_
      simp only [e_bp_6, e_imul, e_il_2, e_ivs_1, e_nil, Nat.reduceLT, nol_n, nol_I, nol_R, rsum_0, rsum_I, rsum_R, ps_s, ps_n, true_and, and_true, Nat.reduceAdd, Nat.reduceLeDiff, hd1, hg.1, hv, hx, hm1, he46, h2, hsh, nI_or, rd_0_1, nI_1]
      refine ok_columnOf ?_
      refine go_blk [(.iadd, 0, 0, 0), (.istore_n 3, 0, 0, 0), (.aload_n 1, 0, 0, 0), (.getfield 38, 3, 0, 0), (.iload_n 3, 0, 0, 0), (.caload, 0, 0, 0), (.bipush 46, 0, 0, 0), (.if_icmp .ne 15, 54, 0, 0)] (by decide +kernel) ?_
      simp only [e_iadd, e_is_3n, e_is_3I, e_is_3R, e_al_1, e_gf_3_0, e_il_3, e_ca, e_bp_46, e_icmp_ne, rd_3_0, ai_0_4, ai_1_7, ai_2_1, ai_2_2, ai_3_1, ai_4_1, ai_6_3, ai_6_4, ai_6_5, ai_6_6, ai_6_7, ai_6_8, ai_8_5, ai_8_6, ai_8_17, ai_8_21, ai_8_23, ai_8_24, ai_8_27, ai_8_28, ai_8_38, ai_8_39, ai_8_40, e_nil, nol_n, nol_I, nol_R, rsum_0, rsum_I, rsum_R, ps_s, ps_n, true_and, and_true, Nat.reduceAdd, Nat.reduceLeDiff, hd1, hg.1, hv, hx, hm1, he46, h2, hsh, nI_or, rd_0_1, nI_1]
      refine ⟨fun c39 => ?_, fun c39 => ?_⟩
      · rw [if_neg c39, Nat.or_zero] at hl1
        refine go_blk [(.iinc 2 1, 0, 0, 0), (.goto (-45), 12, 0, 0)] (by decide +kernel) ?_
        simp only [e_inc_2_1n, e_inc_2_1I, e_inc_2_1R, e_goto, e_nil, nol_n, nol_I, nol_R, rsum_0, rsum_I, rsum_R, ps_s, ps_n, true_and, and_true, Nat.reduceAdd, Nat.reduceLeDiff, hd1, hg.1, hv, hx, hm1, he46, h2, hsh, nI_or, rd_0_1, nI_1]
        exact ih (e + 1) μ _ (by omega) h0 h1 (by rw [hl1]; exact h2)
      · rw [if_pos c39] at hl1
        refine go_blk [(.aload_n 0, 0, 0, 0), (.dup, 0, 0, 0), (.getfield 15, 0, 1, 0), (.iconst 1, 0, 0, 0), (.iload_n 2, 0, 0, 0), (.ishl, 0, 0, 0), (.ior, 0, 0, 0), (.putfield 15, 0, 1, 0), (.iinc 2 1, 0, 0, 0), (.goto (-45), 12, 0, 0)] (by decide +kernel) ?_
        simp only [e_al_0, e_dupI, e_dupR, e_gf_0_1, e_ic_1, e_il_2, e_ishl, e_ior, e_pf_0_1, e_inc_2_1n, e_inc_2_1I, e_inc_2_1R, e_goto, rd_0_1, e_nil, nol_n, nol_I, nol_R, rsum_0, rsum_I, rsum_R, ps_s, ps_n, true_and, and_true, Nat.reduceAdd, Nat.reduceLeDiff, hd1, hg.1, hv, hx, hm1, he46, h2, hsh, nI_or, rd_0_1, nI_1]
        exact ih (e + 1) _ _ (by omega) (h0.up _ _ _ _) (by rw [up_ne (by omega)]; exact h1) (by rw [up_self, hl1])
theorem lp_lay2 {l : Launch} {K : KK} {d : Nat} {P : Option AV → Mm → Prop} {μ0 : Mm} {op : Nat} {y3 : Option AV} (hop : op < 2 ^ 15) (hd1 : 3 ≤ d) (hk : ∀ μ1, Off0 μ0 μ1 → CRep μ1 true op → μ1 0 0 0 4 = -1 → P none μ1) : ∀ (r e : Nat) (μ : Mm), e + r = 15 → Off0 μ0 μ → μ 0 0 0 0 = 1 → μ 0 0 0 1 = nI op → μ 0 0 0 2 = nI (bsF op e) → (∀ c, c < e → μ 0 0 4 c = nI (sn op c)) → Go l K d 1 67 [some (vR 0 0 0), some (vR 3 0 0), some (vI (nI e)), y3] [] μ P := by
  have hd2 : 1 ≤ d := by omega
  intro r
  induction r with
  | zero =>
    intro e μ he h0 h1 h2 h3 h4
    have e15 : e = 15 := by omega
    subst e15
    refine go_blk [(.iload_n 2, 0, 0, 0), (.bipush 15, 0, 0, 0), (.if_icmp .ge 56, 126, 0, 0)] (by decide +kernel) ?_
    simp only [e_il_2, e_bp_15, e_icmp_ge, e_nil, nol_n, nol_I, nol_R, rsum_0, rsum_I, rsum_R, ps_s, ps_n, true_and, and_true, Nat.reduceAdd, Nat.reduceLeDiff]
    refine ⟨fun c70 => ?_, fun c70 => ?_⟩
    · refine go_blk [(.aload_n 0, 0, 0, 0), (.iconst (-1), 0, 0, 0), (.putfield 26, 0, 4, 0), (.return_, 0, 0, 0)] (by decide +kernel) ?_
      simp only [e_al_0, e_ic_m1, e_pf_0_4, e_vret, e_nil, nol_n, nol_I, nol_R, rsum_0, rsum_I, rsum_R, ps_s, ps_n, true_and, and_true, Nat.reduceAdd, Nat.reduceLeDiff]
      refine hk _ (h0.up _ _ _ _) ⟨?_, ?_, hop, fun z => (by cases z), fun _ => ⟨?_, fun c hc => ?_⟩⟩ (up_self _ _ _ _ _ _)
      · rw [up_ne (by omega)]; exact h1
      · rw [up_ne (by omega)]; exact h2
      · rw [up_ne (by omega)]; exact h3
      · rw [up_ne (by omega)]; exact h4 c hc
    · exact absurd (by decide) c70
  | succ r ih =>
    intro e μ he h0 h1 h2 h3 h4
    have hsh := nI_shl (c := e) (by omega)
    have hv : vp_in (nI e) 15 := vin (by omega) (by omega)
    have hx : ix (nI e) = e := nI_ix (by omega)
    have hl1 : bsF op (e + 1) = bsF op e ||| (if tc op e then 2 ^ e else 0) := rfl
    have hz : (0 : Int32) = nI 0 := rfl
    have hbr : ∀ v, up μ 0 0 4 e v 0 0 0 2 = nI (bsF op e) := fun v => by rw [up_ne (by omega)]; exact h3
    have key : ∀ (v : Int32), v = nI (sn op e) → ∀ (w : Int32), w = nI (bsF op (e + 1)) → Go l K d 1 67 [some (vR 0 0 0), some (vR 3 0 0), some (vI (nI e + 1)), y3] [] (up (up μ 0 0 4 e v) 0 0 0 2 w) P := by
      intro v hv1 w hw1
      rw [nI_1]
      refine ih (e + 1) _ (by omega) ((h0.up _ _ _ _).up _ _ _ _) ?_ ?_ ?_ (fun c hc => ?_)
      · rw [up_ne (by omega), up_ne (by omega)]; exact h1
      · rw [up_ne (by omega), up_ne (by omega)]; exact h2
      · rw [up_self]; exact hw1
      · rw [up_ne (by omega)]
        by_cases hce : c = e
        · subst hce; rw [up_self]; exact hv1
        · rw [up_ne (by omega)]; exact h4 c (by omega)
    refine go_blk [(.iload_n 2, 0, 0, 0), (.bipush 15, 0, 0, 0), (.if_icmp .ge 56, 126, 0, 0)] (by decide +kernel) ?_
    simp only [e_il_2, e_bp_15, e_icmp_ge, e_nil, nol_n, nol_I, nol_R, rsum_0, rsum_I, rsum_R, ps_s, ps_n, true_and, and_true, Nat.reduceAdd, Nat.reduceLeDiff, hd2, bi_0, hv, hx, hbr, hsh, Bool.not_eq_false]
    refine ⟨fun c70 => ?_, fun c70 => ?_⟩
    · exact absurd c70 (nI_ge (b := 15) (by omega) (by omega))
    · refine go_blk [(.aload_n 0, 0, 0, 0), (.getfield 22, 0, 3, 0), (.iload_n 2, 0, 0, 0), (.aload_n 0, 0, 0, 0), (.iload_n 2, 0, 0, 0), (.invokevirtual 44, 3, 1, 0)] (by decide +kernel) ?_
      simp only [e_al_0, e_gf_0_3, e_il_2, e_iv_0_1, rd_0_3, e_nil, nol_n, nol_I, nol_R, rsum_0, rsum_I, rsum_R, ps_s, ps_n, true_and, and_true, Nat.reduceAdd, Nat.reduceLeDiff, hd2, bi_0, hv, hx, hbr, hsh, Bool.not_eq_false]
      refine ok_isOpen h2 hop (by omega) ?_
      refine go_blk [(.ifCond .eq 11, 94, 0, 0)] (by decide +kernel) ?_
      simp only [e_if_eq, e_nil, nol_n, nol_I, nol_R, rsum_0, rsum_I, rsum_R, ps_s, ps_n, true_and, and_true, Nat.reduceAdd, Nat.reduceLeDiff, hd2, bi_0, hv, hx, hbr, hsh, Bool.not_eq_false]
      refine ⟨fun c83 => ?_, fun c83 => ?_⟩
      · have hs : (0 : Int32) = nI (sn op e) := by simp [sn, c83, nI_0]
        refine go_blk [(.iconst 0, 0, 0, 0)] (by decide +kernel) ?_
        simp only [e_ic_0, e_nil, nol_n, nol_I, nol_R, rsum_0, rsum_I, rsum_R, ps_s, ps_n, true_and, and_true, Nat.reduceAdd, Nat.reduceLeDiff, hd2, bi_0, hv, hx, hbr, hsh, Bool.not_eq_false]
        refine go_blk [(.iastore, 0, 0, 0), (.aload_n 0, 0, 0, 0), (.dup, 0, 0, 0), (.getfield 19, 0, 2, 0), (.aload_n 0, 0, 0, 0), (.iload_n 2, 0, 0, 0), (.invokevirtual 51, 9, 1, 0)] (by decide +kernel) ?_
        simp only [e_iast, e_al_0, e_dupI, e_dupR, e_gf_0_2, e_il_2, e_iv_0_1, rd_0_2, ai_0_4, ai_1_7, ai_2_1, ai_2_2, ai_3_1, ai_4_1, ai_6_3, ai_6_4, ai_6_5, ai_6_6, ai_6_7, ai_6_8, ai_8_5, ai_8_6, ai_8_17, ai_8_21, ai_8_23, ai_8_24, ai_8_27, ai_8_28, ai_8_38, ai_8_39, ai_8_40, e_nil, nol_n, nol_I, nol_R, rsum_0, rsum_I, rsum_R, ps_s, ps_n, true_and, and_true, Nat.reduceAdd, Nat.reduceLeDiff, hd2, bi_0, hv, hx, hbr, hsh, Bool.not_eq_false]
        refine ok_touchesCover (by rw [up_ne (by omega)]; exact h2) hop (by omega) (by omega) ?_
        refine go_blk [(.ifCond .eq 9, 115, 0, 0)] (by decide +kernel) ?_
        simp only [e_if_eq, e_nil, nol_n, nol_I, nol_R, rsum_0, rsum_I, rsum_R, ps_s, ps_n, true_and, and_true, Nat.reduceAdd, Nat.reduceLeDiff, hd2, bi_0, hv, hx, hbr, hsh, Bool.not_eq_false]
        refine ⟨fun c106 => ?_, fun c106 => ?_⟩
        · have hw : nI (bsF op e) ||| 0 = nI (bsF op (e + 1)) := by rw [hl1, c106, hz, nI_or]; rfl
          refine go_blk [(.iconst 0, 0, 0, 0)] (by decide +kernel) ?_
          simp only [e_ic_0, e_nil, nol_n, nol_I, nol_R, rsum_0, rsum_I, rsum_R, ps_s, ps_n, true_and, and_true, Nat.reduceAdd, Nat.reduceLeDiff, hd2, bi_0, hv, hx, hbr, hsh, Bool.not_eq_false]
          refine go_blk [(.ior, 0, 0, 0), (.putfield 19, 0, 2, 0), (.iinc 2 1, 0, 0, 0), (.goto (-56), 67, 0, 0)] (by decide +kernel) ?_
          simp only [e_ior, e_pf_0_2, e_inc_2_1n, e_inc_2_1I, e_inc_2_1R, e_goto, e_nil, nol_n, nol_I, nol_R, rsum_0, rsum_I, rsum_R, ps_s, ps_n, true_and, and_true, Nat.reduceAdd, Nat.reduceLeDiff, hd2, bi_0, hv, hx, hbr, hsh, Bool.not_eq_false]
          exact key _ hs _ hw
        · have hw : nI (bsF op e) ||| nI (2 ^ e) = nI (bsF op (e + 1)) := by rw [hl1, nI_or]; simp [c106]
          refine go_blk [(.iconst 1, 0, 0, 0), (.iload_n 2, 0, 0, 0), (.ishl, 0, 0, 0), (.goto 4, 116, 0, 0)] (by decide +kernel) ?_
          simp only [e_ic_1, e_il_2, e_ishl, e_goto, e_nil, nol_n, nol_I, nol_R, rsum_0, rsum_I, rsum_R, ps_s, ps_n, true_and, and_true, Nat.reduceAdd, Nat.reduceLeDiff, hd2, bi_0, hv, hx, hbr, hsh, Bool.not_eq_false]
          refine go_blk [(.ior, 0, 0, 0), (.putfield 19, 0, 2, 0), (.iinc 2 1, 0, 0, 0), (.goto (-56), 67, 0, 0)] (by decide +kernel) ?_
          simp only [e_ior, e_pf_0_2, e_inc_2_1n, e_inc_2_1I, e_inc_2_1R, e_goto, e_nil, nol_n, nol_I, nol_R, rsum_0, rsum_I, rsum_R, ps_s, ps_n, true_and, and_true, Nat.reduceAdd, Nat.reduceLeDiff, hd2, bi_0, hv, hx, hbr, hsh, Bool.not_eq_false]
          exact key _ hs _ hw
      · have hs : nI (lkS op e 15) = nI (sn op e) := by simp [sn, c83]
        refine go_blk [(.aload_n 0, 0, 0, 0), (.iload_n 2, 0, 0, 0), (.invokevirtual 48, 10, 1, 0)] (by decide +kernel) ?_
        simp only [e_al_0, e_il_2, e_iv_0_1, e_nil, nol_n, nol_I, nol_R, rsum_0, rsum_I, rsum_R, ps_s, ps_n, true_and, and_true, Nat.reduceAdd, Nat.reduceLeDiff, hd2, bi_0, hv, hx, hbr, hsh, Bool.not_eq_false]
        refine ok_lookFrom h2 hop (by omega) (by omega) ?_
        refine go_blk [(.goto 4, 95, 0, 0)] (by decide +kernel) ?_
        simp only [e_goto, e_nil, nol_n, nol_I, nol_R, rsum_0, rsum_I, rsum_R, ps_s, ps_n, true_and, and_true, Nat.reduceAdd, Nat.reduceLeDiff, hd2, bi_0, hv, hx, hbr, hsh, Bool.not_eq_false]
        refine go_blk [(.iastore, 0, 0, 0), (.aload_n 0, 0, 0, 0), (.dup, 0, 0, 0), (.getfield 19, 0, 2, 0), (.aload_n 0, 0, 0, 0), (.iload_n 2, 0, 0, 0), (.invokevirtual 51, 9, 1, 0)] (by decide +kernel) ?_
        simp only [e_iast, e_al_0, e_dupI, e_dupR, e_gf_0_2, e_il_2, e_iv_0_1, rd_0_2, ai_0_4, ai_1_7, ai_2_1, ai_2_2, ai_3_1, ai_4_1, ai_6_3, ai_6_4, ai_6_5, ai_6_6, ai_6_7, ai_6_8, ai_8_5, ai_8_6, ai_8_17, ai_8_21, ai_8_23, ai_8_24, ai_8_27, ai_8_28, ai_8_38, ai_8_39, ai_8_40, e_nil, nol_n, nol_I, nol_R, rsum_0, rsum_I, rsum_R, ps_s, ps_n, true_and, and_true, Nat.reduceAdd, Nat.reduceLeDiff, hd2, bi_0, hv, hx, hbr, hsh, Bool.not_eq_false]
        refine ok_touchesCover (by rw [up_ne (by omega)]; exact h2) hop (by omega) (by omega) ?_
        refine go_blk [(.ifCond .eq 9, 115, 0, 0)] (by decide +kernel) ?_
        simp only [e_if_eq, e_nil, nol_n, nol_I, nol_R, rsum_0, rsum_I, rsum_R, ps_s, ps_n, true_and, and_true, Nat.reduceAdd, Nat.reduceLeDiff, hd2, bi_0, hv, hx, hbr, hsh, Bool.not_eq_false]
        refine ⟨fun c106 => ?_, fun c106 => ?_⟩
        · have hw : nI (bsF op e) ||| 0 = nI (bsF op (e + 1)) := by rw [hl1, c106, hz, nI_or]; rfl
          refine go_blk [(.iconst 0, 0, 0, 0)] (by decide +kernel) ?_
          simp only [e_ic_0, e_nil, nol_n, nol_I, nol_R, rsum_0, rsum_I, rsum_R, ps_s, ps_n, true_and, and_true, Nat.reduceAdd, Nat.reduceLeDiff, hd2, bi_0, hv, hx, hbr, hsh, Bool.not_eq_false]
          refine go_blk [(.ior, 0, 0, 0), (.putfield 19, 0, 2, 0), (.iinc 2 1, 0, 0, 0), (.goto (-56), 67, 0, 0)] (by decide +kernel) ?_
          simp only [e_ior, e_pf_0_2, e_inc_2_1n, e_inc_2_1I, e_inc_2_1R, e_goto, e_nil, nol_n, nol_I, nol_R, rsum_0, rsum_I, rsum_R, ps_s, ps_n, true_and, and_true, Nat.reduceAdd, Nat.reduceLeDiff, hd2, bi_0, hv, hx, hbr, hsh, Bool.not_eq_false]
          exact key _ hs _ hw
        · have hw : nI (bsF op e) ||| nI (2 ^ e) = nI (bsF op (e + 1)) := by rw [hl1, nI_or]; simp [c106]
          refine go_blk [(.iconst 1, 0, 0, 0), (.iload_n 2, 0, 0, 0), (.ishl, 0, 0, 0), (.goto 4, 116, 0, 0)] (by decide +kernel) ?_
          simp only [e_ic_1, e_il_2, e_ishl, e_goto, e_nil, nol_n, nol_I, nol_R, rsum_0, rsum_I, rsum_R, ps_s, ps_n, true_and, and_true, Nat.reduceAdd, Nat.reduceLeDiff, hd2, bi_0, hv, hx, hbr, hsh, Bool.not_eq_false]
          refine go_blk [(.ior, 0, 0, 0), (.putfield 19, 0, 2, 0), (.iinc 2 1, 0, 0, 0), (.goto (-56), 67, 0, 0)] (by decide +kernel) ?_
          simp only [e_ior, e_pf_0_2, e_inc_2_1n, e_inc_2_1I, e_inc_2_1R, e_goto, e_nil, nol_n, nol_I, nol_R, rsum_0, rsum_I, rsum_R, ps_s, ps_n, true_and, and_true, Nat.reduceAdd, Nat.reduceLeDiff, hd2, bi_0, hv, hx, hbr, hsh, Bool.not_eq_false]
          exact key _ hs _ hw
theorem ok_lay {l : Launch} {K : KK} {d : Nat} {μ : Mm} {P : Option AV → Mm → Prop} {pg : Nat → Nat} (hp : PRep μ 20 pg) (hd1 : 3 ≤ d) (h : ∀ μ1, Off0 μ μ1 → CRep μ1 true (opF pg 15) → μ1 0 0 0 4 = -1 → P none μ1) : Ok l K d 1 [vR 0 0 0, vR 3 0 0] μ P := by
  refine ok_go 4 (by decide +kernel) [some (vR 0 0 0), some (vR 3 0 0), none, none] rfl (Nat.le_of_ble_eq_true rfl) ?_
  have h01 : ((1 : Int32) = 0 ∨ (1 : Int32) = 1) = True := by decide
  refine go_blk [(.aload_n 0, 0, 0, 0), (.iconst 1, 0, 0, 0), (.putfield 9, 0, 0, 0), (.aload_n 0, 0, 0, 0), (.iconst 0, 0, 0, 0), (.putfield 15, 0, 1, 0), (.iconst 0, 0, 0, 0), (.istore_n 2, 0, 0, 0)] (by decide +kernel) ?_
  simp only [e_al_0, e_ic_1, e_pf_0_0, e_ic_0, e_pf_0_1, e_is_2n, e_is_2I, e_is_2R, e_nil, nol_n, nol_I, nol_R, rsum_0, rsum_I, rsum_R, ps_s, ps_n, true_and, and_true, Nat.reduceAdd, Nat.reduceLeDiff, h01]
  refine ⟨Or.inr trivial, ?_⟩
  refine lp_lay1 (μ0 := μ) hp (show 1 ≤ d by omega) (fun μ1 h0 h1 h2 y3 => ?_) 15 0 (up (up μ 0 0 0 0 1) 0 0 0 1 0) none rfl (((Off0.rf μ).up _ _ _ _).up _ _ _ _) (by rw [up_ne (by omega), up_self]) (by rw [up_self]; rfl)
  refine go_blk [(.aload_n 0, 0, 0, 0), (.iconst 0, 0, 0, 0), (.putfield 19, 0, 2, 0), (.iconst 0, 0, 0, 0), (.istore_n 2, 0, 0, 0)] (by decide +kernel) ?_
  simp only [e_al_0, e_ic_0, e_pf_0_2, e_is_2n, e_is_2I, e_is_2R, e_nil, nol_n, nol_I, nol_R, rsum_0, rsum_I, rsum_R, ps_s, ps_n, true_and, and_true, Nat.reduceAdd, Nat.reduceLeDiff]
  refine lp_lay2 (μ0 := μ) (opF_lt pg 15 (by omega)) (show 3 ≤ d by omega) h 15 0 (up μ1 0 0 0 2 0) rfl (h0.up _ _ _ _) (by rw [up_ne (by omega)]; exact h1) (by rw [up_ne (by omega)]; exact h2) (by rw [up_self]; rfl) (fun c hc => by omega)
