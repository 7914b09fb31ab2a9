/-- what the cells of a set see together, up to a cell -/
def stgF (op m : Nat) : Nat → Nat
  | 0 => 0
  | c + 1 => stgF op m c ||| (if m.testBit c then sn op c else 0)
theorem lp_stg {l : Launch} {K : KK} {d : Nat} {μ : Mm} {P : Option AV → Mm → Prop} {op m : Nat} (hm : m < 2 ^ 15) (hC : CRep μ true op) (h : P (some (vI (nI (stgF op m 15)))) μ) : ∀ (r e : Nat), e + r = 15 → Go l K d 12 4 [some (vR 0 0 0), some (vI (nI m)), some (vI (nI (stgF op m e))), some (vI (nI e))] [] μ P := by
  intro r
  induction r with
  | zero =>
    intro e he
    have e0 : e = 15 := by omega
    subst e0
    refine go_blk [(.iload_n 3, 0, 0, 0), (.bipush 15, 0, 0, 0), (.if_icmp .ge 27, 34, 0, 0)] (by decide +kernel) ?_
    simp only [e_il_3, e_bp_15, e_icmp_ge, e_nil, nol_n, nol_I, nol_R, rsum_0, rsum_I, rsum_R, ps_s, ps_n, true_and, and_true, Nat.reduceAdd, Nat.reduceLeDiff]
    refine ⟨fun c7 => ?_, fun c7 => ?_⟩
    · refine go_blk [(.iload_n 2, 0, 0, 0), (.ireturn, 0, 0, 0)] (by decide +kernel) ?_
      simp only [e_il_2, e_iret0, e_nil, nol_n, nol_I, nol_R, rsum_0, rsum_I, rsum_R, ps_s, ps_n, true_and, and_true, Nat.reduceAdd, Nat.reduceLeDiff]
      exact h
    · exact absurd (by decide) c7
  | succ r ih =>
    intro e he
    have vi : vp_in (nI e) 15 := vin (by omega) (by omega)
    have hx : ix (nI e) = e := nI_ix (by omega)
    have hb := (hC.2.2.2.2 rfl).2 e (by omega)
    have eb := nI_bit1 (m := m) (c := e) (by omega) (by omega)
    have u : stgF op m (e + 1) = stgF op m e ||| (if m.testBit e then sn op e else 0) := rfl
    refine go_blk [(.iload_n 3, 0, 0, 0), (.bipush 15, 0, 0, 0), (.if_icmp .ge 27, 34, 0, 0)] (by decide +kernel) ?_
    simp only [e_il_3, e_bp_15, e_icmp_ge, e_nil, nol_n, nol_I, nol_R, rsum_0, rsum_I, rsum_R, ps_s, ps_n, true_and, and_true, Nat.reduceAdd, Nat.reduceLeDiff, vi, hx, hb, eb, nI_or, Classical.not_not]
    refine ⟨fun c7 => ?_, fun c7 => ?_⟩
    · exact absurd c7 (nI_ge (b := 15) (by omega) (by omega))
    · refine go_blk [(.iload_n 1, 0, 0, 0), (.iload_n 3, 0, 0, 0), (.ishr, 0, 0, 0), (.iconst 1, 0, 0, 0), (.iand, 0, 0, 0), (.iconst 1, 0, 0, 0), (.if_icmp .ne 12, 28, 0, 0)] (by decide +kernel) ?_
      simp only [e_il_1, e_il_3, e_ishr, e_ic_1, e_iand, e_icmp_ne, e_nil, nol_n, nol_I, nol_R, rsum_0, rsum_I, rsum_R, ps_s, ps_n, true_and, and_true, Nat.reduceAdd, Nat.reduceLeDiff, vi, hx, hb, eb, nI_or, Classical.not_not]
      refine ⟨fun c16 => ?_, fun c16 => ?_⟩
      · rw [if_neg c16, Nat.or_zero] at u
        refine go_blk [(.iinc 3 1, 0, 0, 0), (.goto (-27), 4, 0, 0)] (by decide +kernel) ?_
        simp only [e_inc_3_1n, e_inc_3_1I, e_inc_3_1R, e_goto, e_nil, nol_n, nol_I, nol_R, rsum_0, rsum_I, rsum_R, ps_s, ps_n, true_and, and_true, Nat.reduceAdd, Nat.reduceLeDiff, vi, hx, hb, eb, nI_or, Classical.not_not]
        rw [nI_1]
        have z := ih (e + 1) (by omega)
        rw [u] at z
        exact z
      · rw [if_pos c16] at u
        refine go_blk [(.iload_n 2, 0, 0, 0), (.aload_n 0, 0, 0, 0), (.getfield 22, 0, 3, 0), (.iload_n 3, 0, 0, 0), (.iaload, 0, 0, 0), (.ior, 0, 0, 0), (.istore_n 2, 0, 0, 0), (.iinc 3 1, 0, 0, 0), (.goto (-27), 4, 0, 0)] (by decide +kernel) ?_
        simp only [e_il_2, e_al_0, e_gf_0_3, e_il_3, e_ia, e_ior, e_is_2n, e_is_2I, e_is_2R, e_inc_3_1n, e_inc_3_1I, e_inc_3_1R, e_goto, rd_0_3, ai_0_4, ai_1_7, ai_2_1, ai_2_2, ai_3_1, ai_4_1, ai_6_3, ai_6_4, ai_6_5, ai_6_6, ai_6_7, ai_6_8, ai_8_5, ai_8_6, ai_8_17, ai_8_21, ai_8_23, ai_8_24, ai_8_27, ai_8_28, ai_8_38, ai_8_39, ai_8_40, e_nil, nol_n, nol_I, nol_R, rsum_0, rsum_I, rsum_R, ps_s, ps_n, true_and, and_true, Nat.reduceAdd, Nat.reduceLeDiff, vi, hx, hb, eb, nI_or, Classical.not_not]
        rw [nI_1]
        have z := ih (e + 1) (by omega)
        rw [u] at z
        exact z
theorem ok_seenTogether {l : Launch} {K : KK} {d : Nat} {μ : Mm} {P : Option AV → Mm → Prop} {op m : Nat} (hm : m < 2 ^ 15) (hC : CRep μ true op) (h : P (some (vI (nI (stgF op m 15)))) μ) : Ok l K d 12 [vR 0 0 0, vI (nI m)] μ P := by
  refine ok_go 4 (by decide +kernel) [some (vR 0 0 0), some (vI (nI m)), none, none] rfl (Nat.le_of_ble_eq_true rfl) ?_
  refine go_blk [(.iconst 0, 0, 0, 0), (.istore_n 2, 0, 0, 0), (.iconst 0, 0, 0, 0), (.istore_n 3, 0, 0, 0)] (by decide +kernel) ?_
  simp only [e_ic_0, e_is_2n, e_is_2I, e_is_2R, e_is_3n, e_is_3I, e_is_3R, e_nil, nol_n, nol_I, nol_R, rsum_0, rsum_I, rsum_R, ps_s, ps_n, true_and, and_true, Nat.reduceAdd, Nat.reduceLeDiff]
  exact lp_stg hm hC h 15 0 rfl
