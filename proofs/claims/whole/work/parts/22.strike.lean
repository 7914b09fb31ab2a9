theorem ok_strike {l : Launch} {K : KK} {d : Nat} {μ : Mm} {P : Option AV → Mm → Prop} {i : Nat} (hi : i < 6) {t : TS} {b op : Nat} (hT : TRep μ i t) (hI : TInv op t) (hb : b < t 0 1) (h : ∀ μ2, TRep μ2 i (stkT t b) → OffT i μ μ2 → P (some (vI (nI (stkN t b)))) μ2) : Ok l K d 71 [vR 6 i 0, vI (nI b), vR 9 (t 3 b) 0] μ P := by
  refine ok_go 3 (by decide +kernel) [some (vR 6 i 0), some (vI (nI b)), some (vR 9 (t 3 b) 0)] rfl (Nat.le_of_ble_eq_true rfl) ?_
  have hn := hI.1
  have hv : vp_in (nI b) 6 := vin (by omega) (by omega)
  have hx : ix (nI b) = b := nI_ix (by omega)
  obtain ⟨b3, b4, b5, b6, b7⟩ := hT.row hb
  obtain ⟨i3, i4, i5, i6, i7, i8, i9, i10⟩ := hI.2.1 b hb
  have hs1 := sd_tab (t 4 b) i4
  have hfk := hf_tab (t 3 b) i3 (t 6 b) i6
  have r6 : up μ 6 i 6 b (nI (t 6 b + 1)) 6 i 6 b = nI (t 6 b + 1) := up_self _ _ _ _ _ _
  have w7 : ∀ v, up (up μ 6 i 6 b (nI (t 6 b + 1))) 6 i 7 b v 6 i 7 b = v := fun v => up_self _ _ _ _ _ _
  by_cases h2 : t 3 b = 2
  · have eT : stkT t b = tu t 4 b (1 - t 4 b) := by simp [stkT, h2]
    have eN : stkN t b = 1 := by simp [stkN, h2]
    rw [eT, eN] at h
    have h22 : (t 3 b = 2) = True := eq_true h2
    refine go_blk [(.aload_n 2, 0, 0, 0), (.getstatic 115, 9, 2, 0), (.if_acmp .ne 19, 23, 0, 0)] (by decide +kernel) ?_
    simp only [e_al_2, e_st_2, e_acmp_ne, e_nil, nol_n, nol_I, nol_R, rsum_0, rsum_I, rsum_R, ps_s, ps_n, true_and, and_true, Nat.reduceAdd, Nat.reduceLeDiff, hi, hv, hx, b4, b6, i3, h22, hs1, hfk, nI_1, r6, w7, (show (2 < 5) = True by decide), true_implies, false_implies, not_true_eq_false, not_false_eq_true]
    refine go_blk [(.aload_n 0, 0, 0, 0), (.getfield 19, 6, 3, 0), (.iload_n 1, 0, 0, 0), (.iconst 1, 0, 0, 0), (.aload_n 0, 0, 0, 0), (.getfield 19, 6, 3, 0), (.iload_n 1, 0, 0, 0), (.iaload, 0, 0, 0), (.isub, 0, 0, 0), (.iastore, 0, 0, 0)] (by decide +kernel) ?_
    simp only [e_al_0, e_gf_6_3, e_il_1, e_ic_1, e_ia, e_isub, e_iast, rd_6_3, ai_0_4, ai_1_7, ai_2_1, ai_2_2, ai_3_1, ai_4_1, ai_6_3, ai_6_4, ai_6_5, ai_6_6, ai_6_7, ai_6_8, ai_8_5, ai_8_6, ai_8_17, ai_8_21, ai_8_23, ai_8_24, ai_8_27, ai_8_28, ai_8_38, ai_8_39, ai_8_40, e_nil, nol_n, nol_I, nol_R, rsum_0, rsum_I, rsum_R, ps_s, ps_n, true_and, and_true, Nat.reduceAdd, Nat.reduceLeDiff, hi, hv, hx, b4, b6, i3, h22, hs1, hfk, nI_1, r6, w7, (show (2 < 5) = True by decide), true_implies, false_implies, not_true_eq_false, not_false_eq_true]
    refine go_blk [(.iconst 1, 0, 0, 0), (.ireturn, 0, 0, 0)] (by decide +kernel) ?_
    simp only [e_ic_1, e_iret0, e_nil, nol_n, nol_I, nol_R, rsum_0, rsum_I, rsum_R, ps_s, ps_n, true_and, and_true, Nat.reduceAdd, Nat.reduceLeDiff, hi, hv, hx, b4, b6, i3, h22, hs1, hfk, nI_1, r6, w7, (show (2 < 5) = True by decide), true_implies, false_implies, not_true_eq_false, not_false_eq_true]
    exact h _ (hT.up (by omega) rfl) ((OffT.rf i μ).up _ _ _)
  · have h22 : (t 3 b = 2) = False := eq_false h2
    rw [h22, or_false] at hfk
    by_cases h3 : hf (t 3 b) ≤ t 6 b + 1
    · have eT : stkT t b = tu (tu t 6 b (t 6 b + 1)) 7 b 0 := by simp [stkT, h2, h3]
      have eN : stkN t b = 1 := by simp [stkN, h2, h3]
      rw [eT, eN] at h
      have h33 := eq_true h3
      refine go_blk [(.aload_n 2, 0, 0, 0), (.getstatic 115, 9, 2, 0), (.if_acmp .ne 19, 23, 0, 0)] (by decide +kernel) ?_
      simp only [e_al_2, e_st_2, e_acmp_ne, e_nil, nol_n, nol_I, nol_R, rsum_0, rsum_I, rsum_R, ps_s, ps_n, true_and, and_true, Nat.reduceAdd, Nat.reduceLeDiff, hi, hv, hx, b4, b6, i3, h22, hs1, hfk, nI_1, r6, w7, (show (2 < 5) = True by decide), true_implies, false_implies, not_true_eq_false, not_false_eq_true, h33, nar01.1]
      refine go_blk [(.aload_n 0, 0, 0, 0), (.getfield 25, 6, 5, 0), (.iload_n 1, 0, 0, 0), (.dup2, 0, 0, 0), (.iaload, 0, 0, 0), (.iconst 1, 0, 0, 0), (.iadd, 0, 0, 0), (.iastore, 0, 0, 0)] (by decide +kernel) ?_
      simp only [e_al_0, e_gf_6_5, e_il_1, e_dup2, e_ia, e_ic_1, e_iadd, e_iast, rd_6_5, ai_0_4, ai_1_7, ai_2_1, ai_2_2, ai_3_1, ai_4_1, ai_6_3, ai_6_4, ai_6_5, ai_6_6, ai_6_7, ai_6_8, ai_8_5, ai_8_6, ai_8_17, ai_8_21, ai_8_23, ai_8_24, ai_8_27, ai_8_28, ai_8_38, ai_8_39, ai_8_40, e_nil, nol_n, nol_I, nol_R, rsum_0, rsum_I, rsum_R, ps_s, ps_n, true_and, and_true, Nat.reduceAdd, Nat.reduceLeDiff, hi, hv, hx, b4, b6, i3, h22, hs1, hfk, nI_1, r6, w7, (show (2 < 5) = True by decide), true_implies, false_implies, not_true_eq_false, not_false_eq_true, h33, nar01.1]
      refine go_blk [(.aload_n 0, 0, 0, 0), (.getfield 28, 6, 6, 0), (.iload_n 1, 0, 0, 0), (.aload_n 0, 0, 0, 0), (.getfield 25, 6, 5, 0), (.iload_n 1, 0, 0, 0), (.iaload, 0, 0, 0), (.aload_n 2, 0, 0, 0), (.getfield 118, 9, 0, 0), (.if_icmp .ge 7, 55, 0, 0)] (by decide +kernel) ?_
      simp only [e_al_0, e_gf_6_6, e_il_1, e_gf_6_5, e_ia, e_al_2, e_gk_0, e_icmp_ge, rd_6_6, rd_6_5, ai_0_4, ai_1_7, ai_2_1, ai_2_2, ai_3_1, ai_4_1, ai_6_3, ai_6_4, ai_6_5, ai_6_6, ai_6_7, ai_6_8, ai_8_5, ai_8_6, ai_8_17, ai_8_21, ai_8_23, ai_8_24, ai_8_27, ai_8_28, ai_8_38, ai_8_39, ai_8_40, e_nil, nol_n, nol_I, nol_R, rsum_0, rsum_I, rsum_R, ps_s, ps_n, true_and, and_true, Nat.reduceAdd, Nat.reduceLeDiff, hi, hv, hx, b4, b6, i3, h22, hs1, hfk, nI_1, r6, w7, (show (2 < 5) = True by decide), true_implies, false_implies, not_true_eq_false, not_false_eq_true, h33, nar01.1]
      refine go_blk [(.iconst 0, 0, 0, 0), (.bastore, 1, 0, 0)] (by decide +kernel) ?_
      simp only [e_ic_0, e_zs, ai_0_4, ai_1_7, ai_2_1, ai_2_2, ai_3_1, ai_4_1, ai_6_3, ai_6_4, ai_6_5, ai_6_6, ai_6_7, ai_6_8, ai_8_5, ai_8_6, ai_8_17, ai_8_21, ai_8_23, ai_8_24, ai_8_27, ai_8_28, ai_8_38, ai_8_39, ai_8_40, e_nil, nol_n, nol_I, nol_R, rsum_0, rsum_I, rsum_R, ps_s, ps_n, true_and, and_true, Nat.reduceAdd, Nat.reduceLeDiff, hi, hv, hx, b4, b6, i3, h22, hs1, hfk, nI_1, r6, w7, (show (2 < 5) = True by decide), true_implies, false_implies, not_true_eq_false, not_false_eq_true, h33, nar01.1]
      refine go_blk [(.aload_n 0, 0, 0, 0), (.getfield 28, 6, 6, 0), (.iload_n 1, 0, 0, 0), (.baload, 1, 0, 0), (.ifCond .eq 7, 70, 0, 0)] (by decide +kernel) ?_
      simp only [e_al_0, e_gf_6_6, e_il_1, e_za, e_if_eq, rd_6_6, ai_0_4, ai_1_7, ai_2_1, ai_2_2, ai_3_1, ai_4_1, ai_6_3, ai_6_4, ai_6_5, ai_6_6, ai_6_7, ai_6_8, ai_8_5, ai_8_6, ai_8_17, ai_8_21, ai_8_23, ai_8_24, ai_8_27, ai_8_28, ai_8_38, ai_8_39, ai_8_40, e_nil, nol_n, nol_I, nol_R, rsum_0, rsum_I, rsum_R, ps_s, ps_n, true_and, and_true, Nat.reduceAdd, Nat.reduceLeDiff, hi, hv, hx, b4, b6, i3, h22, hs1, hfk, nI_1, r6, w7, (show (2 < 5) = True by decide), true_implies, false_implies, not_true_eq_false, not_false_eq_true, h33, nar01.1]
      refine ⟨fun c63 => ?_, fun c63 => ?_⟩
      · refine go_blk [(.iconst 1, 0, 0, 0), (.ireturn, 0, 0, 0)] (by decide +kernel) ?_
        simp only [e_ic_1, e_iret0, e_nil, nol_n, nol_I, nol_R, rsum_0, rsum_I, rsum_R, ps_s, ps_n, true_and, and_true, Nat.reduceAdd, Nat.reduceLeDiff, hi, hv, hx, b4, b6, i3, h22, hs1, hfk, nI_1, r6, w7, (show (2 < 5) = True by decide), true_implies, false_implies, not_true_eq_false, not_false_eq_true, h33, nar01.1]
        exact h _ ((hT.up (by omega) rfl).up (by omega) rfl) (((OffT.rf i μ).up _ _ _).up _ _ _)
      · exact absurd rfl c63
    · have eT : stkT t b = tu (tu t 6 b (t 6 b + 1)) 7 b 1 := by simp [stkT, h2, h3]
      have eN : stkN t b = 0 := by simp [stkN, h2, h3]
      rw [eT, eN] at h
      have h33 := eq_false h3
      refine go_blk [(.aload_n 2, 0, 0, 0), (.getstatic 115, 9, 2, 0), (.if_acmp .ne 19, 23, 0, 0)] (by decide +kernel) ?_
      simp only [e_al_2, e_st_2, e_acmp_ne, e_nil, nol_n, nol_I, nol_R, rsum_0, rsum_I, rsum_R, ps_s, ps_n, true_and, and_true, Nat.reduceAdd, Nat.reduceLeDiff, hi, hv, hx, b4, b6, i3, h22, hs1, hfk, nI_1, r6, w7, (show (2 < 5) = True by decide), true_implies, false_implies, not_true_eq_false, not_false_eq_true, h33, nar01.2]
      refine go_blk [(.aload_n 0, 0, 0, 0), (.getfield 25, 6, 5, 0), (.iload_n 1, 0, 0, 0), (.dup2, 0, 0, 0), (.iaload, 0, 0, 0), (.iconst 1, 0, 0, 0), (.iadd, 0, 0, 0), (.iastore, 0, 0, 0)] (by decide +kernel) ?_
      simp only [e_al_0, e_gf_6_5, e_il_1, e_dup2, e_ia, e_ic_1, e_iadd, e_iast, rd_6_5, ai_0_4, ai_1_7, ai_2_1, ai_2_2, ai_3_1, ai_4_1, ai_6_3, ai_6_4, ai_6_5, ai_6_6, ai_6_7, ai_6_8, ai_8_5, ai_8_6, ai_8_17, ai_8_21, ai_8_23, ai_8_24, ai_8_27, ai_8_28, ai_8_38, ai_8_39, ai_8_40, e_nil, nol_n, nol_I, nol_R, rsum_0, rsum_I, rsum_R, ps_s, ps_n, true_and, and_true, Nat.reduceAdd, Nat.reduceLeDiff, hi, hv, hx, b4, b6, i3, h22, hs1, hfk, nI_1, r6, w7, (show (2 < 5) = True by decide), true_implies, false_implies, not_true_eq_false, not_false_eq_true, h33, nar01.2]
      refine go_blk [(.aload_n 0, 0, 0, 0), (.getfield 28, 6, 6, 0), (.iload_n 1, 0, 0, 0), (.aload_n 0, 0, 0, 0), (.getfield 25, 6, 5, 0), (.iload_n 1, 0, 0, 0), (.iaload, 0, 0, 0), (.aload_n 2, 0, 0, 0), (.getfield 118, 9, 0, 0), (.if_icmp .ge 7, 55, 0, 0)] (by decide +kernel) ?_
      simp only [e_al_0, e_gf_6_6, e_il_1, e_gf_6_5, e_ia, e_al_2, e_gk_0, e_icmp_ge, rd_6_6, rd_6_5, ai_0_4, ai_1_7, ai_2_1, ai_2_2, ai_3_1, ai_4_1, ai_6_3, ai_6_4, ai_6_5, ai_6_6, ai_6_7, ai_6_8, ai_8_5, ai_8_6, ai_8_17, ai_8_21, ai_8_23, ai_8_24, ai_8_27, ai_8_28, ai_8_38, ai_8_39, ai_8_40, e_nil, nol_n, nol_I, nol_R, rsum_0, rsum_I, rsum_R, ps_s, ps_n, true_and, and_true, Nat.reduceAdd, Nat.reduceLeDiff, hi, hv, hx, b4, b6, i3, h22, hs1, hfk, nI_1, r6, w7, (show (2 < 5) = True by decide), true_implies, false_implies, not_true_eq_false, not_false_eq_true, h33, nar01.2]
      refine go_blk [(.iconst 1, 0, 0, 0), (.goto 4, 56, 0, 0), (.bastore, 1, 0, 0)] (by decide +kernel) ?_
      simp only [e_ic_1, e_goto, e_zs, ai_0_4, ai_1_7, ai_2_1, ai_2_2, ai_3_1, ai_4_1, ai_6_3, ai_6_4, ai_6_5, ai_6_6, ai_6_7, ai_6_8, ai_8_5, ai_8_6, ai_8_17, ai_8_21, ai_8_23, ai_8_24, ai_8_27, ai_8_28, ai_8_38, ai_8_39, ai_8_40, e_nil, nol_n, nol_I, nol_R, rsum_0, rsum_I, rsum_R, ps_s, ps_n, true_and, and_true, Nat.reduceAdd, Nat.reduceLeDiff, hi, hv, hx, b4, b6, i3, h22, hs1, hfk, nI_1, r6, w7, (show (2 < 5) = True by decide), true_implies, false_implies, not_true_eq_false, not_false_eq_true, h33, nar01.2]
      refine go_blk [(.aload_n 0, 0, 0, 0), (.getfield 28, 6, 6, 0), (.iload_n 1, 0, 0, 0), (.baload, 1, 0, 0), (.ifCond .eq 7, 70, 0, 0)] (by decide +kernel) ?_
      simp only [e_al_0, e_gf_6_6, e_il_1, e_za, e_if_eq, rd_6_6, ai_0_4, ai_1_7, ai_2_1, ai_2_2, ai_3_1, ai_4_1, ai_6_3, ai_6_4, ai_6_5, ai_6_6, ai_6_7, ai_6_8, ai_8_5, ai_8_6, ai_8_17, ai_8_21, ai_8_23, ai_8_24, ai_8_27, ai_8_28, ai_8_38, ai_8_39, ai_8_40, e_nil, nol_n, nol_I, nol_R, rsum_0, rsum_I, rsum_R, ps_s, ps_n, true_and, and_true, Nat.reduceAdd, Nat.reduceLeDiff, hi, hv, hx, b4, b6, i3, h22, hs1, hfk, nI_1, r6, w7, (show (2 < 5) = True by decide), true_implies, false_implies, not_true_eq_false, not_false_eq_true, h33, nar01.2]
      refine ⟨fun c63 => ?_, fun c63 => ?_⟩
      · exact absurd c63 (by decide)
      · refine go_blk [(.iconst 0, 0, 0, 0), (.goto 4, 71, 0, 0), (.ireturn, 0, 0, 0)] (by decide +kernel) ?_
        simp only [e_ic_0, e_goto, e_iret0, e_nil, nol_n, nol_I, nol_R, rsum_0, rsum_I, rsum_R, ps_s, ps_n, true_and, and_true, Nat.reduceAdd, Nat.reduceLeDiff, hi, hv, hx, b4, b6, i3, h22, hs1, hfk, nI_1, r6, w7, (show (2 < 5) = True by decide), true_implies, false_implies, not_true_eq_false, not_false_eq_true, h33, nar01.2]
        exact h _ ((hT.up (by omega) rfl).up (by omega) rfl) (((OffT.rf i μ).up _ _ _).up _ _ _)
