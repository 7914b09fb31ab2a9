def RR (N : Nat) (μ : Mm) (S : SS) : Prop := Inv N S ∧ RC μ S ∧ RM μ S
theorem lcs (x : Int64) : lg_cmp x x = 0 := by
  unfold lg_cmp
  simp
theorem law_c0 {l : Launch} {K : KK} {d : Nat} {P : Option AV → Mm → Prop} {N i i1 i2 i3 i4 : Nat} {S : SS} {μ : Mm} (hd1 : 20 ≤ d) (hN : N < 100) (hV : Inv N S) (hC : RC μ S) (hM : RM μ S) (a1 : nI i + 1 = nI i1) (a2 : nI i + 2 = nI i2) (a3 : nI i + 3 = nI i3) (a4 : nI i + 4 = nI i4) (x1 : ix (nI i1) = i1) (x2 : ix (nI i2) = i2) (x3 : ix (nI i3) = i3) (v1 : vp_in (nI i1) (kN K)) (v2 : vp_in (nI i2) (kN K)) (v3 : vp_in (nI i3) (kN K)) (g : ∀ (S' : SS) (μ' : Mm), RR (N + 1) μ' S' → Go l K d 190 18 [some (vR 12 0 1), some (vR 7 0 0), some (vR 8 0 0), some (vI (nI i4))] [] μ' P) : Go l K d 190 144 [some (vR 12 0 1), some (vR 7 0 0), some (vR 8 0 0), some (vI (nI i))] [] μ P := by
  have hd2 : 1 ≤ d := by omega
  refine go_blk [(.aload_n 1, 0, 0, 0), (.aload_n 0, 0, 0, 0), (.iload_n 3, 0, 0, 0), (.iconst 1, 0, 0, 0), (.iadd, 0, 0, 0)] (by decide +kernel) ?_
  simp only [e_al_1, e_al_0, e_il_3, e_ic_1, e_iadd, e_nil, nol_n, nol_I, nol_R, rsum_0, rsum_I, rsum_R, ps_s, ps_n, true_and, and_true, Nat.reduceAdd, Nat.reduceLeDiff, hd2, a1, a2, a3, a4, x1, x2, x3, v1, v2, v3, lcs, rsum_J, true_implies, false_implies, not_true_eq_false, not_false_eq_true]
  refine go_blk [(.iaload, 12, 0, 0), (.invokevirtual 13, 74, 1, 7)] (by decide +kernel) ?_
  simp only [e_iaX, e_iv_7_1, e_nil, nol_n, nol_I, nol_R, rsum_0, rsum_I, rsum_R, ps_s, ps_n, true_and, and_true, Nat.reduceAdd, Nat.reduceLeDiff, hd2, a1, a2, a3, a4, x1, x2, x3, v1, v2, v3, lcs, rsum_J, true_implies, false_implies, not_true_eq_false, not_false_eq_true]
  refine xc_letter hV hC (by omega) (fun μ1 c1 o1 => ?_)
  refine go_blk [(.aload_n 2, 0, 0, 0), (.aload_n 0, 0, 0, 0), (.iload_n 3, 0, 0, 0), (.iconst 1, 0, 0, 0), (.iadd, 0, 0, 0)] (by decide +kernel) ?_
  simp only [e_al_2, e_al_0, e_il_3, e_ic_1, e_iadd, e_nil, nol_n, nol_I, nol_R, rsum_0, rsum_I, rsum_R, ps_s, ps_n, true_and, and_true, Nat.reduceAdd, Nat.reduceLeDiff, hd2, a1, a2, a3, a4, x1, x2, x3, v1, v2, v3, lcs, rsum_J, true_implies, false_implies, not_true_eq_false, not_false_eq_true]
  refine go_blk [(.iaload, 12, 0, 0), (.invokevirtual 17, 107, 1, 8)] (by decide +kernel) ?_
  simp only [e_iaX, e_iv_8_1, e_nil, nol_n, nol_I, nol_R, rsum_0, rsum_I, rsum_R, ps_s, ps_n, true_and, and_true, Nat.reduceAdd, Nat.reduceLeDiff, hd2, a1, a2, a3, a4, x1, x2, x3, v1, v2, v3, lcs, rsum_J, true_implies, false_implies, not_true_eq_false, not_false_eq_true]
  refine xm_letter hV (rm_off hM o1) (by omega) (fun μ2 m2 o2 => ?_)
  have hX : RR (N + 1) μ2 _ := ⟨inv_letter hV, rc_off c1 o2, m2⟩
  refine go_blk [(.if_icmp .eq 591, 753, 0, 0)] (by decide +kernel) ?_
  simp only [e_icmp_eq, e_nil, nol_n, nol_I, nol_R, rsum_0, rsum_I, rsum_R, ps_s, ps_n, true_and, and_true, Nat.reduceAdd, Nat.reduceLeDiff, hd2, a1, a2, a3, a4, x1, x2, x3, v1, v2, v3, lcs, rsum_J, true_implies, false_implies, not_true_eq_false, not_false_eq_true]
  refine go_blk [(.iinc 3 4, 0, 0, 0), (.goto (-738), 18, 0, 0)] (by decide +kernel) ?_
  simp only [e_inc_3_4n, e_inc_3_4I, e_inc_3_4R, e_goto, e_nil, nol_n, nol_I, nol_R, rsum_0, rsum_I, rsum_R, ps_s, ps_n, true_and, and_true, Nat.reduceAdd, Nat.reduceLeDiff, hd2, a1, a2, a3, a4, x1, x2, x3, v1, v2, v3, lcs, rsum_J, true_implies, false_implies, not_true_eq_false, not_false_eq_true]
  exact g _ _ hX
theorem law_c1 {l : Launch} {K : KK} {d : Nat} {P : Option AV → Mm → Prop} {N i i1 i2 i3 i4 : Nat} {S : SS} {μ : Mm} (hd1 : 20 ≤ d) (hN : N < 100) (hV : Inv N S) (hC : RC μ S) (hM : RM μ S) (a1 : nI i + 1 = nI i1) (a2 : nI i + 2 = nI i2) (a3 : nI i + 3 = nI i3) (a4 : nI i + 4 = nI i4) (x1 : ix (nI i1) = i1) (x2 : ix (nI i2) = i2) (x3 : ix (nI i3) = i3) (v1 : vp_in (nI i1) (kN K)) (v2 : vp_in (nI i2) (kN K)) (v3 : vp_in (nI i3) (kN K)) (g : ∀ (S' : SS) (μ' : Mm), RR (N + 1) μ' S' → Go l K d 190 18 [some (vR 12 0 1), some (vR 7 0 0), some (vR 8 0 0), some (vI (nI i4))] [] μ' P) : Go l K d 190 167 [some (vR 12 0 1), some (vR 7 0 0), some (vR 8 0 0), some (vI (nI i))] [] μ P := by
  have hd2 : 1 ≤ d := by omega
  refine go_blk [(.aload_n 1, 0, 0, 0), (.invokevirtual 18, 75, 0, 7)] (by decide +kernel) ?_
  simp only [e_al_1, e_iv_7_0, e_nil, nol_n, nol_I, nol_R, rsum_0, rsum_I, rsum_R, ps_s, ps_n, true_and, and_true, Nat.reduceAdd, Nat.reduceLeDiff, hd2, a1, a2, a3, a4, x1, x2, x3, v1, v2, v3, lcs, rsum_J, true_implies, false_implies, not_true_eq_false, not_false_eq_true]
  refine xc_blank hV hC (by omega) (fun μ1 c1 o1 => ?_)
  refine go_blk [(.aload_n 2, 0, 0, 0), (.invokevirtual 22, 108, 0, 8)] (by decide +kernel) ?_
  simp only [e_al_2, e_iv_8_0, e_nil, nol_n, nol_I, nol_R, rsum_0, rsum_I, rsum_R, ps_s, ps_n, true_and, and_true, Nat.reduceAdd, Nat.reduceLeDiff, hd2, a1, a2, a3, a4, x1, x2, x3, v1, v2, v3, lcs, rsum_J, true_implies, false_implies, not_true_eq_false, not_false_eq_true]
  refine xm_blank hV (rm_off hM o1) (by omega) (fun μ2 m2 o2 => ?_)
  have hX : RR (N + 1) μ2 _ := ⟨inv_blank hV, rc_off c1 o2, m2⟩
  refine go_blk [(.if_icmp .eq 578, 753, 0, 0)] (by decide +kernel) ?_
  simp only [e_icmp_eq, e_nil, nol_n, nol_I, nol_R, rsum_0, rsum_I, rsum_R, ps_s, ps_n, true_and, and_true, Nat.reduceAdd, Nat.reduceLeDiff, hd2, a1, a2, a3, a4, x1, x2, x3, v1, v2, v3, lcs, rsum_J, true_implies, false_implies, not_true_eq_false, not_false_eq_true]
  refine go_blk [(.iinc 3 4, 0, 0, 0), (.goto (-738), 18, 0, 0)] (by decide +kernel) ?_
  simp only [e_inc_3_4n, e_inc_3_4I, e_inc_3_4R, e_goto, e_nil, nol_n, nol_I, nol_R, rsum_0, rsum_I, rsum_R, ps_s, ps_n, true_and, and_true, Nat.reduceAdd, Nat.reduceLeDiff, hd2, a1, a2, a3, a4, x1, x2, x3, v1, v2, v3, lcs, rsum_J, true_implies, false_implies, not_true_eq_false, not_false_eq_true]
  exact g _ _ hX
theorem law_c2 {l : Launch} {K : KK} {d : Nat} {P : Option AV → Mm → Prop} {N i i1 i2 i3 i4 : Nat} {S : SS} {μ : Mm} (hd1 : 20 ≤ d) (hN : N < 100) (hV : Inv N S) (hC : RC μ S) (hM : RM μ S) (a1 : nI i + 1 = nI i1) (a2 : nI i + 2 = nI i2) (a3 : nI i + 3 = nI i3) (a4 : nI i + 4 = nI i4) (x1 : ix (nI i1) = i1) (x2 : ix (nI i2) = i2) (x3 : ix (nI i3) = i3) (v1 : vp_in (nI i1) (kN K)) (v2 : vp_in (nI i2) (kN K)) (v3 : vp_in (nI i3) (kN K)) (g : ∀ (S' : SS) (μ' : Mm), RR (N + 1) μ' S' → Go l K d 190 18 [some (vR 12 0 1), some (vR 7 0 0), some (vR 8 0 0), some (vI (nI i4))] [] μ' P) : Go l K d 190 180 [some (vR 12 0 1), some (vR 7 0 0), some (vR 8 0 0), some (vI (nI i))] [] μ P := by
  have hd2 : 1 ≤ d := by omega
  refine go_blk [(.aload_n 1, 0, 0, 0), (.aload_n 0, 0, 0, 0), (.iload_n 3, 0, 0, 0), (.iconst 1, 0, 0, 0), (.iadd, 0, 0, 0)] (by decide +kernel) ?_
  simp only [e_al_1, e_al_0, e_il_3, e_ic_1, e_iadd, e_nil, nol_n, nol_I, nol_R, rsum_0, rsum_I, rsum_R, ps_s, ps_n, true_and, and_true, Nat.reduceAdd, Nat.reduceLeDiff, hd2, a1, a2, a3, a4, x1, x2, x3, v1, v2, v3, lcs, rsum_J, true_implies, false_implies, not_true_eq_false, not_false_eq_true]
  refine go_blk [(.iaload, 12, 0, 0), (.invokevirtual 23, 76, 1, 7)] (by decide +kernel) ?_
  simp only [e_iaX, e_iv_7_1, e_nil, nol_n, nol_I, nol_R, rsum_0, rsum_I, rsum_R, ps_s, ps_n, true_and, and_true, Nat.reduceAdd, Nat.reduceLeDiff, hd2, a1, a2, a3, a4, x1, x2, x3, v1, v2, v3, lcs, rsum_J, true_implies, false_implies, not_true_eq_false, not_false_eq_true]
  refine xc_fault hV hC (by omega) (fun μ1 c1 o1 => ?_)
  refine go_blk [(.aload_n 2, 0, 0, 0), (.aload_n 0, 0, 0, 0), (.iload_n 3, 0, 0, 0), (.iconst 1, 0, 0, 0), (.iadd, 0, 0, 0)] (by decide +kernel) ?_
  simp only [e_al_2, e_al_0, e_il_3, e_ic_1, e_iadd, e_nil, nol_n, nol_I, nol_R, rsum_0, rsum_I, rsum_R, ps_s, ps_n, true_and, and_true, Nat.reduceAdd, Nat.reduceLeDiff, hd2, a1, a2, a3, a4, x1, x2, x3, v1, v2, v3, lcs, rsum_J, true_implies, false_implies, not_true_eq_false, not_false_eq_true]
  refine go_blk [(.iaload, 12, 0, 0), (.invokevirtual 26, 113, 1, 8)] (by decide +kernel) ?_
  simp only [e_iaX, e_iv_8_1, e_nil, nol_n, nol_I, nol_R, rsum_0, rsum_I, rsum_R, ps_s, ps_n, true_and, and_true, Nat.reduceAdd, Nat.reduceLeDiff, hd2, a1, a2, a3, a4, x1, x2, x3, v1, v2, v3, lcs, rsum_J, true_implies, false_implies, not_true_eq_false, not_false_eq_true]
  refine xm_fault hV (rm_off hM o1) (by omega) (fun μ2 m2 o2 => ?_)
  have hX : RR (N + 1) μ2 _ := ⟨inv_up hV, rc_off c1 o2, m2⟩
  refine go_blk [(.if_icmp .eq 555, 753, 0, 0)] (by decide +kernel) ?_
  simp only [e_icmp_eq, e_nil, nol_n, nol_I, nol_R, rsum_0, rsum_I, rsum_R, ps_s, ps_n, true_and, and_true, Nat.reduceAdd, Nat.reduceLeDiff, hd2, a1, a2, a3, a4, x1, x2, x3, v1, v2, v3, lcs, rsum_J, true_implies, false_implies, not_true_eq_false, not_false_eq_true]
  refine go_blk [(.iinc 3 4, 0, 0, 0), (.goto (-738), 18, 0, 0)] (by decide +kernel) ?_
  simp only [e_inc_3_4n, e_inc_3_4I, e_inc_3_4R, e_goto, e_nil, nol_n, nol_I, nol_R, rsum_0, rsum_I, rsum_R, ps_s, ps_n, true_and, and_true, Nat.reduceAdd, Nat.reduceLeDiff, hd2, a1, a2, a3, a4, x1, x2, x3, v1, v2, v3, lcs, rsum_J, true_implies, false_implies, not_true_eq_false, not_false_eq_true]
  exact g _ _ hX
theorem law_c3 {l : Launch} {K : KK} {d : Nat} {P : Option AV → Mm → Prop} {N i i1 i2 i3 i4 : Nat} {S : SS} {μ : Mm} (hd1 : 20 ≤ d) (hN : N < 100) (hV : Inv N S) (hC : RC μ S) (hM : RM μ S) (a1 : nI i + 1 = nI i1) (a2 : nI i + 2 = nI i2) (a3 : nI i + 3 = nI i3) (a4 : nI i + 4 = nI i4) (x1 : ix (nI i1) = i1) (x2 : ix (nI i2) = i2) (x3 : ix (nI i3) = i3) (v1 : vp_in (nI i1) (kN K)) (v2 : vp_in (nI i2) (kN K)) (v3 : vp_in (nI i3) (kN K)) (g : ∀ (S' : SS) (μ' : Mm), RR (N + 1) μ' S' → Go l K d 190 18 [some (vR 12 0 1), some (vR 7 0 0), some (vR 8 0 0), some (vI (nI i4))] [] μ' P) : Go l K d 190 203 [some (vR 12 0 1), some (vR 7 0 0), some (vR 8 0 0), some (vI (nI i))] [] μ P := by
  have hd2 : 1 ≤ d := by omega
  refine go_blk [(.aload_n 1, 0, 0, 0), (.invokevirtual 27, 77, 0, 7)] (by decide +kernel) ?_
  simp only [e_al_1, e_iv_7_0, e_nil, nol_n, nol_I, nol_R, rsum_0, rsum_I, rsum_R, ps_s, ps_n, true_and, and_true, Nat.reduceAdd, Nat.reduceLeDiff, hd2, a1, a2, a3, a4, x1, x2, x3, v1, v2, v3, lcs, rsum_J, true_implies, false_implies, not_true_eq_false, not_false_eq_true]
  refine xc_carpet hV hC (by omega) (fun μ1 c1 o1 => ?_)
  refine go_blk [(.aload_n 2, 0, 0, 0), (.invokevirtual 30, 114, 0, 8)] (by decide +kernel) ?_
  simp only [e_al_2, e_iv_8_0, e_nil, nol_n, nol_I, nol_R, rsum_0, rsum_I, rsum_R, ps_s, ps_n, true_and, and_true, Nat.reduceAdd, Nat.reduceLeDiff, hd2, a1, a2, a3, a4, x1, x2, x3, v1, v2, v3, lcs, rsum_J, true_implies, false_implies, not_true_eq_false, not_false_eq_true]
  refine xm_carpet hV (rm_off hM o1) (by omega) (fun μ2 m2 o2 => ?_)
  have hX : RR (N + 1) μ2 _ := ⟨inv_carpet hV, rc_off c1 o2, m2⟩
  refine go_blk [(.if_icmp .eq 542, 753, 0, 0)] (by decide +kernel) ?_
  simp only [e_icmp_eq, e_nil, nol_n, nol_I, nol_R, rsum_0, rsum_I, rsum_R, ps_s, ps_n, true_and, and_true, Nat.reduceAdd, Nat.reduceLeDiff, hd2, a1, a2, a3, a4, x1, x2, x3, v1, v2, v3, lcs, rsum_J, true_implies, false_implies, not_true_eq_false, not_false_eq_true]
  refine go_blk [(.iinc 3 4, 0, 0, 0), (.goto (-738), 18, 0, 0)] (by decide +kernel) ?_
  simp only [e_inc_3_4n, e_inc_3_4I, e_inc_3_4R, e_goto, e_nil, nol_n, nol_I, nol_R, rsum_0, rsum_I, rsum_R, ps_s, ps_n, true_and, and_true, Nat.reduceAdd, Nat.reduceLeDiff, hd2, a1, a2, a3, a4, x1, x2, x3, v1, v2, v3, lcs, rsum_J, true_implies, false_implies, not_true_eq_false, not_false_eq_true]
  exact g _ _ hX
theorem law_c4 {l : Launch} {K : KK} {d : Nat} {P : Option AV → Mm → Prop} {N i i1 i2 i3 i4 : Nat} {S : SS} {μ : Mm} (hd1 : 20 ≤ d) (hN : N < 100) (hV : Inv N S) (hC : RC μ S) (hM : RM μ S) (a1 : nI i + 1 = nI i1) (a2 : nI i + 2 = nI i2) (a3 : nI i + 3 = nI i3) (a4 : nI i + 4 = nI i4) (x1 : ix (nI i1) = i1) (x2 : ix (nI i2) = i2) (x3 : ix (nI i3) = i3) (v1 : vp_in (nI i1) (kN K)) (v2 : vp_in (nI i2) (kN K)) (v3 : vp_in (nI i3) (kN K)) (g : ∀ (S' : SS) (μ' : Mm), RR (N + 1) μ' S' → Go l K d 190 18 [some (vR 12 0 1), some (vR 7 0 0), some (vR 8 0 0), some (vI (nI i4))] [] μ' P) : Go l K d 190 216 [some (vR 12 0 1), some (vR 7 0 0), some (vR 8 0 0), some (vI (nI i))] [] μ P := by
  have hd2 : 1 ≤ d := by omega
  refine go_blk [(.aload_n 1, 0, 0, 0), (.invokevirtual 31, 78, 0, 7)] (by decide +kernel) ?_
  simp only [e_al_1, e_iv_7_0, e_nil, nol_n, nol_I, nol_R, rsum_0, rsum_I, rsum_R, ps_s, ps_n, true_and, and_true, Nat.reduceAdd, Nat.reduceLeDiff, hd2, a1, a2, a3, a4, x1, x2, x3, v1, v2, v3, lcs, rsum_J, true_implies, false_implies, not_true_eq_false, not_false_eq_true]
  refine xc_treaty hV hC (by omega) (fun μ1 c1 o1 => ?_)
  refine go_blk [(.aload_n 2, 0, 0, 0), (.invokevirtual 34, 115, 0, 8)] (by decide +kernel) ?_
  simp only [e_al_2, e_iv_8_0, e_nil, nol_n, nol_I, nol_R, rsum_0, rsum_I, rsum_R, ps_s, ps_n, true_and, and_true, Nat.reduceAdd, Nat.reduceLeDiff, hd2, a1, a2, a3, a4, x1, x2, x3, v1, v2, v3, lcs, rsum_J, true_implies, false_implies, not_true_eq_false, not_false_eq_true]
  refine xm_treaty hV (rm_off hM o1) (by omega) (fun μ2 m2 o2 => ?_)
  have hX : RR (N + 1) μ2 _ := ⟨inv_treaty hV, rc_off c1 o2, m2⟩
  refine go_blk [(.if_icmp .eq 529, 753, 0, 0)] (by decide +kernel) ?_
  simp only [e_icmp_eq, e_nil, nol_n, nol_I, nol_R, rsum_0, rsum_I, rsum_R, ps_s, ps_n, true_and, and_true, Nat.reduceAdd, Nat.reduceLeDiff, hd2, a1, a2, a3, a4, x1, x2, x3, v1, v2, v3, lcs, rsum_J, true_implies, false_implies, not_true_eq_false, not_false_eq_true]
  refine go_blk [(.iinc 3 4, 0, 0, 0), (.goto (-738), 18, 0, 0)] (by decide +kernel) ?_
  simp only [e_inc_3_4n, e_inc_3_4I, e_inc_3_4R, e_goto, e_nil, nol_n, nol_I, nol_R, rsum_0, rsum_I, rsum_R, ps_s, ps_n, true_and, and_true, Nat.reduceAdd, Nat.reduceLeDiff, hd2, a1, a2, a3, a4, x1, x2, x3, v1, v2, v3, lcs, rsum_J, true_implies, false_implies, not_true_eq_false, not_false_eq_true]
  exact g _ _ hX
theorem law_c5 {l : Launch} {K : KK} {d : Nat} {P : Option AV → Mm → Prop} {N i i1 i2 i3 i4 : Nat} {S : SS} {μ : Mm} (hd1 : 20 ≤ d) (hN : N < 100) (hV : Inv N S) (hC : RC μ S) (hM : RM μ S) (a1 : nI i + 1 = nI i1) (a2 : nI i + 2 = nI i2) (a3 : nI i + 3 = nI i3) (a4 : nI i + 4 = nI i4) (x1 : ix (nI i1) = i1) (x2 : ix (nI i2) = i2) (x3 : ix (nI i3) = i3) (v1 : vp_in (nI i1) (kN K)) (v2 : vp_in (nI i2) (kN K)) (v3 : vp_in (nI i3) (kN K)) (g : ∀ (S' : SS) (μ' : Mm), RR (N + 1) μ' S' → Go l K d 190 18 [some (vR 12 0 1), some (vR 7 0 0), some (vR 8 0 0), some (vI (nI i4))] [] μ' P) : Go l K d 190 229 [some (vR 12 0 1), some (vR 7 0 0), some (vR 8 0 0), some (vI (nI i))] [] μ P := by
  have hd2 : 1 ≤ d := by omega
  refine go_blk [(.aload_n 1, 0, 0, 0), (.aload_n 0, 0, 0, 0), (.iload_n 3, 0, 0, 0), (.iconst 1, 0, 0, 0), (.iadd, 0, 0, 0)] (by decide +kernel) ?_
  simp only [e_al_1, e_al_0, e_il_3, e_ic_1, e_iadd, e_nil, nol_n, nol_I, nol_R, rsum_0, rsum_I, rsum_R, ps_s, ps_n, true_and, and_true, Nat.reduceAdd, Nat.reduceLeDiff, hd2, a1, a2, a3, a4, x1, x2, x3, v1, v2, v3, lcs, rsum_J, true_implies, false_implies, not_true_eq_false, not_false_eq_true]
  refine go_blk [(.iaload, 12, 0, 0), (.aload_n 0, 0, 0, 0), (.iload_n 3, 0, 0, 0), (.iconst 2, 0, 0, 0), (.iadd, 0, 0, 0)] (by decide +kernel) ?_
  simp only [e_iaX, e_al_0, e_il_3, e_ic_2, e_iadd, e_nil, nol_n, nol_I, nol_R, rsum_0, rsum_I, rsum_R, ps_s, ps_n, true_and, and_true, Nat.reduceAdd, Nat.reduceLeDiff, hd2, a1, a2, a3, a4, x1, x2, x3, v1, v2, v3, lcs, rsum_J, true_implies, false_implies, not_true_eq_false, not_false_eq_true]
  refine go_blk [(.iaload, 12, 0, 0), (.invokevirtual 35, 79, 2, 7)] (by decide +kernel) ?_
  simp only [e_iaX, e_iv_7_2, e_nil, nol_n, nol_I, nol_R, rsum_0, rsum_I, rsum_R, ps_s, ps_n, true_and, and_true, Nat.reduceAdd, Nat.reduceLeDiff, hd2, a1, a2, a3, a4, x1, x2, x3, v1, v2, v3, lcs, rsum_J, true_implies, false_implies, not_true_eq_false, not_false_eq_true]
  refine xc_cell hV hC (by omega) (fun μ1 c1 o1 => ?_)
  refine go_blk [(.aload_n 2, 0, 0, 0), (.aload_n 0, 0, 0, 0), (.iload_n 3, 0, 0, 0), (.iconst 1, 0, 0, 0), (.iadd, 0, 0, 0)] (by decide +kernel) ?_
  simp only [e_al_2, e_al_0, e_il_3, e_ic_1, e_iadd, e_nil, nol_n, nol_I, nol_R, rsum_0, rsum_I, rsum_R, ps_s, ps_n, true_and, and_true, Nat.reduceAdd, Nat.reduceLeDiff, hd2, a1, a2, a3, a4, x1, x2, x3, v1, v2, v3, lcs, rsum_J, true_implies, false_implies, not_true_eq_false, not_false_eq_true]
  refine go_blk [(.iaload, 12, 0, 0), (.aload_n 0, 0, 0, 0), (.iload_n 3, 0, 0, 0), (.iconst 2, 0, 0, 0), (.iadd, 0, 0, 0)] (by decide +kernel) ?_
  simp only [e_iaX, e_al_0, e_il_3, e_ic_2, e_iadd, e_nil, nol_n, nol_I, nol_R, rsum_0, rsum_I, rsum_R, ps_s, ps_n, true_and, and_true, Nat.reduceAdd, Nat.reduceLeDiff, hd2, a1, a2, a3, a4, x1, x2, x3, v1, v2, v3, lcs, rsum_J, true_implies, false_implies, not_true_eq_false, not_false_eq_true]
  refine go_blk [(.iaload, 12, 0, 0), (.invokevirtual 39, 127, 2, 8)] (by decide +kernel) ?_
  simp only [e_iaX, e_iv_8_2, e_nil, nol_n, nol_I, nol_R, rsum_0, rsum_I, rsum_R, ps_s, ps_n, true_and, and_true, Nat.reduceAdd, Nat.reduceLeDiff, hd2, a1, a2, a3, a4, x1, x2, x3, v1, v2, v3, lcs, rsum_J, true_implies, false_implies, not_true_eq_false, not_false_eq_true]
  refine xm_cell hV (rm_off hM o1) (by omega) (fun μ2 m2 o2 => ?_)
  have hX : RR (N + 1) μ2 _ := ⟨inv_up hV, rc_off c1 o2, m2⟩
  refine go_blk [(.if_icmp .eq 496, 753, 0, 0)] (by decide +kernel) ?_
  simp only [e_icmp_eq, e_nil, nol_n, nol_I, nol_R, rsum_0, rsum_I, rsum_R, ps_s, ps_n, true_and, and_true, Nat.reduceAdd, Nat.reduceLeDiff, hd2, a1, a2, a3, a4, x1, x2, x3, v1, v2, v3, lcs, rsum_J, true_implies, false_implies, not_true_eq_false, not_false_eq_true]
  refine go_blk [(.iinc 3 4, 0, 0, 0), (.goto (-738), 18, 0, 0)] (by decide +kernel) ?_
  simp only [e_inc_3_4n, e_inc_3_4I, e_inc_3_4R, e_goto, e_nil, nol_n, nol_I, nol_R, rsum_0, rsum_I, rsum_R, ps_s, ps_n, true_and, and_true, Nat.reduceAdd, Nat.reduceLeDiff, hd2, a1, a2, a3, a4, x1, x2, x3, v1, v2, v3, lcs, rsum_J, true_implies, false_implies, not_true_eq_false, not_false_eq_true]
  exact g _ _ hX
theorem law_c6 {l : Launch} {K : KK} {d : Nat} {P : Option AV → Mm → Prop} {N i i1 i2 i3 i4 : Nat} {S : SS} {μ : Mm} (hd1 : 20 ≤ d) (hN : N < 100) (hV : Inv N S) (hC : RC μ S) (hM : RM μ S) (a1 : nI i + 1 = nI i1) (a2 : nI i + 2 = nI i2) (a3 : nI i + 3 = nI i3) (a4 : nI i + 4 = nI i4) (x1 : ix (nI i1) = i1) (x2 : ix (nI i2) = i2) (x3 : ix (nI i3) = i3) (v1 : vp_in (nI i1) (kN K)) (v2 : vp_in (nI i2) (kN K)) (v3 : vp_in (nI i3) (kN K)) (g : ∀ (S' : SS) (μ' : Mm), RR (N + 1) μ' S' → Go l K d 190 18 [some (vR 12 0 1), some (vR 7 0 0), some (vR 8 0 0), some (vI (nI i4))] [] μ' P) : Go l K d 190 262 [some (vR 12 0 1), some (vR 7 0 0), some (vR 8 0 0), some (vI (nI i))] [] μ P := by
  have hd2 : 1 ≤ d := by omega
  refine go_blk [(.aload_n 1, 0, 0, 0), (.aload_n 0, 0, 0, 0), (.iload_n 3, 0, 0, 0), (.iconst 1, 0, 0, 0), (.iadd, 0, 0, 0)] (by decide +kernel) ?_
  simp only [e_al_1, e_al_0, e_il_3, e_ic_1, e_iadd, e_nil, nol_n, nol_I, nol_R, rsum_0, rsum_I, rsum_R, ps_s, ps_n, true_and, and_true, Nat.reduceAdd, Nat.reduceLeDiff, hd2, a1, a2, a3, a4, x1, x2, x3, v1, v2, v3, lcs, rsum_J, true_implies, false_implies, not_true_eq_false, not_false_eq_true]
  refine go_blk [(.iaload, 12, 0, 0), (.aload_n 0, 0, 0, 0), (.iload_n 3, 0, 0, 0), (.iconst 2, 0, 0, 0), (.iadd, 0, 0, 0)] (by decide +kernel) ?_
  simp only [e_iaX, e_al_0, e_il_3, e_ic_2, e_iadd, e_nil, nol_n, nol_I, nol_R, rsum_0, rsum_I, rsum_R, ps_s, ps_n, true_and, and_true, Nat.reduceAdd, Nat.reduceLeDiff, hd2, a1, a2, a3, a4, x1, x2, x3, v1, v2, v3, lcs, rsum_J, true_implies, false_implies, not_true_eq_false, not_false_eq_true]
  refine go_blk [(.iaload, 12, 0, 0), (.aload_n 0, 0, 0, 0), (.iload_n 3, 0, 0, 0), (.iconst 3, 0, 0, 0), (.iadd, 0, 0, 0)] (by decide +kernel) ?_
  simp only [e_iaX, e_al_0, e_il_3, e_ic_3, e_iadd, e_nil, nol_n, nol_I, nol_R, rsum_0, rsum_I, rsum_R, ps_s, ps_n, true_and, and_true, Nat.reduceAdd, Nat.reduceLeDiff, hd2, a1, a2, a3, a4, x1, x2, x3, v1, v2, v3, lcs, rsum_J, true_implies, false_implies, not_true_eq_false, not_false_eq_true]
  refine go_blk [(.iaload, 12, 0, 0), (.invokevirtual 40, 80, 3, 7)] (by decide +kernel) ?_
  simp only [e_iaX, e_iv_7_3, e_nil, nol_n, nol_I, nol_R, rsum_0, rsum_I, rsum_R, ps_s, ps_n, true_and, and_true, Nat.reduceAdd, Nat.reduceLeDiff, hd2, a1, a2, a3, a4, x1, x2, x3, v1, v2, v3, lcs, rsum_J, true_implies, false_implies, not_true_eq_false, not_false_eq_true]
  refine xc_soldier hV hC (by omega) (fun μ1 c1 o1 => ?_)
  refine go_blk [(.aload_n 2, 0, 0, 0), (.aload_n 0, 0, 0, 0), (.iload_n 3, 0, 0, 0), (.iconst 1, 0, 0, 0), (.iadd, 0, 0, 0)] (by decide +kernel) ?_
  simp only [e_al_2, e_al_0, e_il_3, e_ic_1, e_iadd, e_nil, nol_n, nol_I, nol_R, rsum_0, rsum_I, rsum_R, ps_s, ps_n, true_and, and_true, Nat.reduceAdd, Nat.reduceLeDiff, hd2, a1, a2, a3, a4, x1, x2, x3, v1, v2, v3, lcs, rsum_J, true_implies, false_implies, not_true_eq_false, not_false_eq_true]
  refine go_blk [(.iaload, 12, 0, 0), (.aload_n 0, 0, 0, 0), (.iload_n 3, 0, 0, 0), (.iconst 2, 0, 0, 0), (.iadd, 0, 0, 0)] (by decide +kernel) ?_
  simp only [e_iaX, e_al_0, e_il_3, e_ic_2, e_iadd, e_nil, nol_n, nol_I, nol_R, rsum_0, rsum_I, rsum_R, ps_s, ps_n, true_and, and_true, Nat.reduceAdd, Nat.reduceLeDiff, hd2, a1, a2, a3, a4, x1, x2, x3, v1, v2, v3, lcs, rsum_J, true_implies, false_implies, not_true_eq_false, not_false_eq_true]
  refine go_blk [(.iaload, 12, 0, 0), (.aload_n 0, 0, 0, 0), (.iload_n 3, 0, 0, 0), (.iconst 3, 0, 0, 0), (.iadd, 0, 0, 0)] (by decide +kernel) ?_
  simp only [e_iaX, e_al_0, e_il_3, e_ic_3, e_iadd, e_nil, nol_n, nol_I, nol_R, rsum_0, rsum_I, rsum_R, ps_s, ps_n, true_and, and_true, Nat.reduceAdd, Nat.reduceLeDiff, hd2, a1, a2, a3, a4, x1, x2, x3, v1, v2, v3, lcs, rsum_J, true_implies, false_implies, not_true_eq_false, not_false_eq_true]
  refine go_blk [(.iaload, 12, 0, 0), (.invokevirtual 44, 129, 3, 8)] (by decide +kernel) ?_
  simp only [e_iaX, e_iv_8_3, e_nil, nol_n, nol_I, nol_R, rsum_0, rsum_I, rsum_R, ps_s, ps_n, true_and, and_true, Nat.reduceAdd, Nat.reduceLeDiff, hd2, a1, a2, a3, a4, x1, x2, x3, v1, v2, v3, lcs, rsum_J, true_implies, false_implies, not_true_eq_false, not_false_eq_true]
  refine xm_soldier hV (rm_off hM o1) (by omega) (fun μ2 m2 o2 => ?_)
  have hX : RR (N + 1) μ2 _ := ⟨inv_soldier hV, rc_off c1 o2, m2⟩
  refine go_blk [(.if_icmp .eq 453, 753, 0, 0)] (by decide +kernel) ?_
  simp only [e_icmp_eq, e_nil, nol_n, nol_I, nol_R, rsum_0, rsum_I, rsum_R, ps_s, ps_n, true_and, and_true, Nat.reduceAdd, Nat.reduceLeDiff, hd2, a1, a2, a3, a4, x1, x2, x3, v1, v2, v3, lcs, rsum_J, true_implies, false_implies, not_true_eq_false, not_false_eq_true]
  refine go_blk [(.iinc 3 4, 0, 0, 0), (.goto (-738), 18, 0, 0)] (by decide +kernel) ?_
  simp only [e_inc_3_4n, e_inc_3_4I, e_inc_3_4R, e_goto, e_nil, nol_n, nol_I, nol_R, rsum_0, rsum_I, rsum_R, ps_s, ps_n, true_and, and_true, Nat.reduceAdd, Nat.reduceLeDiff, hd2, a1, a2, a3, a4, x1, x2, x3, v1, v2, v3, lcs, rsum_J, true_implies, false_implies, not_true_eq_false, not_false_eq_true]
  exact g _ _ hX
theorem law_c7 {l : Launch} {K : KK} {d : Nat} {P : Option AV → Mm → Prop} {N i i1 i2 i3 i4 : Nat} {S : SS} {μ : Mm} (hd1 : 20 ≤ d) (hN : N < 100) (hV : Inv N S) (hC : RC μ S) (hM : RM μ S) (a1 : nI i + 1 = nI i1) (a2 : nI i + 2 = nI i2) (a3 : nI i + 3 = nI i3) (a4 : nI i + 4 = nI i4) (x1 : ix (nI i1) = i1) (x2 : ix (nI i2) = i2) (x3 : ix (nI i3) = i3) (v1 : vp_in (nI i1) (kN K)) (v2 : vp_in (nI i2) (kN K)) (v3 : vp_in (nI i3) (kN K)) (g : ∀ (S' : SS) (μ' : Mm), RR (N + 1) μ' S' → Go l K d 190 18 [some (vR 12 0 1), some (vR 7 0 0), some (vR 8 0 0), some (vI (nI i4))] [] μ' P) : Go l K d 190 305 [some (vR 12 0 1), some (vR 7 0 0), some (vR 8 0 0), some (vI (nI i))] [] μ P := by
  have hd2 : 1 ≤ d := by omega
  refine go_blk [(.aload_n 1, 0, 0, 0), (.aload_n 0, 0, 0, 0), (.iload_n 3, 0, 0, 0), (.iconst 1, 0, 0, 0), (.iadd, 0, 0, 0)] (by decide +kernel) ?_
  simp only [e_al_1, e_al_0, e_il_3, e_ic_1, e_iadd, e_nil, nol_n, nol_I, nol_R, rsum_0, rsum_I, rsum_R, ps_s, ps_n, true_and, and_true, Nat.reduceAdd, Nat.reduceLeDiff, hd2, a1, a2, a3, a4, x1, x2, x3, v1, v2, v3, lcs, rsum_J, true_implies, false_implies, not_true_eq_false, not_false_eq_true]
  refine go_blk [(.iaload, 12, 0, 0), (.aload_n 0, 0, 0, 0), (.iload_n 3, 0, 0, 0), (.iconst 2, 0, 0, 0), (.iadd, 0, 0, 0)] (by decide +kernel) ?_
  simp only [e_iaX, e_al_0, e_il_3, e_ic_2, e_iadd, e_nil, nol_n, nol_I, nol_R, rsum_0, rsum_I, rsum_R, ps_s, ps_n, true_and, and_true, Nat.reduceAdd, Nat.reduceLeDiff, hd2, a1, a2, a3, a4, x1, x2, x3, v1, v2, v3, lcs, rsum_J, true_implies, false_implies, not_true_eq_false, not_false_eq_true]
  refine go_blk [(.iaload, 12, 0, 0), (.invokevirtual 45, 81, 2, 7)] (by decide +kernel) ?_
  simp only [e_iaX, e_iv_7_2, e_nil, nol_n, nol_I, nol_R, rsum_0, rsum_I, rsum_R, ps_s, ps_n, true_and, and_true, Nat.reduceAdd, Nat.reduceLeDiff, hd2, a1, a2, a3, a4, x1, x2, x3, v1, v2, v3, lcs, rsum_J, true_implies, false_implies, not_true_eq_false, not_false_eq_true]
  refine xc_about hV hC (by omega) (fun μ1 c1 o1 => ?_)
  refine go_blk [(.aload_n 2, 0, 0, 0), (.aload_n 0, 0, 0, 0), (.iload_n 3, 0, 0, 0), (.iconst 1, 0, 0, 0), (.iadd, 0, 0, 0)] (by decide +kernel) ?_
  simp only [e_al_2, e_al_0, e_il_3, e_ic_1, e_iadd, e_nil, nol_n, nol_I, nol_R, rsum_0, rsum_I, rsum_R, ps_s, ps_n, true_and, and_true, Nat.reduceAdd, Nat.reduceLeDiff, hd2, a1, a2, a3, a4, x1, x2, x3, v1, v2, v3, lcs, rsum_J, true_implies, false_implies, not_true_eq_false, not_false_eq_true]
  refine go_blk [(.iaload, 12, 0, 0), (.aload_n 0, 0, 0, 0), (.iload_n 3, 0, 0, 0), (.iconst 2, 0, 0, 0), (.iadd, 0, 0, 0)] (by decide +kernel) ?_
  simp only [e_iaX, e_al_0, e_il_3, e_ic_2, e_iadd, e_nil, nol_n, nol_I, nol_R, rsum_0, rsum_I, rsum_R, ps_s, ps_n, true_and, and_true, Nat.reduceAdd, Nat.reduceLeDiff, hd2, a1, a2, a3, a4, x1, x2, x3, v1, v2, v3, lcs, rsum_J, true_implies, false_implies, not_true_eq_false, not_false_eq_true]
  refine go_blk [(.iaload, 12, 0, 0), (.invokevirtual 48, 135, 2, 8)] (by decide +kernel) ?_
  simp only [e_iaX, e_iv_8_2, e_nil, nol_n, nol_I, nol_R, rsum_0, rsum_I, rsum_R, ps_s, ps_n, true_and, and_true, Nat.reduceAdd, Nat.reduceLeDiff, hd2, a1, a2, a3, a4, x1, x2, x3, v1, v2, v3, lcs, rsum_J, true_implies, false_implies, not_true_eq_false, not_false_eq_true]
  refine xm_about hV (rm_off hM o1) (by omega) (fun μ2 m2 o2 => ?_)
  have hX : RR (N + 1) μ2 _ := ⟨inv_up hV, rc_off c1 o2, m2⟩
  refine go_blk [(.if_icmp .eq 420, 753, 0, 0)] (by decide +kernel) ?_
  simp only [e_icmp_eq, e_nil, nol_n, nol_I, nol_R, rsum_0, rsum_I, rsum_R, ps_s, ps_n, true_and, and_true, Nat.reduceAdd, Nat.reduceLeDiff, hd2, a1, a2, a3, a4, x1, x2, x3, v1, v2, v3, lcs, rsum_J, true_implies, false_implies, not_true_eq_false, not_false_eq_true]
  refine go_blk [(.iinc 3 4, 0, 0, 0), (.goto (-738), 18, 0, 0)] (by decide +kernel) ?_
  simp only [e_inc_3_4n, e_inc_3_4I, e_inc_3_4R, e_goto, e_nil, nol_n, nol_I, nol_R, rsum_0, rsum_I, rsum_R, ps_s, ps_n, true_and, and_true, Nat.reduceAdd, Nat.reduceLeDiff, hd2, a1, a2, a3, a4, x1, x2, x3, v1, v2, v3, lcs, rsum_J, true_implies, false_implies, not_true_eq_false, not_false_eq_true]
  exact g _ _ hX
theorem law_c8 {l : Launch} {K : KK} {d : Nat} {P : Option AV → Mm → Prop} {N i i1 i2 i3 i4 : Nat} {S : SS} {μ : Mm} (hd1 : 20 ≤ d) (hN : N < 100) (hV : Inv N S) (hC : RC μ S) (hM : RM μ S) (a1 : nI i + 1 = nI i1) (a2 : nI i + 2 = nI i2) (a3 : nI i + 3 = nI i3) (a4 : nI i + 4 = nI i4) (x1 : ix (nI i1) = i1) (x2 : ix (nI i2) = i2) (x3 : ix (nI i3) = i3) (v1 : vp_in (nI i1) (kN K)) (v2 : vp_in (nI i2) (kN K)) (v3 : vp_in (nI i3) (kN K)) (g : ∀ (S' : SS) (μ' : Mm), RR (N + 1) μ' S' → Go l K d 190 18 [some (vR 12 0 1), some (vR 7 0 0), some (vR 8 0 0), some (vI (nI i4))] [] μ' P) : Go l K d 190 338 [some (vR 12 0 1), some (vR 7 0 0), some (vR 8 0 0), some (vI (nI i))] [] μ P := by
  have hd2 : 1 ≤ d := by omega
  refine go_blk [(.aload_n 1, 0, 0, 0), (.aload_n 0, 0, 0, 0), (.iload_n 3, 0, 0, 0), (.iconst 1, 0, 0, 0), (.iadd, 0, 0, 0)] (by decide +kernel) ?_
  simp only [e_al_1, e_al_0, e_il_3, e_ic_1, e_iadd, e_nil, nol_n, nol_I, nol_R, rsum_0, rsum_I, rsum_R, ps_s, ps_n, true_and, and_true, Nat.reduceAdd, Nat.reduceLeDiff, hd2, a1, a2, a3, a4, x1, x2, x3, v1, v2, v3, lcs, rsum_J, true_implies, false_implies, not_true_eq_false, not_false_eq_true]
  refine go_blk [(.iaload, 12, 0, 0), (.aload_n 0, 0, 0, 0), (.iload_n 3, 0, 0, 0), (.iconst 2, 0, 0, 0), (.iadd, 0, 0, 0)] (by decide +kernel) ?_
  simp only [e_iaX, e_al_0, e_il_3, e_ic_2, e_iadd, e_nil, nol_n, nol_I, nol_R, rsum_0, rsum_I, rsum_R, ps_s, ps_n, true_and, and_true, Nat.reduceAdd, Nat.reduceLeDiff, hd2, a1, a2, a3, a4, x1, x2, x3, v1, v2, v3, lcs, rsum_J, true_implies, false_implies, not_true_eq_false, not_false_eq_true]
  refine go_blk [(.iaload, 12, 0, 0), (.invokevirtual 49, 82, 2, 7)] (by decide +kernel) ?_
  simp only [e_iaX, e_iv_7_2, e_nil, nol_n, nol_I, nol_R, rsum_0, rsum_I, rsum_R, ps_s, ps_n, true_and, and_true, Nat.reduceAdd, Nat.reduceLeDiff, hd2, a1, a2, a3, a4, x1, x2, x3, v1, v2, v3, lcs, rsum_J, true_implies, false_implies, not_true_eq_false, not_false_eq_true]
  refine xc_as hV hC (by omega) (fun μ1 c1 o1 => ?_)
  refine go_blk [(.aload_n 2, 0, 0, 0), (.aload_n 0, 0, 0, 0), (.iload_n 3, 0, 0, 0), (.iconst 1, 0, 0, 0), (.iadd, 0, 0, 0)] (by decide +kernel) ?_
  simp only [e_al_2, e_al_0, e_il_3, e_ic_1, e_iadd, e_nil, nol_n, nol_I, nol_R, rsum_0, rsum_I, rsum_R, ps_s, ps_n, true_and, and_true, Nat.reduceAdd, Nat.reduceLeDiff, hd2, a1, a2, a3, a4, x1, x2, x3, v1, v2, v3, lcs, rsum_J, true_implies, false_implies, not_true_eq_false, not_false_eq_true]
  refine go_blk [(.iaload, 12, 0, 0), (.aload_n 0, 0, 0, 0), (.iload_n 3, 0, 0, 0), (.iconst 2, 0, 0, 0), (.iadd, 0, 0, 0)] (by decide +kernel) ?_
  simp only [e_iaX, e_al_0, e_il_3, e_ic_2, e_iadd, e_nil, nol_n, nol_I, nol_R, rsum_0, rsum_I, rsum_R, ps_s, ps_n, true_and, and_true, Nat.reduceAdd, Nat.reduceLeDiff, hd2, a1, a2, a3, a4, x1, x2, x3, v1, v2, v3, lcs, rsum_J, true_implies, false_implies, not_true_eq_false, not_false_eq_true]
  refine go_blk [(.iaload, 12, 0, 0), (.invokevirtual 52, 136, 2, 8)] (by decide +kernel) ?_
  simp only [e_iaX, e_iv_8_2, e_nil, nol_n, nol_I, nol_R, rsum_0, rsum_I, rsum_R, ps_s, ps_n, true_and, and_true, Nat.reduceAdd, Nat.reduceLeDiff, hd2, a1, a2, a3, a4, x1, x2, x3, v1, v2, v3, lcs, rsum_J, true_implies, false_implies, not_true_eq_false, not_false_eq_true]
  refine xm_as hV (rm_off hM o1) (by omega) (fun μ2 m2 o2 => ?_)
  have hX : RR (N + 1) μ2 _ := ⟨inv_up hV, rc_off c1 o2, m2⟩
  refine go_blk [(.if_icmp .eq 387, 753, 0, 0)] (by decide +kernel) ?_
  simp only [e_icmp_eq, e_nil, nol_n, nol_I, nol_R, rsum_0, rsum_I, rsum_R, ps_s, ps_n, true_and, and_true, Nat.reduceAdd, Nat.reduceLeDiff, hd2, a1, a2, a3, a4, x1, x2, x3, v1, v2, v3, lcs, rsum_J, true_implies, false_implies, not_true_eq_false, not_false_eq_true]
  refine go_blk [(.iinc 3 4, 0, 0, 0), (.goto (-738), 18, 0, 0)] (by decide +kernel) ?_
  simp only [e_inc_3_4n, e_inc_3_4I, e_inc_3_4R, e_goto, e_nil, nol_n, nol_I, nol_R, rsum_0, rsum_I, rsum_R, ps_s, ps_n, true_and, and_true, Nat.reduceAdd, Nat.reduceLeDiff, hd2, a1, a2, a3, a4, x1, x2, x3, v1, v2, v3, lcs, rsum_J, true_implies, false_implies, not_true_eq_false, not_false_eq_true]
  exact g _ _ hX
theorem law_c9 {l : Launch} {K : KK} {d : Nat} {P : Option AV → Mm → Prop} {N i i1 i2 i3 i4 : Nat} {S : SS} {μ : Mm} (hd1 : 20 ≤ d) (hN : N < 100) (hV : Inv N S) (hC : RC μ S) (hM : RM μ S) (a1 : nI i + 1 = nI i1) (a2 : nI i + 2 = nI i2) (a3 : nI i + 3 = nI i3) (a4 : nI i + 4 = nI i4) (x1 : ix (nI i1) = i1) (x2 : ix (nI i2) = i2) (x3 : ix (nI i3) = i3) (v1 : vp_in (nI i1) (kN K)) (v2 : vp_in (nI i2) (kN K)) (v3 : vp_in (nI i3) (kN K)) (g : ∀ (S' : SS) (μ' : Mm), RR (N + 1) μ' S' → Go l K d 190 18 [some (vR 12 0 1), some (vR 7 0 0), some (vR 8 0 0), some (vI (nI i4))] [] μ' P) : Go l K d 190 371 [some (vR 12 0 1), some (vR 7 0 0), some (vR 8 0 0), some (vI (nI i))] [] μ P := by
  have hd2 : 1 ≤ d := by omega
  refine go_blk [(.aload_n 1, 0, 0, 0), (.aload_n 0, 0, 0, 0), (.iload_n 3, 0, 0, 0), (.iconst 1, 0, 0, 0), (.iadd, 0, 0, 0)] (by decide +kernel) ?_
  simp only [e_al_1, e_al_0, e_il_3, e_ic_1, e_iadd, e_nil, nol_n, nol_I, nol_R, rsum_0, rsum_I, rsum_R, ps_s, ps_n, true_and, and_true, Nat.reduceAdd, Nat.reduceLeDiff, hd2, a1, a2, a3, a4, x1, x2, x3, v1, v2, v3, lcs, rsum_J, true_implies, false_implies, not_true_eq_false, not_false_eq_true]
  refine go_blk [(.iaload, 12, 0, 0), (.aload_n 0, 0, 0, 0), (.iload_n 3, 0, 0, 0), (.iconst 2, 0, 0, 0), (.iadd, 0, 0, 0)] (by decide +kernel) ?_
  simp only [e_iaX, e_al_0, e_il_3, e_ic_2, e_iadd, e_nil, nol_n, nol_I, nol_R, rsum_0, rsum_I, rsum_R, ps_s, ps_n, true_and, and_true, Nat.reduceAdd, Nat.reduceLeDiff, hd2, a1, a2, a3, a4, x1, x2, x3, v1, v2, v3, lcs, rsum_J, true_implies, false_implies, not_true_eq_false, not_false_eq_true]
  refine go_blk [(.iaload, 12, 0, 0), (.invokevirtual 53, 83, 2, 7)] (by decide +kernel) ?_
  simp only [e_iaX, e_iv_7_2, e_nil, nol_n, nol_I, nol_R, rsum_0, rsum_I, rsum_R, ps_s, ps_n, true_and, and_true, Nat.reduceAdd, Nat.reduceLeDiff, hd2, a1, a2, a3, a4, x1, x2, x3, v1, v2, v3, lcs, rsum_J, true_implies, false_implies, not_true_eq_false, not_false_eq_true]
  refine xc_move hV hC (by omega) (fun μ1 c1 o1 => ?_)
  refine go_blk [(.aload_n 2, 0, 0, 0), (.aload_n 0, 0, 0, 0), (.iload_n 3, 0, 0, 0), (.iconst 1, 0, 0, 0), (.iadd, 0, 0, 0)] (by decide +kernel) ?_
  simp only [e_al_2, e_al_0, e_il_3, e_ic_1, e_iadd, e_nil, nol_n, nol_I, nol_R, rsum_0, rsum_I, rsum_R, ps_s, ps_n, true_and, and_true, Nat.reduceAdd, Nat.reduceLeDiff, hd2, a1, a2, a3, a4, x1, x2, x3, v1, v2, v3, lcs, rsum_J, true_implies, false_implies, not_true_eq_false, not_false_eq_true]
  refine go_blk [(.iaload, 12, 0, 0), (.aload_n 0, 0, 0, 0), (.iload_n 3, 0, 0, 0), (.iconst 2, 0, 0, 0), (.iadd, 0, 0, 0)] (by decide +kernel) ?_
  simp only [e_iaX, e_al_0, e_il_3, e_ic_2, e_iadd, e_nil, nol_n, nol_I, nol_R, rsum_0, rsum_I, rsum_R, ps_s, ps_n, true_and, and_true, Nat.reduceAdd, Nat.reduceLeDiff, hd2, a1, a2, a3, a4, x1, x2, x3, v1, v2, v3, lcs, rsum_J, true_implies, false_implies, not_true_eq_false, not_false_eq_true]
  refine go_blk [(.iaload, 12, 0, 0), (.invokevirtual 56, 137, 2, 8)] (by decide +kernel) ?_
  simp only [e_iaX, e_iv_8_2, e_nil, nol_n, nol_I, nol_R, rsum_0, rsum_I, rsum_R, ps_s, ps_n, true_and, and_true, Nat.reduceAdd, Nat.reduceLeDiff, hd2, a1, a2, a3, a4, x1, x2, x3, v1, v2, v3, lcs, rsum_J, true_implies, false_implies, not_true_eq_false, not_false_eq_true]
  refine xm_move hV (rm_off hM o1) (by omega) (fun μ2 m2 o2 => ?_)
  have hX : RR (N + 1) μ2 _ := ⟨inv_move hV, rc_off c1 o2, m2⟩
  refine go_blk [(.if_icmp .eq 354, 753, 0, 0)] (by decide +kernel) ?_
  simp only [e_icmp_eq, e_nil, nol_n, nol_I, nol_R, rsum_0, rsum_I, rsum_R, ps_s, ps_n, true_and, and_true, Nat.reduceAdd, Nat.reduceLeDiff, hd2, a1, a2, a3, a4, x1, x2, x3, v1, v2, v3, lcs, rsum_J, true_implies, false_implies, not_true_eq_false, not_false_eq_true]
  refine go_blk [(.iinc 3 4, 0, 0, 0), (.goto (-738), 18, 0, 0)] (by decide +kernel) ?_
  simp only [e_inc_3_4n, e_inc_3_4I, e_inc_3_4R, e_goto, e_nil, nol_n, nol_I, nol_R, rsum_0, rsum_I, rsum_R, ps_s, ps_n, true_and, and_true, Nat.reduceAdd, Nat.reduceLeDiff, hd2, a1, a2, a3, a4, x1, x2, x3, v1, v2, v3, lcs, rsum_J, true_implies, false_implies, not_true_eq_false, not_false_eq_true]
  exact g _ _ hX
theorem law_c10 {l : Launch} {K : KK} {d : Nat} {P : Option AV → Mm → Prop} {N i i1 i2 i3 i4 : Nat} {S : SS} {μ : Mm} (hd1 : 20 ≤ d) (hN : N < 100) (hV : Inv N S) (hC : RC μ S) (hM : RM μ S) (a1 : nI i + 1 = nI i1) (a2 : nI i + 2 = nI i2) (a3 : nI i + 3 = nI i3) (a4 : nI i + 4 = nI i4) (x1 : ix (nI i1) = i1) (x2 : ix (nI i2) = i2) (x3 : ix (nI i3) = i3) (v1 : vp_in (nI i1) (kN K)) (v2 : vp_in (nI i2) (kN K)) (v3 : vp_in (nI i3) (kN K)) (g : ∀ (S' : SS) (μ' : Mm), RR (N + 1) μ' S' → Go l K d 190 18 [some (vR 12 0 1), some (vR 7 0 0), some (vR 8 0 0), some (vI (nI i4))] [] μ' P) : Go l K d 190 404 [some (vR 12 0 1), some (vR 7 0 0), some (vR 8 0 0), some (vI (nI i))] [] μ P := by
  have hd2 : 1 ≤ d := by omega
  refine go_blk [(.aload_n 1, 0, 0, 0), (.aload_n 0, 0, 0, 0), (.iload_n 3, 0, 0, 0), (.iconst 1, 0, 0, 0), (.iadd, 0, 0, 0)] (by decide +kernel) ?_
  simp only [e_al_1, e_al_0, e_il_3, e_ic_1, e_iadd, e_nil, nol_n, nol_I, nol_R, rsum_0, rsum_I, rsum_R, ps_s, ps_n, true_and, and_true, Nat.reduceAdd, Nat.reduceLeDiff, hd2, a1, a2, a3, a4, x1, x2, x3, v1, v2, v3, lcs, rsum_J, true_implies, false_implies, not_true_eq_false, not_false_eq_true]
  refine go_blk [(.iaload, 12, 0, 0), (.aload_n 0, 0, 0, 0), (.iload_n 3, 0, 0, 0), (.iconst 2, 0, 0, 0), (.iadd, 0, 0, 0)] (by decide +kernel) ?_
  simp only [e_iaX, e_al_0, e_il_3, e_ic_2, e_iadd, e_nil, nol_n, nol_I, nol_R, rsum_0, rsum_I, rsum_R, ps_s, ps_n, true_and, and_true, Nat.reduceAdd, Nat.reduceLeDiff, hd2, a1, a2, a3, a4, x1, x2, x3, v1, v2, v3, lcs, rsum_J, true_implies, false_implies, not_true_eq_false, not_false_eq_true]
  refine go_blk [(.iaload, 12, 0, 0), (.invokevirtual 57, 84, 2, 7)] (by decide +kernel) ?_
  simp only [e_iaX, e_iv_7_2, e_nil, nol_n, nol_I, nol_R, rsum_0, rsum_I, rsum_R, ps_s, ps_n, true_and, and_true, Nat.reduceAdd, Nat.reduceLeDiff, hd2, a1, a2, a3, a4, x1, x2, x3, v1, v2, v3, lcs, rsum_J, true_implies, false_implies, not_true_eq_false, not_false_eq_true]
  refine xc_tenths hV hC (by omega) (fun μ1 c1 o1 => ?_)
  refine go_blk [(.aload_n 2, 0, 0, 0), (.aload_n 0, 0, 0, 0), (.iload_n 3, 0, 0, 0), (.iconst 1, 0, 0, 0), (.iadd, 0, 0, 0)] (by decide +kernel) ?_
  simp only [e_al_2, e_al_0, e_il_3, e_ic_1, e_iadd, e_nil, nol_n, nol_I, nol_R, rsum_0, rsum_I, rsum_R, ps_s, ps_n, true_and, and_true, Nat.reduceAdd, Nat.reduceLeDiff, hd2, a1, a2, a3, a4, x1, x2, x3, v1, v2, v3, lcs, rsum_J, true_implies, false_implies, not_true_eq_false, not_false_eq_true]
  refine go_blk [(.iaload, 12, 0, 0), (.aload_n 0, 0, 0, 0), (.iload_n 3, 0, 0, 0), (.iconst 2, 0, 0, 0), (.iadd, 0, 0, 0)] (by decide +kernel) ?_
  simp only [e_iaX, e_al_0, e_il_3, e_ic_2, e_iadd, e_nil, nol_n, nol_I, nol_R, rsum_0, rsum_I, rsum_R, ps_s, ps_n, true_and, and_true, Nat.reduceAdd, Nat.reduceLeDiff, hd2, a1, a2, a3, a4, x1, x2, x3, v1, v2, v3, lcs, rsum_J, true_implies, false_implies, not_true_eq_false, not_false_eq_true]
  refine go_blk [(.iaload, 12, 0, 0), (.invokevirtual 60, 138, 2, 8)] (by decide +kernel) ?_
  simp only [e_iaX, e_iv_8_2, e_nil, nol_n, nol_I, nol_R, rsum_0, rsum_I, rsum_R, ps_s, ps_n, true_and, and_true, Nat.reduceAdd, Nat.reduceLeDiff, hd2, a1, a2, a3, a4, x1, x2, x3, v1, v2, v3, lcs, rsum_J, true_implies, false_implies, not_true_eq_false, not_false_eq_true]
  refine xm_tenths hV (rm_off hM o1) (by omega) (fun μ2 m2 o2 => ?_)
  have hX : RR (N + 1) μ2 _ := ⟨inv_up hV, rc_off c1 o2, m2⟩
  refine go_blk [(.if_icmp .eq 321, 753, 0, 0)] (by decide +kernel) ?_
  simp only [e_icmp_eq, e_nil, nol_n, nol_I, nol_R, rsum_0, rsum_I, rsum_R, ps_s, ps_n, true_and, and_true, Nat.reduceAdd, Nat.reduceLeDiff, hd2, a1, a2, a3, a4, x1, x2, x3, v1, v2, v3, lcs, rsum_J, true_implies, false_implies, not_true_eq_false, not_false_eq_true]
  refine go_blk [(.iinc 3 4, 0, 0, 0), (.goto (-738), 18, 0, 0)] (by decide +kernel) ?_
  simp only [e_inc_3_4n, e_inc_3_4I, e_inc_3_4R, e_goto, e_nil, nol_n, nol_I, nol_R, rsum_0, rsum_I, rsum_R, ps_s, ps_n, true_and, and_true, Nat.reduceAdd, Nat.reduceLeDiff, hd2, a1, a2, a3, a4, x1, x2, x3, v1, v2, v3, lcs, rsum_J, true_implies, false_implies, not_true_eq_false, not_false_eq_true]
  exact g _ _ hX
theorem law_c11 {l : Launch} {K : KK} {d : Nat} {P : Option AV → Mm → Prop} {N i i1 i2 i3 i4 : Nat} {S : SS} {μ : Mm} (hd1 : 20 ≤ d) (hN : N < 100) (hV : Inv N S) (hC : RC μ S) (hM : RM μ S) (a1 : nI i + 1 = nI i1) (a2 : nI i + 2 = nI i2) (a3 : nI i + 3 = nI i3) (a4 : nI i + 4 = nI i4) (x1 : ix (nI i1) = i1) (x2 : ix (nI i2) = i2) (x3 : ix (nI i3) = i3) (v1 : vp_in (nI i1) (kN K)) (v2 : vp_in (nI i2) (kN K)) (v3 : vp_in (nI i3) (kN K)) (g : ∀ (S' : SS) (μ' : Mm), RR (N + 1) μ' S' → Go l K d 190 18 [some (vR 12 0 1), some (vR 7 0 0), some (vR 8 0 0), some (vI (nI i4))] [] μ' P) : Go l K d 190 437 [some (vR 12 0 1), some (vR 7 0 0), some (vR 8 0 0), some (vI (nI i))] [] μ P := by
  have hd2 : 1 ≤ d := by omega
  refine go_blk [(.aload_n 1, 0, 0, 0), (.aload_n 0, 0, 0, 0), (.iload_n 3, 0, 0, 0), (.iconst 1, 0, 0, 0), (.iadd, 0, 0, 0)] (by decide +kernel) ?_
  simp only [e_al_1, e_al_0, e_il_3, e_ic_1, e_iadd, e_nil, nol_n, nol_I, nol_R, rsum_0, rsum_I, rsum_R, ps_s, ps_n, true_and, and_true, Nat.reduceAdd, Nat.reduceLeDiff, hd2, a1, a2, a3, a4, x1, x2, x3, v1, v2, v3, lcs, rsum_J, true_implies, false_implies, not_true_eq_false, not_false_eq_true]
  refine go_blk [(.iaload, 12, 0, 0), (.aload_n 0, 0, 0, 0), (.iload_n 3, 0, 0, 0), (.iconst 2, 0, 0, 0), (.iadd, 0, 0, 0)] (by decide +kernel) ?_
  simp only [e_iaX, e_al_0, e_il_3, e_ic_2, e_iadd, e_nil, nol_n, nol_I, nol_R, rsum_0, rsum_I, rsum_R, ps_s, ps_n, true_and, and_true, Nat.reduceAdd, Nat.reduceLeDiff, hd2, a1, a2, a3, a4, x1, x2, x3, v1, v2, v3, lcs, rsum_J, true_implies, false_implies, not_true_eq_false, not_false_eq_true]
  refine go_blk [(.iaload, 12, 0, 0), (.aload_n 0, 0, 0, 0), (.iload_n 3, 0, 0, 0), (.iconst 3, 0, 0, 0), (.iadd, 0, 0, 0)] (by decide +kernel) ?_
  simp only [e_iaX, e_al_0, e_il_3, e_ic_3, e_iadd, e_nil, nol_n, nol_I, nol_R, rsum_0, rsum_I, rsum_R, ps_s, ps_n, true_and, and_true, Nat.reduceAdd, Nat.reduceLeDiff, hd2, a1, a2, a3, a4, x1, x2, x3, v1, v2, v3, lcs, rsum_J, true_implies, false_implies, not_true_eq_false, not_false_eq_true]
  refine go_blk [(.iaload, 12, 0, 0), (.ifCond .eq 7, 460, 0, 0)] (by decide +kernel) ?_
  simp only [e_iaX, e_if_eq, e_nil, nol_n, nol_I, nol_R, rsum_0, rsum_I, rsum_R, ps_s, ps_n, true_and, and_true, Nat.reduceAdd, Nat.reduceLeDiff, hd2, a1, a2, a3, a4, x1, x2, x3, v1, v2, v3, lcs, rsum_J, true_implies, false_implies, not_true_eq_false, not_false_eq_true]
  refine ⟨fun c453 => ?_, fun c453 => ?_⟩
  · refine go_blk [(.iconst 0, 0, 0, 0), (.invokevirtual 61, 85, 3, 7)] (by decide +kernel) ?_
    simp only [e_ic_0, e_iv_7_3, e_nil, nol_n, nol_I, nol_R, rsum_0, rsum_I, rsum_R, ps_s, ps_n, true_and, and_true, Nat.reduceAdd, Nat.reduceLeDiff, hd2, a1, a2, a3, a4, x1, x2, x3, v1, v2, v3, lcs, rsum_J, true_implies, false_implies, not_true_eq_false, not_false_eq_true]
    refine xc_shoot (hit := false) hV hC (by omega) (fun μ1 c1 o1 => ?_)
    refine go_blk [(.aload_n 2, 0, 0, 0), (.aload_n 0, 0, 0, 0), (.iload_n 3, 0, 0, 0), (.iconst 1, 0, 0, 0), (.iadd, 0, 0, 0)] (by decide +kernel) ?_
    simp only [e_al_2, e_al_0, e_il_3, e_ic_1, e_iadd, e_nil, nol_n, nol_I, nol_R, rsum_0, rsum_I, rsum_R, ps_s, ps_n, true_and, and_true, Nat.reduceAdd, Nat.reduceLeDiff, hd2, a1, a2, a3, a4, x1, x2, x3, v1, v2, v3, lcs, rsum_J, true_implies, false_implies, not_true_eq_false, not_false_eq_true]
    refine go_blk [(.iaload, 12, 0, 0), (.aload_n 0, 0, 0, 0), (.iload_n 3, 0, 0, 0), (.iconst 2, 0, 0, 0), (.iadd, 0, 0, 0)] (by decide +kernel) ?_
    simp only [e_iaX, e_al_0, e_il_3, e_ic_2, e_iadd, e_nil, nol_n, nol_I, nol_R, rsum_0, rsum_I, rsum_R, ps_s, ps_n, true_and, and_true, Nat.reduceAdd, Nat.reduceLeDiff, hd2, a1, a2, a3, a4, x1, x2, x3, v1, v2, v3, lcs, rsum_J, true_implies, false_implies, not_true_eq_false, not_false_eq_true]
    refine go_blk [(.iaload, 12, 0, 0), (.aload_n 0, 0, 0, 0), (.iload_n 3, 0, 0, 0), (.iconst 3, 0, 0, 0), (.iadd, 0, 0, 0)] (by decide +kernel) ?_
    simp only [e_iaX, e_al_0, e_il_3, e_ic_3, e_iadd, e_nil, nol_n, nol_I, nol_R, rsum_0, rsum_I, rsum_R, ps_s, ps_n, true_and, and_true, Nat.reduceAdd, Nat.reduceLeDiff, hd2, a1, a2, a3, a4, x1, x2, x3, v1, v2, v3, lcs, rsum_J, true_implies, false_implies, not_true_eq_false, not_false_eq_true]
    refine go_blk [(.iaload, 12, 0, 0), (.ifCond .eq 7, 487, 0, 0)] (by decide +kernel) ?_
    simp only [e_iaX, e_if_eq, e_nil, nol_n, nol_I, nol_R, rsum_0, rsum_I, rsum_R, ps_s, ps_n, true_and, and_true, Nat.reduceAdd, Nat.reduceLeDiff, hd2, a1, a2, a3, a4, x1, x2, x3, v1, v2, v3, lcs, rsum_J, true_implies, false_implies, not_true_eq_false, not_false_eq_true]
    refine ⟨fun c480 => ?_, fun c480 => ?_⟩
    · refine go_blk [(.iconst 0, 0, 0, 0), (.invokevirtual 65, 144, 3, 8)] (by decide +kernel) ?_
      simp only [e_ic_0, e_iv_8_3, e_nil, nol_n, nol_I, nol_R, rsum_0, rsum_I, rsum_R, ps_s, ps_n, true_and, and_true, Nat.reduceAdd, Nat.reduceLeDiff, hd2, a1, a2, a3, a4, x1, x2, x3, v1, v2, v3, lcs, rsum_J, true_implies, false_implies, not_true_eq_false, not_false_eq_true]
      refine xm_shoot (hit := false) hV (rm_off hM o1) (by omega) (fun μ2 m2 o2 => ?_)
      have hX : RR (N + 1) μ2 _ := ⟨inv_shoot hV, rc_off c1 o2, m2⟩
      refine go_blk [(.if_icmp .eq 262, 753, 0, 0)] (by decide +kernel) ?_
      simp only [e_icmp_eq, e_nil, nol_n, nol_I, nol_R, rsum_0, rsum_I, rsum_R, ps_s, ps_n, true_and, and_true, Nat.reduceAdd, Nat.reduceLeDiff, hd2, a1, a2, a3, a4, x1, x2, x3, v1, v2, v3, lcs, rsum_J, true_implies, false_implies, not_true_eq_false, not_false_eq_true]
      refine go_blk [(.iinc 3 4, 0, 0, 0), (.goto (-738), 18, 0, 0)] (by decide +kernel) ?_
      simp only [e_inc_3_4n, e_inc_3_4I, e_inc_3_4R, e_goto, e_nil, nol_n, nol_I, nol_R, rsum_0, rsum_I, rsum_R, ps_s, ps_n, true_and, and_true, Nat.reduceAdd, Nat.reduceLeDiff, hd2, a1, a2, a3, a4, x1, x2, x3, v1, v2, v3, lcs, rsum_J, true_implies, false_implies, not_true_eq_false, not_false_eq_true]
      exact g _ _ hX
    · exact absurd c453 c480
  · refine go_blk [(.iconst 1, 0, 0, 0), (.goto 4, 461, 0, 0), (.invokevirtual 61, 85, 3, 7)] (by decide +kernel) ?_
    simp only [e_ic_1, e_goto, e_iv_7_3, e_nil, nol_n, nol_I, nol_R, rsum_0, rsum_I, rsum_R, ps_s, ps_n, true_and, and_true, Nat.reduceAdd, Nat.reduceLeDiff, hd2, a1, a2, a3, a4, x1, x2, x3, v1, v2, v3, lcs, rsum_J, true_implies, false_implies, not_true_eq_false, not_false_eq_true]
    refine xc_shoot (hit := true) hV hC (by omega) (fun μ1 c1 o1 => ?_)
    refine go_blk [(.aload_n 2, 0, 0, 0), (.aload_n 0, 0, 0, 0), (.iload_n 3, 0, 0, 0), (.iconst 1, 0, 0, 0), (.iadd, 0, 0, 0)] (by decide +kernel) ?_
    simp only [e_al_2, e_al_0, e_il_3, e_ic_1, e_iadd, e_nil, nol_n, nol_I, nol_R, rsum_0, rsum_I, rsum_R, ps_s, ps_n, true_and, and_true, Nat.reduceAdd, Nat.reduceLeDiff, hd2, a1, a2, a3, a4, x1, x2, x3, v1, v2, v3, lcs, rsum_J, true_implies, false_implies, not_true_eq_false, not_false_eq_true]
    refine go_blk [(.iaload, 12, 0, 0), (.aload_n 0, 0, 0, 0), (.iload_n 3, 0, 0, 0), (.iconst 2, 0, 0, 0), (.iadd, 0, 0, 0)] (by decide +kernel) ?_
    simp only [e_iaX, e_al_0, e_il_3, e_ic_2, e_iadd, e_nil, nol_n, nol_I, nol_R, rsum_0, rsum_I, rsum_R, ps_s, ps_n, true_and, and_true, Nat.reduceAdd, Nat.reduceLeDiff, hd2, a1, a2, a3, a4, x1, x2, x3, v1, v2, v3, lcs, rsum_J, true_implies, false_implies, not_true_eq_false, not_false_eq_true]
    refine go_blk [(.iaload, 12, 0, 0), (.aload_n 0, 0, 0, 0), (.iload_n 3, 0, 0, 0), (.iconst 3, 0, 0, 0), (.iadd, 0, 0, 0)] (by decide +kernel) ?_
    simp only [e_iaX, e_al_0, e_il_3, e_ic_3, e_iadd, e_nil, nol_n, nol_I, nol_R, rsum_0, rsum_I, rsum_R, ps_s, ps_n, true_and, and_true, Nat.reduceAdd, Nat.reduceLeDiff, hd2, a1, a2, a3, a4, x1, x2, x3, v1, v2, v3, lcs, rsum_J, true_implies, false_implies, not_true_eq_false, not_false_eq_true]
    refine go_blk [(.iaload, 12, 0, 0), (.ifCond .eq 7, 487, 0, 0)] (by decide +kernel) ?_
    simp only [e_iaX, e_if_eq, e_nil, nol_n, nol_I, nol_R, rsum_0, rsum_I, rsum_R, ps_s, ps_n, true_and, and_true, Nat.reduceAdd, Nat.reduceLeDiff, hd2, a1, a2, a3, a4, x1, x2, x3, v1, v2, v3, lcs, rsum_J, true_implies, false_implies, not_true_eq_false, not_false_eq_true]
    refine ⟨fun c480 => ?_, fun c480 => ?_⟩
    · exact absurd c480 c453
    · refine go_blk [(.iconst 1, 0, 0, 0), (.goto 4, 488, 0, 0), (.invokevirtual 65, 144, 3, 8)] (by decide +kernel) ?_
      simp only [e_ic_1, e_goto, e_iv_8_3, e_nil, nol_n, nol_I, nol_R, rsum_0, rsum_I, rsum_R, ps_s, ps_n, true_and, and_true, Nat.reduceAdd, Nat.reduceLeDiff, hd2, a1, a2, a3, a4, x1, x2, x3, v1, v2, v3, lcs, rsum_J, true_implies, false_implies, not_true_eq_false, not_false_eq_true]
      refine xm_shoot (hit := true) hV (rm_off hM o1) (by omega) (fun μ2 m2 o2 => ?_)
      have hX : RR (N + 1) μ2 _ := ⟨inv_shoot hV, rc_off c1 o2, m2⟩
      refine go_blk [(.if_icmp .eq 262, 753, 0, 0)] (by decide +kernel) ?_
      simp only [e_icmp_eq, e_nil, nol_n, nol_I, nol_R, rsum_0, rsum_I, rsum_R, ps_s, ps_n, true_and, and_true, Nat.reduceAdd, Nat.reduceLeDiff, hd2, a1, a2, a3, a4, x1, x2, x3, v1, v2, v3, lcs, rsum_J, true_implies, false_implies, not_true_eq_false, not_false_eq_true]
      refine go_blk [(.iinc 3 4, 0, 0, 0), (.goto (-738), 18, 0, 0)] (by decide +kernel) ?_
      simp only [e_inc_3_4n, e_inc_3_4I, e_inc_3_4R, e_goto, e_nil, nol_n, nol_I, nol_R, rsum_0, rsum_I, rsum_R, ps_s, ps_n, true_and, and_true, Nat.reduceAdd, Nat.reduceLeDiff, hd2, a1, a2, a3, a4, x1, x2, x3, v1, v2, v3, lcs, rsum_J, true_implies, false_implies, not_true_eq_false, not_false_eq_true]
      exact g _ _ hX
theorem law_c12 {l : Launch} {K : KK} {d : Nat} {P : Option AV → Mm → Prop} {N i i1 i2 i3 i4 : Nat} {S : SS} {μ : Mm} (hd1 : 20 ≤ d) (hN : N < 100) (hV : Inv N S) (hC : RC μ S) (hM : RM μ S) (a1 : nI i + 1 = nI i1) (a2 : nI i + 2 = nI i2) (a3 : nI i + 3 = nI i3) (a4 : nI i + 4 = nI i4) (x1 : ix (nI i1) = i1) (x2 : ix (nI i2) = i2) (x3 : ix (nI i3) = i3) (v1 : vp_in (nI i1) (kN K)) (v2 : vp_in (nI i2) (kN K)) (v3 : vp_in (nI i3) (kN K)) (g : ∀ (S' : SS) (μ' : Mm), RR (N + 1) μ' S' → Go l K d 190 18 [some (vR 12 0 1), some (vR 7 0 0), some (vR 8 0 0), some (vI (nI i4))] [] μ' P) : Go l K d 190 496 [some (vR 12 0 1), some (vR 7 0 0), some (vR 8 0 0), some (vI (nI i))] [] μ P := by
  have hd2 : 1 ≤ d := by omega
  refine go_blk [(.aload_n 1, 0, 0, 0), (.invokevirtual 66, 86, 0, 7)] (by decide +kernel) ?_
  simp only [e_al_1, e_iv_7_0, e_nil, nol_n, nol_I, nol_R, rsum_0, rsum_I, rsum_R, ps_s, ps_n, true_and, and_true, Nat.reduceAdd, Nat.reduceLeDiff, hd2, a1, a2, a3, a4, x1, x2, x3, v1, v2, v3, lcs, rsum_J, true_implies, false_implies, not_true_eq_false, not_false_eq_true]
  refine xc_dinner hV hC (by omega) (fun μ1 c1 o1 => ?_)
  refine go_blk [(.aload_n 2, 0, 0, 0), (.invokevirtual 69, 145, 0, 8)] (by decide +kernel) ?_
  simp only [e_al_2, e_iv_8_0, e_nil, nol_n, nol_I, nol_R, rsum_0, rsum_I, rsum_R, ps_s, ps_n, true_and, and_true, Nat.reduceAdd, Nat.reduceLeDiff, hd2, a1, a2, a3, a4, x1, x2, x3, v1, v2, v3, lcs, rsum_J, true_implies, false_implies, not_true_eq_false, not_false_eq_true]
  refine xm_dinner hV (rm_off hM o1) (by omega) (fun μ2 m2 o2 => ?_)
  have hX : RR (N + 1) μ2 _ := ⟨inv_dinner hV, rc_off c1 o2, m2⟩
  refine go_blk [(.if_icmp .eq 249, 753, 0, 0)] (by decide +kernel) ?_
  simp only [e_icmp_eq, e_nil, nol_n, nol_I, nol_R, rsum_0, rsum_I, rsum_R, ps_s, ps_n, true_and, and_true, Nat.reduceAdd, Nat.reduceLeDiff, hd2, a1, a2, a3, a4, x1, x2, x3, v1, v2, v3, lcs, rsum_J, true_implies, false_implies, not_true_eq_false, not_false_eq_true]
  refine go_blk [(.iinc 3 4, 0, 0, 0), (.goto (-738), 18, 0, 0)] (by decide +kernel) ?_
  simp only [e_inc_3_4n, e_inc_3_4I, e_inc_3_4R, e_goto, e_nil, nol_n, nol_I, nol_R, rsum_0, rsum_I, rsum_R, ps_s, ps_n, true_and, and_true, Nat.reduceAdd, Nat.reduceLeDiff, hd2, a1, a2, a3, a4, x1, x2, x3, v1, v2, v3, lcs, rsum_J, true_implies, false_implies, not_true_eq_false, not_false_eq_true]
  exact g _ _ hX
theorem law_c13 {l : Launch} {K : KK} {d : Nat} {P : Option AV → Mm → Prop} {N i i1 i2 i3 i4 : Nat} {S : SS} {μ : Mm} (hd1 : 20 ≤ d) (hN : N < 100) (hV : Inv N S) (hC : RC μ S) (hM : RM μ S) (a1 : nI i + 1 = nI i1) (a2 : nI i + 2 = nI i2) (a3 : nI i + 3 = nI i3) (a4 : nI i + 4 = nI i4) (x1 : ix (nI i1) = i1) (x2 : ix (nI i2) = i2) (x3 : ix (nI i3) = i3) (v1 : vp_in (nI i1) (kN K)) (v2 : vp_in (nI i2) (kN K)) (v3 : vp_in (nI i3) (kN K)) (g : ∀ (S' : SS) (μ' : Mm), RR (N + 1) μ' S' → Go l K d 190 18 [some (vR 12 0 1), some (vR 7 0 0), some (vR 8 0 0), some (vI (nI i4))] [] μ' P) : Go l K d 190 509 [some (vR 12 0 1), some (vR 7 0 0), some (vR 8 0 0), some (vI (nI i))] [] μ P := by
  have hd2 : 1 ≤ d := by omega
  refine go_blk [(.aload_n 1, 0, 0, 0), (.aload_n 0, 0, 0, 0), (.iload_n 3, 0, 0, 0), (.iconst 1, 0, 0, 0), (.iadd, 0, 0, 0)] (by decide +kernel) ?_
  simp only [e_al_1, e_al_0, e_il_3, e_ic_1, e_iadd, e_nil, nol_n, nol_I, nol_R, rsum_0, rsum_I, rsum_R, ps_s, ps_n, true_and, and_true, Nat.reduceAdd, Nat.reduceLeDiff, hd2, a1, a2, a3, a4, x1, x2, x3, v1, v2, v3, lcs, rsum_J, true_implies, false_implies, not_true_eq_false, not_false_eq_true]
  refine go_blk [(.iaload, 12, 0, 0), (.invokevirtual 70, 87, 1, 7)] (by decide +kernel) ?_
  simp only [e_iaX, e_iv_7_1, e_nil, nol_n, nol_I, nol_R, rsum_0, rsum_I, rsum_R, ps_s, ps_n, true_and, and_true, Nat.reduceAdd, Nat.reduceLeDiff, hd2, a1, a2, a3, a4, x1, x2, x3, v1, v2, v3, lcs, rsum_J, true_implies, false_implies, not_true_eq_false, not_false_eq_true]
  refine xc_watch hV hC (by omega) (fun μ1 c1 o1 => ?_)
  refine go_blk [(.aload_n 2, 0, 0, 0), (.aload_n 0, 0, 0, 0), (.iload_n 3, 0, 0, 0), (.iconst 1, 0, 0, 0), (.iadd, 0, 0, 0)] (by decide +kernel) ?_
  simp only [e_al_2, e_al_0, e_il_3, e_ic_1, e_iadd, e_nil, nol_n, nol_I, nol_R, rsum_0, rsum_I, rsum_R, ps_s, ps_n, true_and, and_true, Nat.reduceAdd, Nat.reduceLeDiff, hd2, a1, a2, a3, a4, x1, x2, x3, v1, v2, v3, lcs, rsum_J, true_implies, false_implies, not_true_eq_false, not_false_eq_true]
  refine go_blk [(.iaload, 12, 0, 0), (.invokevirtual 73, 147, 1, 8)] (by decide +kernel) ?_
  simp only [e_iaX, e_iv_8_1, e_nil, nol_n, nol_I, nol_R, rsum_0, rsum_I, rsum_R, ps_s, ps_n, true_and, and_true, Nat.reduceAdd, Nat.reduceLeDiff, hd2, a1, a2, a3, a4, x1, x2, x3, v1, v2, v3, lcs, rsum_J, true_implies, false_implies, not_true_eq_false, not_false_eq_true]
  refine xm_watch hV (rm_off hM o1) (by omega) (fun μ2 m2 o2 => ?_)
  have hX : RR (N + 1) μ2 _ := ⟨inv_watch hV, rc_off c1 o2, m2⟩
  refine go_blk [(.if_icmp .eq 226, 753, 0, 0)] (by decide +kernel) ?_
  simp only [e_icmp_eq, e_nil, nol_n, nol_I, nol_R, rsum_0, rsum_I, rsum_R, ps_s, ps_n, true_and, and_true, Nat.reduceAdd, Nat.reduceLeDiff, hd2, a1, a2, a3, a4, x1, x2, x3, v1, v2, v3, lcs, rsum_J, true_implies, false_implies, not_true_eq_false, not_false_eq_true]
  refine go_blk [(.iinc 3 4, 0, 0, 0), (.goto (-738), 18, 0, 0)] (by decide +kernel) ?_
  simp only [e_inc_3_4n, e_inc_3_4I, e_inc_3_4R, e_goto, e_nil, nol_n, nol_I, nol_R, rsum_0, rsum_I, rsum_R, ps_s, ps_n, true_and, and_true, Nat.reduceAdd, Nat.reduceLeDiff, hd2, a1, a2, a3, a4, x1, x2, x3, v1, v2, v3, lcs, rsum_J, true_implies, false_implies, not_true_eq_false, not_false_eq_true]
  exact g _ _ hX
theorem law_c14 {l : Launch} {K : KK} {d : Nat} {P : Option AV → Mm → Prop} {N i i1 i2 i3 i4 : Nat} {S : SS} {μ : Mm} (hd1 : 20 ≤ d) (hN : N < 100) (hV : Inv N S) (hC : RC μ S) (hM : RM μ S) (a1 : nI i + 1 = nI i1) (a2 : nI i + 2 = nI i2) (a3 : nI i + 3 = nI i3) (a4 : nI i + 4 = nI i4) (x1 : ix (nI i1) = i1) (x2 : ix (nI i2) = i2) (x3 : ix (nI i3) = i3) (v1 : vp_in (nI i1) (kN K)) (v2 : vp_in (nI i2) (kN K)) (v3 : vp_in (nI i3) (kN K)) (g : ∀ (S' : SS) (μ' : Mm), RR (N + 1) μ' S' → Go l K d 190 18 [some (vR 12 0 1), some (vR 7 0 0), some (vR 8 0 0), some (vI (nI i4))] [] μ' P) : Go l K d 190 532 [some (vR 12 0 1), some (vR 7 0 0), some (vR 8 0 0), some (vI (nI i))] [] μ P := by
  have hd2 : 1 ≤ d := by omega
  refine go_blk [(.aload_n 1, 0, 0, 0), (.aload_n 0, 0, 0, 0), (.iload_n 3, 0, 0, 0), (.iconst 1, 0, 0, 0), (.iadd, 0, 0, 0)] (by decide +kernel) ?_
  simp only [e_al_1, e_al_0, e_il_3, e_ic_1, e_iadd, e_nil, nol_n, nol_I, nol_R, rsum_0, rsum_I, rsum_R, ps_s, ps_n, true_and, and_true, Nat.reduceAdd, Nat.reduceLeDiff, hd2, a1, a2, a3, a4, x1, x2, x3, v1, v2, v3, lcs, rsum_J, true_implies, false_implies, not_true_eq_false, not_false_eq_true]
  refine go_blk [(.iaload, 12, 0, 0), (.aload_n 0, 0, 0, 0), (.iload_n 3, 0, 0, 0), (.iconst 2, 0, 0, 0), (.iadd, 0, 0, 0)] (by decide +kernel) ?_
  simp only [e_iaX, e_al_0, e_il_3, e_ic_2, e_iadd, e_nil, nol_n, nol_I, nol_R, rsum_0, rsum_I, rsum_R, ps_s, ps_n, true_and, and_true, Nat.reduceAdd, Nat.reduceLeDiff, hd2, a1, a2, a3, a4, x1, x2, x3, v1, v2, v3, lcs, rsum_J, true_implies, false_implies, not_true_eq_false, not_false_eq_true]
  refine go_blk [(.iaload, 12, 0, 0), (.aload_n 0, 0, 0, 0), (.iload_n 3, 0, 0, 0), (.iconst 3, 0, 0, 0), (.iadd, 0, 0, 0)] (by decide +kernel) ?_
  simp only [e_iaX, e_al_0, e_il_3, e_ic_3, e_iadd, e_nil, nol_n, nol_I, nol_R, rsum_0, rsum_I, rsum_R, ps_s, ps_n, true_and, and_true, Nat.reduceAdd, Nat.reduceLeDiff, hd2, a1, a2, a3, a4, x1, x2, x3, v1, v2, v3, lcs, rsum_J, true_implies, false_implies, not_true_eq_false, not_false_eq_true]
  refine go_blk [(.iaload, 12, 0, 0), (.invokevirtual 74, 88, 3, 7)] (by decide +kernel) ?_
  simp only [e_iaX, e_iv_7_3, e_nil, nol_n, nol_I, nol_R, rsum_0, rsum_I, rsum_R, ps_s, ps_n, true_and, and_true, Nat.reduceAdd, Nat.reduceLeDiff, hd2, a1, a2, a3, a4, x1, x2, x3, v1, v2, v3, lcs, rsum_J, true_implies, false_implies, not_true_eq_false, not_false_eq_true]
  refine xc_best hV hC (by omega) (fun μ1 c1 o1 => ?_)
  refine go_blk [(.aload_n 2, 0, 0, 0), (.aload_n 0, 0, 0, 0), (.iload_n 3, 0, 0, 0), (.iconst 1, 0, 0, 0), (.iadd, 0, 0, 0)] (by decide +kernel) ?_
  simp only [e_al_2, e_al_0, e_il_3, e_ic_1, e_iadd, e_nil, nol_n, nol_I, nol_R, rsum_0, rsum_I, rsum_R, ps_s, ps_n, true_and, and_true, Nat.reduceAdd, Nat.reduceLeDiff, hd2, a1, a2, a3, a4, x1, x2, x3, v1, v2, v3, lcs, rsum_J, true_implies, false_implies, not_true_eq_false, not_false_eq_true]
  refine go_blk [(.iaload, 12, 0, 0), (.aload_n 0, 0, 0, 0), (.iload_n 3, 0, 0, 0), (.iconst 2, 0, 0, 0), (.iadd, 0, 0, 0)] (by decide +kernel) ?_
  simp only [e_iaX, e_al_0, e_il_3, e_ic_2, e_iadd, e_nil, nol_n, nol_I, nol_R, rsum_0, rsum_I, rsum_R, ps_s, ps_n, true_and, and_true, Nat.reduceAdd, Nat.reduceLeDiff, hd2, a1, a2, a3, a4, x1, x2, x3, v1, v2, v3, lcs, rsum_J, true_implies, false_implies, not_true_eq_false, not_false_eq_true]
  refine go_blk [(.iaload, 12, 0, 0), (.aload_n 0, 0, 0, 0), (.iload_n 3, 0, 0, 0), (.iconst 3, 0, 0, 0), (.iadd, 0, 0, 0)] (by decide +kernel) ?_
  simp only [e_iaX, e_al_0, e_il_3, e_ic_3, e_iadd, e_nil, nol_n, nol_I, nol_R, rsum_0, rsum_I, rsum_R, ps_s, ps_n, true_and, and_true, Nat.reduceAdd, Nat.reduceLeDiff, hd2, a1, a2, a3, a4, x1, x2, x3, v1, v2, v3, lcs, rsum_J, true_implies, false_implies, not_true_eq_false, not_false_eq_true]
  refine go_blk [(.iaload, 12, 0, 0), (.invokevirtual 77, 158, 3, 8)] (by decide +kernel) ?_
  simp only [e_iaX, e_iv_8_3, e_nil, nol_n, nol_I, nol_R, rsum_0, rsum_I, rsum_R, ps_s, ps_n, true_and, and_true, Nat.reduceAdd, Nat.reduceLeDiff, hd2, a1, a2, a3, a4, x1, x2, x3, v1, v2, v3, lcs, rsum_J, true_implies, false_implies, not_true_eq_false, not_false_eq_true]
  refine xm_best hV (rm_off hM o1) (by omega) (fun μ2 m2 o2 => ?_)
  have hX : RR (N + 1) μ2 _ := ⟨inv_best hV, rc_off c1 o2, m2⟩
  refine go_blk [(.if_icmp .eq 183, 753, 0, 0)] (by decide +kernel) ?_
  simp only [e_icmp_eq, e_nil, nol_n, nol_I, nol_R, rsum_0, rsum_I, rsum_R, ps_s, ps_n, true_and, and_true, Nat.reduceAdd, Nat.reduceLeDiff, hd2, a1, a2, a3, a4, x1, x2, x3, v1, v2, v3, lcs, rsum_J, true_implies, false_implies, not_true_eq_false, not_false_eq_true]
  refine go_blk [(.iinc 3 4, 0, 0, 0), (.goto (-738), 18, 0, 0)] (by decide +kernel) ?_
  simp only [e_inc_3_4n, e_inc_3_4I, e_inc_3_4R, e_goto, e_nil, nol_n, nol_I, nol_R, rsum_0, rsum_I, rsum_R, ps_s, ps_n, true_and, and_true, Nat.reduceAdd, Nat.reduceLeDiff, hd2, a1, a2, a3, a4, x1, x2, x3, v1, v2, v3, lcs, rsum_J, true_implies, false_implies, not_true_eq_false, not_false_eq_true]
  exact g _ _ hX
theorem law_c15 {l : Launch} {K : KK} {d : Nat} {P : Option AV → Mm → Prop} {N i i1 i2 i3 i4 : Nat} {S : SS} {μ : Mm} (hd1 : 20 ≤ d) (hN : N < 100) (hV : Inv N S) (hC : RC μ S) (hM : RM μ S) (a1 : nI i + 1 = nI i1) (a2 : nI i + 2 = nI i2) (a3 : nI i + 3 = nI i3) (a4 : nI i + 4 = nI i4) (x1 : ix (nI i1) = i1) (x2 : ix (nI i2) = i2) (x3 : ix (nI i3) = i3) (v1 : vp_in (nI i1) (kN K)) (v2 : vp_in (nI i2) (kN K)) (v3 : vp_in (nI i3) (kN K)) (g : ∀ (S' : SS) (μ' : Mm), RR (N + 1) μ' S' → Go l K d 190 18 [some (vR 12 0 1), some (vR 7 0 0), some (vR 8 0 0), some (vI (nI i4))] [] μ' P) : Go l K d 190 575 [some (vR 12 0 1), some (vR 7 0 0), some (vR 8 0 0), some (vI (nI i))] [] μ P := by
  have hd2 : 1 ≤ d := by omega
  refine go_blk [(.aload_n 1, 0, 0, 0), (.aload_n 0, 0, 0, 0), (.iload_n 3, 0, 0, 0), (.iconst 1, 0, 0, 0), (.iadd, 0, 0, 0)] (by decide +kernel) ?_
  simp only [e_al_1, e_al_0, e_il_3, e_ic_1, e_iadd, e_nil, nol_n, nol_I, nol_R, rsum_0, rsum_I, rsum_R, ps_s, ps_n, true_and, and_true, Nat.reduceAdd, Nat.reduceLeDiff, hd2, a1, a2, a3, a4, x1, x2, x3, v1, v2, v3, lcs, rsum_J, true_implies, false_implies, not_true_eq_false, not_false_eq_true]
  refine go_blk [(.iaload, 12, 0, 0), (.invokevirtual 78, 89, 1, 7)] (by decide +kernel) ?_
  simp only [e_iaX, e_iv_7_1, e_nil, nol_n, nol_I, nol_R, rsum_0, rsum_I, rsum_R, ps_s, ps_n, true_and, and_true, Nat.reduceAdd, Nat.reduceLeDiff, hd2, a1, a2, a3, a4, x1, x2, x3, v1, v2, v3, lcs, rsum_J, true_implies, false_implies, not_true_eq_false, not_false_eq_true]
  refine xc_tally hV hC (by omega) (fun μ1 c1 o1 => ?_)
  refine go_blk [(.aload_n 2, 0, 0, 0), (.aload_n 0, 0, 0, 0), (.iload_n 3, 0, 0, 0), (.iconst 1, 0, 0, 0), (.iadd, 0, 0, 0)] (by decide +kernel) ?_
  simp only [e_al_2, e_al_0, e_il_3, e_ic_1, e_iadd, e_nil, nol_n, nol_I, nol_R, rsum_0, rsum_I, rsum_R, ps_s, ps_n, true_and, and_true, Nat.reduceAdd, Nat.reduceLeDiff, hd2, a1, a2, a3, a4, x1, x2, x3, v1, v2, v3, lcs, rsum_J, true_implies, false_implies, not_true_eq_false, not_false_eq_true]
  refine go_blk [(.iaload, 12, 0, 0), (.invokevirtual 81, 159, 1, 8)] (by decide +kernel) ?_
  simp only [e_iaX, e_iv_8_1, e_nil, nol_n, nol_I, nol_R, rsum_0, rsum_I, rsum_R, ps_s, ps_n, true_and, and_true, Nat.reduceAdd, Nat.reduceLeDiff, hd2, a1, a2, a3, a4, x1, x2, x3, v1, v2, v3, lcs, rsum_J, true_implies, false_implies, not_true_eq_false, not_false_eq_true]
  refine xm_tally hV (rm_off hM o1) (by omega) (fun μ2 m2 o2 => ?_)
  have hX : RR (N + 1) μ2 _ := ⟨inv_tally hV, rc_off c1 o2, m2⟩
  refine go_blk [(.if_icmp .eq 160, 753, 0, 0)] (by decide +kernel) ?_
  simp only [e_icmp_eq, e_nil, nol_n, nol_I, nol_R, rsum_0, rsum_I, rsum_R, ps_s, ps_n, true_and, and_true, Nat.reduceAdd, Nat.reduceLeDiff, hd2, a1, a2, a3, a4, x1, x2, x3, v1, v2, v3, lcs, rsum_J, true_implies, false_implies, not_true_eq_false, not_false_eq_true]
  refine go_blk [(.iinc 3 4, 0, 0, 0), (.goto (-738), 18, 0, 0)] (by decide +kernel) ?_
  simp only [e_inc_3_4n, e_inc_3_4I, e_inc_3_4R, e_goto, e_nil, nol_n, nol_I, nol_R, rsum_0, rsum_I, rsum_R, ps_s, ps_n, true_and, and_true, Nat.reduceAdd, Nat.reduceLeDiff, hd2, a1, a2, a3, a4, x1, x2, x3, v1, v2, v3, lcs, rsum_J, true_implies, false_implies, not_true_eq_false, not_false_eq_true]
  exact g _ _ hX
theorem law_c16 {l : Launch} {K : KK} {d : Nat} {P : Option AV → Mm → Prop} {N i i1 i2 i3 i4 : Nat} {S : SS} {μ : Mm} (hd1 : 20 ≤ d) (hN : N < 100) (hV : Inv N S) (hC : RC μ S) (hM : RM μ S) (a1 : nI i + 1 = nI i1) (a2 : nI i + 2 = nI i2) (a3 : nI i + 3 = nI i3) (a4 : nI i + 4 = nI i4) (x1 : ix (nI i1) = i1) (x2 : ix (nI i2) = i2) (x3 : ix (nI i3) = i3) (v1 : vp_in (nI i1) (kN K)) (v2 : vp_in (nI i2) (kN K)) (v3 : vp_in (nI i3) (kN K)) (g : ∀ (S' : SS) (μ' : Mm), RR (N + 1) μ' S' → Go l K d 190 18 [some (vR 12 0 1), some (vR 7 0 0), some (vR 8 0 0), some (vI (nI i4))] [] μ' P) : Go l K d 190 598 [some (vR 12 0 1), some (vR 7 0 0), some (vR 8 0 0), some (vI (nI i))] [] μ P := by
  have hd2 : 1 ≤ d := by omega
  refine go_blk [(.aload_n 1, 0, 0, 0), (.invokevirtual 82, 90, 0, 7)] (by decide +kernel) ?_
  simp only [e_al_1, e_iv_7_0, e_nil, nol_n, nol_I, nol_R, rsum_0, rsum_I, rsum_R, ps_s, ps_n, true_and, and_true, Nat.reduceAdd, Nat.reduceLeDiff, hd2, a1, a2, a3, a4, x1, x2, x3, v1, v2, v3, lcs, rsum_J, true_implies, false_implies, not_true_eq_false, not_false_eq_true]
  refine xc_forget hV hC (by omega) (fun μ1 c1 o1 => ?_)
  refine go_blk [(.aload_n 2, 0, 0, 0), (.invokevirtual 85, 160, 0, 8)] (by decide +kernel) ?_
  simp only [e_al_2, e_iv_8_0, e_nil, nol_n, nol_I, nol_R, rsum_0, rsum_I, rsum_R, ps_s, ps_n, true_and, and_true, Nat.reduceAdd, Nat.reduceLeDiff, hd2, a1, a2, a3, a4, x1, x2, x3, v1, v2, v3, lcs, rsum_J, true_implies, false_implies, not_true_eq_false, not_false_eq_true]
  refine xm_forget hV (rm_off hM o1) (by omega) (fun μ2 m2 o2 => ?_)
  have hX : RR (N + 1) μ2 _ := ⟨inv_forget hV, rc_off c1 o2, m2⟩
  refine go_blk [(.if_icmp .eq 147, 753, 0, 0)] (by decide +kernel) ?_
  simp only [e_icmp_eq, e_nil, nol_n, nol_I, nol_R, rsum_0, rsum_I, rsum_R, ps_s, ps_n, true_and, and_true, Nat.reduceAdd, Nat.reduceLeDiff, hd2, a1, a2, a3, a4, x1, x2, x3, v1, v2, v3, lcs, rsum_J, true_implies, false_implies, not_true_eq_false, not_false_eq_true]
  refine go_blk [(.iinc 3 4, 0, 0, 0), (.goto (-738), 18, 0, 0)] (by decide +kernel) ?_
  simp only [e_inc_3_4n, e_inc_3_4I, e_inc_3_4R, e_goto, e_nil, nol_n, nol_I, nol_R, rsum_0, rsum_I, rsum_R, ps_s, ps_n, true_and, and_true, Nat.reduceAdd, Nat.reduceLeDiff, hd2, a1, a2, a3, a4, x1, x2, x3, v1, v2, v3, lcs, rsum_J, true_implies, false_implies, not_true_eq_false, not_false_eq_true]
  exact g _ _ hX
theorem law_c17 {l : Launch} {K : KK} {d : Nat} {P : Option AV → Mm → Prop} {N i i1 i2 i3 i4 : Nat} {S : SS} {μ : Mm} (hd1 : 20 ≤ d) (hN : N < 100) (hV : Inv N S) (hC : RC μ S) (hM : RM μ S) (a1 : nI i + 1 = nI i1) (a2 : nI i + 2 = nI i2) (a3 : nI i + 3 = nI i3) (a4 : nI i + 4 = nI i4) (x1 : ix (nI i1) = i1) (x2 : ix (nI i2) = i2) (x3 : ix (nI i3) = i3) (v1 : vp_in (nI i1) (kN K)) (v2 : vp_in (nI i2) (kN K)) (v3 : vp_in (nI i3) (kN K)) (g : ∀ (S' : SS) (μ' : Mm), RR (N + 1) μ' S' → Go l K d 190 18 [some (vR 12 0 1), some (vR 7 0 0), some (vR 8 0 0), some (vI (nI i4))] [] μ' P) : Go l K d 190 611 [some (vR 12 0 1), some (vR 7 0 0), some (vR 8 0 0), some (vI (nI i))] [] μ P := by
  have hd2 : 1 ≤ d := by omega
  refine go_blk [(.aload_n 1, 0, 0, 0), (.invokevirtual 86, 91, 0, 7)] (by decide +kernel) ?_
  simp only [e_al_1, e_iv_7_0, e_nil, nol_n, nol_I, nol_R, rsum_0, rsum_I, rsum_R, ps_s, ps_n, true_and, and_true, Nat.reduceAdd, Nat.reduceLeDiff, hd2, a1, a2, a3, a4, x1, x2, x3, v1, v2, v3, lcs, rsum_J, true_implies, false_implies, not_true_eq_false, not_false_eq_true]
  refine xc_fits hV hC (by omega) (fun μ1 c1 o1 => ?_)
  refine go_blk [(.aload_n 2, 0, 0, 0), (.invokevirtual 89, 166, 0, 8)] (by decide +kernel) ?_
  simp only [e_al_2, e_iv_8_0, e_nil, nol_n, nol_I, nol_R, rsum_0, rsum_I, rsum_R, ps_s, ps_n, true_and, and_true, Nat.reduceAdd, Nat.reduceLeDiff, hd2, a1, a2, a3, a4, x1, x2, x3, v1, v2, v3, lcs, rsum_J, true_implies, false_implies, not_true_eq_false, not_false_eq_true]
  refine xm_fits hV (rm_off hM o1) (by omega) (fun μ2 m2 o2 => ?_)
  have hX : RR (N + 1) μ2 _ := ⟨inv_up hV, rc_off c1 o2, m2⟩
  refine go_blk [(.if_icmp .eq 134, 753, 0, 0)] (by decide +kernel) ?_
  simp only [e_icmp_eq, e_nil, nol_n, nol_I, nol_R, rsum_0, rsum_I, rsum_R, ps_s, ps_n, true_and, and_true, Nat.reduceAdd, Nat.reduceLeDiff, hd2, a1, a2, a3, a4, x1, x2, x3, v1, v2, v3, lcs, rsum_J, true_implies, false_implies, not_true_eq_false, not_false_eq_true]
  refine go_blk [(.iinc 3 4, 0, 0, 0), (.goto (-738), 18, 0, 0)] (by decide +kernel) ?_
  simp only [e_inc_3_4n, e_inc_3_4I, e_inc_3_4R, e_goto, e_nil, nol_n, nol_I, nol_R, rsum_0, rsum_I, rsum_R, ps_s, ps_n, true_and, and_true, Nat.reduceAdd, Nat.reduceLeDiff, hd2, a1, a2, a3, a4, x1, x2, x3, v1, v2, v3, lcs, rsum_J, true_implies, false_implies, not_true_eq_false, not_false_eq_true]
  exact g _ _ hX
theorem law_c18 {l : Launch} {K : KK} {d : Nat} {P : Option AV → Mm → Prop} {N i i1 i2 i3 i4 : Nat} {S : SS} {μ : Mm} (hd1 : 20 ≤ d) (hN : N < 100) (hV : Inv N S) (hC : RC μ S) (hM : RM μ S) (a1 : nI i + 1 = nI i1) (a2 : nI i + 2 = nI i2) (a3 : nI i + 3 = nI i3) (a4 : nI i + 4 = nI i4) (x1 : ix (nI i1) = i1) (x2 : ix (nI i2) = i2) (x3 : ix (nI i3) = i3) (v1 : vp_in (nI i1) (kN K)) (v2 : vp_in (nI i2) (kN K)) (v3 : vp_in (nI i3) (kN K)) (g : ∀ (S' : SS) (μ' : Mm), RR (N + 1) μ' S' → Go l K d 190 18 [some (vR 12 0 1), some (vR 7 0 0), some (vR 8 0 0), some (vI (nI i4))] [] μ' P) : Go l K d 190 624 [some (vR 12 0 1), some (vR 7 0 0), some (vR 8 0 0), some (vI (nI i))] [] μ P := by
  have hd2 : 1 ≤ d := by omega
  refine go_blk [(.aload_n 1, 0, 0, 0), (.aload_n 0, 0, 0, 0), (.iload_n 3, 0, 0, 0), (.iconst 1, 0, 0, 0), (.iadd, 0, 0, 0)] (by decide +kernel) ?_
  simp only [e_al_1, e_al_0, e_il_3, e_ic_1, e_iadd, e_nil, nol_n, nol_I, nol_R, rsum_0, rsum_I, rsum_R, ps_s, ps_n, true_and, and_true, Nat.reduceAdd, Nat.reduceLeDiff, hd2, a1, a2, a3, a4, x1, x2, x3, v1, v2, v3, lcs, rsum_J, true_implies, false_implies, not_true_eq_false, not_false_eq_true]
  refine go_blk [(.iaload, 12, 0, 0), (.invokevirtual 90, 92, 1, 7)] (by decide +kernel) ?_
  simp only [e_iaX, e_iv_7_1, e_nil, nol_n, nol_I, nol_R, rsum_0, rsum_I, rsum_R, ps_s, ps_n, true_and, and_true, Nat.reduceAdd, Nat.reduceLeDiff, hd2, a1, a2, a3, a4, x1, x2, x3, v1, v2, v3, lcs, rsum_J, true_implies, false_implies, not_true_eq_false, not_false_eq_true]
  refine xc_last hV hC (by omega) (fun μ1 c1 o1 => ?_)
  refine go_blk [(.aload_n 2, 0, 0, 0), (.aload_n 0, 0, 0, 0), (.iload_n 3, 0, 0, 0), (.iconst 1, 0, 0, 0), (.iadd, 0, 0, 0)] (by decide +kernel) ?_
  simp only [e_al_2, e_al_0, e_il_3, e_ic_1, e_iadd, e_nil, nol_n, nol_I, nol_R, rsum_0, rsum_I, rsum_R, ps_s, ps_n, true_and, and_true, Nat.reduceAdd, Nat.reduceLeDiff, hd2, a1, a2, a3, a4, x1, x2, x3, v1, v2, v3, lcs, rsum_J, true_implies, false_implies, not_true_eq_false, not_false_eq_true]
  refine go_blk [(.iaload, 12, 0, 0), (.invokevirtual 93, 168, 1, 8)] (by decide +kernel) ?_
  simp only [e_iaX, e_iv_8_1, e_nil, nol_n, nol_I, nol_R, rsum_0, rsum_I, rsum_R, ps_s, ps_n, true_and, and_true, Nat.reduceAdd, Nat.reduceLeDiff, hd2, a1, a2, a3, a4, x1, x2, x3, v1, v2, v3, lcs, rsum_J, true_implies, false_implies, not_true_eq_false, not_false_eq_true]
  refine xm_last hV (rm_off hM o1) (by omega) (fun μ2 m2 o2 => ?_)
  have hX : RR (N + 1) μ2 _ := ⟨inv_up hV, rc_off c1 o2, m2⟩
  refine go_blk [(.if_icmp .eq 111, 753, 0, 0)] (by decide +kernel) ?_
  simp only [e_icmp_eq, e_nil, nol_n, nol_I, nol_R, rsum_0, rsum_I, rsum_R, ps_s, ps_n, true_and, and_true, Nat.reduceAdd, Nat.reduceLeDiff, hd2, a1, a2, a3, a4, x1, x2, x3, v1, v2, v3, lcs, rsum_J, true_implies, false_implies, not_true_eq_false, not_false_eq_true]
  refine go_blk [(.iinc 3 4, 0, 0, 0), (.goto (-738), 18, 0, 0)] (by decide +kernel) ?_
  simp only [e_inc_3_4n, e_inc_3_4I, e_inc_3_4R, e_goto, e_nil, nol_n, nol_I, nol_R, rsum_0, rsum_I, rsum_R, ps_s, ps_n, true_and, and_true, Nat.reduceAdd, Nat.reduceLeDiff, hd2, a1, a2, a3, a4, x1, x2, x3, v1, v2, v3, lcs, rsum_J, true_implies, false_implies, not_true_eq_false, not_false_eq_true]
  exact g _ _ hX
theorem law_c19 {l : Launch} {K : KK} {d : Nat} {P : Option AV → Mm → Prop} {N i i1 i2 i3 i4 : Nat} {S : SS} {μ : Mm} (hd1 : 20 ≤ d) (hN : N < 100) (hV : Inv N S) (hC : RC μ S) (hM : RM μ S) (a1 : nI i + 1 = nI i1) (a2 : nI i + 2 = nI i2) (a3 : nI i + 3 = nI i3) (a4 : nI i + 4 = nI i4) (x1 : ix (nI i1) = i1) (x2 : ix (nI i2) = i2) (x3 : ix (nI i3) = i3) (v1 : vp_in (nI i1) (kN K)) (v2 : vp_in (nI i2) (kN K)) (v3 : vp_in (nI i3) (kN K)) (g : ∀ (S' : SS) (μ' : Mm), RR (N + 1) μ' S' → Go l K d 190 18 [some (vR 12 0 1), some (vR 7 0 0), some (vR 8 0 0), some (vI (nI i4))] [] μ' P) : Go l K d 190 647 [some (vR 12 0 1), some (vR 7 0 0), some (vR 8 0 0), some (vI (nI i))] [] μ P := by
  have hd2 : 1 ≤ d := by omega
  refine go_blk [(.aload_n 1, 0, 0, 0), (.aload_n 0, 0, 0, 0), (.iload_n 3, 0, 0, 0), (.iconst 1, 0, 0, 0), (.iadd, 0, 0, 0)] (by decide +kernel) ?_
  simp only [e_al_1, e_al_0, e_il_3, e_ic_1, e_iadd, e_nil, nol_n, nol_I, nol_R, rsum_0, rsum_I, rsum_R, ps_s, ps_n, true_and, and_true, Nat.reduceAdd, Nat.reduceLeDiff, hd2, a1, a2, a3, a4, x1, x2, x3, v1, v2, v3, lcs, rsum_J, true_implies, false_implies, not_true_eq_false, not_false_eq_true]
  refine go_blk [(.iaload, 12, 0, 0), (.aload_n 0, 0, 0, 0), (.iload_n 3, 0, 0, 0), (.iconst 2, 0, 0, 0), (.iadd, 0, 0, 0)] (by decide +kernel) ?_
  simp only [e_iaX, e_al_0, e_il_3, e_ic_2, e_iadd, e_nil, nol_n, nol_I, nol_R, rsum_0, rsum_I, rsum_R, ps_s, ps_n, true_and, and_true, Nat.reduceAdd, Nat.reduceLeDiff, hd2, a1, a2, a3, a4, x1, x2, x3, v1, v2, v3, lcs, rsum_J, true_implies, false_implies, not_true_eq_false, not_false_eq_true]
  refine go_blk [(.iaload, 12, 0, 0), (.aload_n 0, 0, 0, 0), (.iload_n 3, 0, 0, 0), (.iconst 3, 0, 0, 0), (.iadd, 0, 0, 0)] (by decide +kernel) ?_
  simp only [e_iaX, e_al_0, e_il_3, e_ic_3, e_iadd, e_nil, nol_n, nol_I, nol_R, rsum_0, rsum_I, rsum_R, ps_s, ps_n, true_and, and_true, Nat.reduceAdd, Nat.reduceLeDiff, hd2, a1, a2, a3, a4, x1, x2, x3, v1, v2, v3, lcs, rsum_J, true_implies, false_implies, not_true_eq_false, not_false_eq_true]
  refine go_blk [(.iaload, 12, 0, 0), (.invokevirtual 94, 93, 3, 7)] (by decide +kernel) ?_
  simp only [e_iaX, e_iv_7_3, e_nil, nol_n, nol_I, nol_R, rsum_0, rsum_I, rsum_R, ps_s, ps_n, true_and, and_true, Nat.reduceAdd, Nat.reduceLeDiff, hd2, a1, a2, a3, a4, x1, x2, x3, v1, v2, v3, lcs, rsum_J, true_implies, false_implies, not_true_eq_false, not_false_eq_true]
  refine xc_after hV hC (by omega) (fun μ1 c1 o1 => ?_)
  refine go_blk [(.aload_n 2, 0, 0, 0), (.aload_n 0, 0, 0, 0), (.iload_n 3, 0, 0, 0), (.iconst 1, 0, 0, 0), (.iadd, 0, 0, 0)] (by decide +kernel) ?_
  simp only [e_al_2, e_al_0, e_il_3, e_ic_1, e_iadd, e_nil, nol_n, nol_I, nol_R, rsum_0, rsum_I, rsum_R, ps_s, ps_n, true_and, and_true, Nat.reduceAdd, Nat.reduceLeDiff, hd2, a1, a2, a3, a4, x1, x2, x3, v1, v2, v3, lcs, rsum_J, true_implies, false_implies, not_true_eq_false, not_false_eq_true]
  refine go_blk [(.iaload, 12, 0, 0), (.aload_n 0, 0, 0, 0), (.iload_n 3, 0, 0, 0), (.iconst 2, 0, 0, 0), (.iadd, 0, 0, 0)] (by decide +kernel) ?_
  simp only [e_iaX, e_al_0, e_il_3, e_ic_2, e_iadd, e_nil, nol_n, nol_I, nol_R, rsum_0, rsum_I, rsum_R, ps_s, ps_n, true_and, and_true, Nat.reduceAdd, Nat.reduceLeDiff, hd2, a1, a2, a3, a4, x1, x2, x3, v1, v2, v3, lcs, rsum_J, true_implies, false_implies, not_true_eq_false, not_false_eq_true]
  refine go_blk [(.iaload, 12, 0, 0), (.aload_n 0, 0, 0, 0), (.iload_n 3, 0, 0, 0), (.iconst 3, 0, 0, 0), (.iadd, 0, 0, 0)] (by decide +kernel) ?_
  simp only [e_iaX, e_al_0, e_il_3, e_ic_3, e_iadd, e_nil, nol_n, nol_I, nol_R, rsum_0, rsum_I, rsum_R, ps_s, ps_n, true_and, and_true, Nat.reduceAdd, Nat.reduceLeDiff, hd2, a1, a2, a3, a4, x1, x2, x3, v1, v2, v3, lcs, rsum_J, true_implies, false_implies, not_true_eq_false, not_false_eq_true]
  refine go_blk [(.iaload, 12, 0, 0), (.invokevirtual 97, 171, 3, 8)] (by decide +kernel) ?_
  simp only [e_iaX, e_iv_8_3, e_nil, nol_n, nol_I, nol_R, rsum_0, rsum_I, rsum_R, ps_s, ps_n, true_and, and_true, Nat.reduceAdd, Nat.reduceLeDiff, hd2, a1, a2, a3, a4, x1, x2, x3, v1, v2, v3, lcs, rsum_J, true_implies, false_implies, not_true_eq_false, not_false_eq_true]
  refine xm_after hV (rm_off hM o1) (by omega) (fun μ2 m2 o2 => ?_)
  have hX : RR (N + 1) μ2 _ := ⟨inv_up hV, rc_off c1 o2, m2⟩
  refine go_blk [(.if_icmp .eq 68, 753, 0, 0)] (by decide +kernel) ?_
  simp only [e_icmp_eq, e_nil, nol_n, nol_I, nol_R, rsum_0, rsum_I, rsum_R, ps_s, ps_n, true_and, and_true, Nat.reduceAdd, Nat.reduceLeDiff, hd2, a1, a2, a3, a4, x1, x2, x3, v1, v2, v3, lcs, rsum_J, true_implies, false_implies, not_true_eq_false, not_false_eq_true]
  refine go_blk [(.iinc 3 4, 0, 0, 0), (.goto (-738), 18, 0, 0)] (by decide +kernel) ?_
  simp only [e_inc_3_4n, e_inc_3_4I, e_inc_3_4R, e_goto, e_nil, nol_n, nol_I, nol_R, rsum_0, rsum_I, rsum_R, ps_s, ps_n, true_and, and_true, Nat.reduceAdd, Nat.reduceLeDiff, hd2, a1, a2, a3, a4, x1, x2, x3, v1, v2, v3, lcs, rsum_J, true_implies, false_implies, not_true_eq_false, not_false_eq_true]
  exact g _ _ hX
theorem law_c20 {l : Launch} {K : KK} {d : Nat} {P : Option AV → Mm → Prop} {N i i1 i2 i3 i4 : Nat} {S : SS} {μ : Mm} (hd1 : 20 ≤ d) (hN : N < 100) (hV : Inv N S) (hC : RC μ S) (hM : RM μ S) (a1 : nI i + 1 = nI i1) (a2 : nI i + 2 = nI i2) (a3 : nI i + 3 = nI i3) (a4 : nI i + 4 = nI i4) (x1 : ix (nI i1) = i1) (x2 : ix (nI i2) = i2) (x3 : ix (nI i3) = i3) (v1 : vp_in (nI i1) (kN K)) (v2 : vp_in (nI i2) (kN K)) (v3 : vp_in (nI i3) (kN K)) (g : ∀ (S' : SS) (μ' : Mm), RR (N + 1) μ' S' → Go l K d 190 18 [some (vR 12 0 1), some (vR 7 0 0), some (vR 8 0 0), some (vI (nI i4))] [] μ' P) : Go l K d 190 690 [some (vR 12 0 1), some (vR 7 0 0), some (vR 8 0 0), some (vI (nI i))] [] μ P := by
  have hd2 : 1 ≤ d := by omega
  refine go_blk [(.aload_n 1, 0, 0, 0), (.invokevirtual 98, 94, 0, 7)] (by decide +kernel) ?_
  simp only [e_al_1, e_iv_7_0, e_nil, nol_n, nol_I, nol_R, rsum_0, rsum_I, rsum_R, ps_s, ps_n, true_and, and_true, Nat.reduceAdd, Nat.reduceLeDiff, hd2, a1, a2, a3, a4, x1, x2, x3, v1, v2, v3, lcs, rsum_J, true_implies, false_implies, not_true_eq_false, not_false_eq_true]
  refine xc_image hV hC (by omega) (fun μ1 c1 o1 => ?_)
  refine go_blk [(.aload_n 2, 0, 0, 0), (.invokevirtual 101, 172, 0, 8)] (by decide +kernel) ?_
  simp only [e_al_2, e_iv_8_0, e_nil, nol_n, nol_I, nol_R, rsum_0, rsum_I, rsum_R, ps_s, ps_n, true_and, and_true, Nat.reduceAdd, Nat.reduceLeDiff, hd2, a1, a2, a3, a4, x1, x2, x3, v1, v2, v3, lcs, rsum_J, true_implies, false_implies, not_true_eq_false, not_false_eq_true]
  refine xm_image hV (rm_off hM o1) (by omega) (fun μ2 m2 o2 => ?_)
  have hX : RR (N + 1) μ2 _ := ⟨inv_image hV, rc_off c1 o2, m2⟩
  refine go_blk [(.if_icmp .eq 55, 753, 0, 0)] (by decide +kernel) ?_
  simp only [e_icmp_eq, e_nil, nol_n, nol_I, nol_R, rsum_0, rsum_I, rsum_R, ps_s, ps_n, true_and, and_true, Nat.reduceAdd, Nat.reduceLeDiff, hd2, a1, a2, a3, a4, x1, x2, x3, v1, v2, v3, lcs, rsum_J, true_implies, false_implies, not_true_eq_false, not_false_eq_true]
  refine go_blk [(.iinc 3 4, 0, 0, 0), (.goto (-738), 18, 0, 0)] (by decide +kernel) ?_
  simp only [e_inc_3_4n, e_inc_3_4I, e_inc_3_4R, e_goto, e_nil, nol_n, nol_I, nol_R, rsum_0, rsum_I, rsum_R, ps_s, ps_n, true_and, and_true, Nat.reduceAdd, Nat.reduceLeDiff, hd2, a1, a2, a3, a4, x1, x2, x3, v1, v2, v3, lcs, rsum_J, true_implies, false_implies, not_true_eq_false, not_false_eq_true]
  exact g _ _ hX
theorem law_c21 {l : Launch} {K : KK} {d : Nat} {P : Option AV → Mm → Prop} {N i i1 i2 i3 i4 : Nat} {S : SS} {μ : Mm} (hd1 : 20 ≤ d) (hN : N < 100) (hV : Inv N S) (hC : RC μ S) (hM : RM μ S) (a1 : nI i + 1 = nI i1) (a2 : nI i + 2 = nI i2) (a3 : nI i + 3 = nI i3) (a4 : nI i + 4 = nI i4) (x1 : ix (nI i1) = i1) (x2 : ix (nI i2) = i2) (x3 : ix (nI i3) = i3) (v1 : vp_in (nI i1) (kN K)) (v2 : vp_in (nI i2) (kN K)) (v3 : vp_in (nI i3) (kN K)) (g : ∀ (S' : SS) (μ' : Mm), RR (N + 1) μ' S' → Go l K d 190 18 [some (vR 12 0 1), some (vR 7 0 0), some (vR 8 0 0), some (vI (nI i4))] [] μ' P) : Go l K d 190 703 [some (vR 12 0 1), some (vR 7 0 0), some (vR 8 0 0), some (vI (nI i))] [] μ P := by
  have hd2 : 1 ≤ d := by omega
  refine go_blk [(.aload_n 1, 0, 0, 0), (.invokevirtual 102, 95, 0, 7)] (by decide +kernel) ?_
  simp only [e_al_1, e_iv_7_0, e_nil, nol_n, nol_I, nol_R, rsum_0, rsum_I, rsum_R, ps_s, ps_n, true_and, and_true, Nat.reduceAdd, Nat.reduceLeDiff, hd2, a1, a2, a3, a4, x1, x2, x3, v1, v2, v3, lcs, rsum_J, true_implies, false_implies, not_true_eq_false, not_false_eq_true]
  refine xc_restore hV hC (by omega) (fun μ1 c1 o1 => ?_)
  refine go_blk [(.aload_n 2, 0, 0, 0), (.invokevirtual 105, 173, 0, 8)] (by decide +kernel) ?_
  simp only [e_al_2, e_iv_8_0, e_nil, nol_n, nol_I, nol_R, rsum_0, rsum_I, rsum_R, ps_s, ps_n, true_and, and_true, Nat.reduceAdd, Nat.reduceLeDiff, hd2, a1, a2, a3, a4, x1, x2, x3, v1, v2, v3, lcs, rsum_J, true_implies, false_implies, not_true_eq_false, not_false_eq_true]
  refine xm_restore (by omega) hV (rm_off hM o1) (by omega) (fun μ2 m2 o2 => ?_)
  have hX : RR (N + 1) μ2 _ := ⟨inv_restore hV, rc_off c1 o2, m2⟩
  refine go_blk [(.if_icmp .eq 42, 753, 0, 0)] (by decide +kernel) ?_
  simp only [e_icmp_eq, e_nil, nol_n, nol_I, nol_R, rsum_0, rsum_I, rsum_R, ps_s, ps_n, true_and, and_true, Nat.reduceAdd, Nat.reduceLeDiff, hd2, a1, a2, a3, a4, x1, x2, x3, v1, v2, v3, lcs, rsum_J, true_implies, false_implies, not_true_eq_false, not_false_eq_true]
  refine go_blk [(.iinc 3 4, 0, 0, 0), (.goto (-738), 18, 0, 0)] (by decide +kernel) ?_
  simp only [e_inc_3_4n, e_inc_3_4I, e_inc_3_4R, e_goto, e_nil, nol_n, nol_I, nol_R, rsum_0, rsum_I, rsum_R, ps_s, ps_n, true_and, and_true, Nat.reduceAdd, Nat.reduceLeDiff, hd2, a1, a2, a3, a4, x1, x2, x3, v1, v2, v3, lcs, rsum_J, true_implies, false_implies, not_true_eq_false, not_false_eq_true]
  exact g _ _ hX
theorem law_c22 {l : Launch} {K : KK} {d : Nat} {P : Option AV → Mm → Prop} {N i i1 i2 i3 i4 : Nat} {S : SS} {μ : Mm} (hd1 : 20 ≤ d) (hN : N < 100) (hV : Inv N S) (hC : RC μ S) (hM : RM μ S) (a1 : nI i + 1 = nI i1) (a2 : nI i + 2 = nI i2) (a3 : nI i + 3 = nI i3) (a4 : nI i + 4 = nI i4) (x1 : ix (nI i1) = i1) (x2 : ix (nI i2) = i2) (x3 : ix (nI i3) = i3) (v1 : vp_in (nI i1) (kN K)) (v2 : vp_in (nI i2) (kN K)) (v3 : vp_in (nI i3) (kN K)) (g : ∀ (S' : SS) (μ' : Mm), RR (N + 1) μ' S' → Go l K d 190 18 [some (vR 12 0 1), some (vR 7 0 0), some (vR 8 0 0), some (vI (nI i4))] [] μ' P) : Go l K d 190 716 [some (vR 12 0 1), some (vR 7 0 0), some (vR 8 0 0), some (vI (nI i))] [] μ P := by
  have hd2 : 1 ≤ d := by omega
  refine go_blk [(.aload_n 1, 0, 0, 0), (.aload_n 0, 0, 0, 0), (.iload_n 3, 0, 0, 0), (.iconst 1, 0, 0, 0), (.iadd, 0, 0, 0)] (by decide +kernel) ?_
  simp only [e_al_1, e_al_0, e_il_3, e_ic_1, e_iadd, e_nil, nol_n, nol_I, nol_R, rsum_0, rsum_I, rsum_R, ps_s, ps_n, true_and, and_true, Nat.reduceAdd, Nat.reduceLeDiff, hd2, a1, a2, a3, a4, x1, x2, x3, v1, v2, v3, lcs, rsum_J, true_implies, false_implies, not_true_eq_false, not_false_eq_true]
  refine go_blk [(.iaload, 12, 0, 0), (.invokevirtual 106, 96, 1, 7)] (by decide +kernel) ?_
  simp only [e_iaX, e_iv_7_1, e_nil, nol_n, nol_I, nol_R, rsum_0, rsum_I, rsum_R, ps_s, ps_n, true_and, and_true, Nat.reduceAdd, Nat.reduceLeDiff, hd2, a1, a2, a3, a4, x1, x2, x3, v1, v2, v3, lcs, rsum_J, true_implies, false_implies, not_true_eq_false, not_false_eq_true]
  refine xc_count hV hC (by omega) (fun μ1 c1 o1 => ?_)
  refine go_blk [(.aload_n 2, 0, 0, 0), (.aload_n 0, 0, 0, 0), (.iload_n 3, 0, 0, 0), (.iconst 1, 0, 0, 0), (.iadd, 0, 0, 0)] (by decide +kernel) ?_
  simp only [e_al_2, e_al_0, e_il_3, e_ic_1, e_iadd, e_nil, nol_n, nol_I, nol_R, rsum_0, rsum_I, rsum_R, ps_s, ps_n, true_and, and_true, Nat.reduceAdd, Nat.reduceLeDiff, hd2, a1, a2, a3, a4, x1, x2, x3, v1, v2, v3, lcs, rsum_J, true_implies, false_implies, not_true_eq_false, not_false_eq_true]
  refine go_blk [(.iaload, 12, 0, 0), (.invokevirtual 109, 175, 1, 8)] (by decide +kernel) ?_
  simp only [e_iaX, e_iv_8_1, e_nil, nol_n, nol_I, nol_R, rsum_0, rsum_I, rsum_R, ps_s, ps_n, true_and, and_true, Nat.reduceAdd, Nat.reduceLeDiff, hd2, a1, a2, a3, a4, x1, x2, x3, v1, v2, v3, lcs, rsum_J, true_implies, false_implies, not_true_eq_false, not_false_eq_true]
  refine xm_count hV (rm_off hM o1) (by omega) (fun μ2 m2 o2 => ?_)
  have hX : RR (N + 1) μ2 _ := ⟨inv_up hV, rc_off c1 o2, m2⟩
  refine go_blk [(.if_icmp .eq 19, 753, 0, 0)] (by decide +kernel) ?_
  simp only [e_icmp_eq, e_nil, nol_n, nol_I, nol_R, rsum_0, rsum_I, rsum_R, ps_s, ps_n, true_and, and_true, Nat.reduceAdd, Nat.reduceLeDiff, hd2, a1, a2, a3, a4, x1, x2, x3, v1, v2, v3, lcs, rsum_J, true_implies, false_implies, not_true_eq_false, not_false_eq_true]
  refine go_blk [(.iinc 3 4, 0, 0, 0), (.goto (-738), 18, 0, 0)] (by decide +kernel) ?_
  simp only [e_inc_3_4n, e_inc_3_4I, e_inc_3_4R, e_goto, e_nil, nol_n, nol_I, nol_R, rsum_0, rsum_I, rsum_R, ps_s, ps_n, true_and, and_true, Nat.reduceAdd, Nat.reduceLeDiff, hd2, a1, a2, a3, a4, x1, x2, x3, v1, v2, v3, lcs, rsum_J, true_implies, false_implies, not_true_eq_false, not_false_eq_true]
  exact g _ _ hX
theorem law_c23 {l : Launch} {K : KK} {d : Nat} {P : Option AV → Mm → Prop} {N i i1 i2 i3 i4 : Nat} {S : SS} {μ : Mm} (hd1 : 20 ≤ d) (hN : N < 100) (hV : Inv N S) (hC : RC μ S) (hM : RM μ S) (a1 : nI i + 1 = nI i1) (a2 : nI i + 2 = nI i2) (a3 : nI i + 3 = nI i3) (a4 : nI i + 4 = nI i4) (x1 : ix (nI i1) = i1) (x2 : ix (nI i2) = i2) (x3 : ix (nI i3) = i3) (v1 : vp_in (nI i1) (kN K)) (v2 : vp_in (nI i2) (kN K)) (v3 : vp_in (nI i3) (kN K)) (g : ∀ (S' : SS) (μ' : Mm), RR (N + 1) μ' S' → Go l K d 190 18 [some (vR 12 0 1), some (vR 7 0 0), some (vR 8 0 0), some (vI (nI i4))] [] μ' P) : Go l K d 190 739 [some (vR 12 0 1), some (vR 7 0 0), some (vR 8 0 0), some (vI (nI i))] [] μ P := by
  have hd2 : 1 ≤ d := by omega
  refine go_blk [(.aload_n 1, 0, 0, 0), (.invokevirtual 110, 97, 0, 7)] (by decide +kernel) ?_
  simp only [e_al_1, e_iv_7_0, e_nil, nol_n, nol_I, nol_R, rsum_0, rsum_I, rsum_R, ps_s, ps_n, true_and, and_true, Nat.reduceAdd, Nat.reduceLeDiff, hd2, a1, a2, a3, a4, x1, x2, x3, v1, v2, v3, lcs, rsum_J, true_implies, false_implies, not_true_eq_false, not_false_eq_true]
  refine xc_digest hV hC (by omega) (fun μ1 c1 o1 => ?_)
  refine go_blk [(.aload_n 2, 0, 0, 0), (.invokevirtual 114, 177, 0, 8)] (by decide +kernel) ?_
  simp only [e_al_2, e_iv_8_0, e_nil, nol_n, nol_I, nol_R, rsum_0, rsum_I, rsum_R, ps_s, ps_n, true_and, and_true, Nat.reduceAdd, Nat.reduceLeDiff, hd2, a1, a2, a3, a4, x1, x2, x3, v1, v2, v3, lcs, rsum_J, true_implies, false_implies, not_true_eq_false, not_false_eq_true]
  refine xm_digest hV (rm_off hM o1) (by omega) (fun μ2 m2 o2 => ?_)
  have hX : RR (N + 1) μ2 _ := ⟨inv_up hV, rc_off c1 o2, m2⟩
  refine go_blk [(.lcmp, 0, 0, 0), (.ifCond .eq 5, 753, 0, 0)] (by decide +kernel) ?_
  simp only [e_lcmp, e_if_eq, e_nil, nol_n, nol_I, nol_R, rsum_0, rsum_I, rsum_R, ps_s, ps_n, true_and, and_true, Nat.reduceAdd, Nat.reduceLeDiff, hd2, a1, a2, a3, a4, x1, x2, x3, v1, v2, v3, lcs, rsum_J, true_implies, false_implies, not_true_eq_false, not_false_eq_true]
  refine go_blk [(.iinc 3 4, 0, 0, 0), (.goto (-738), 18, 0, 0)] (by decide +kernel) ?_
  simp only [e_inc_3_4n, e_inc_3_4I, e_inc_3_4R, e_goto, e_nil, nol_n, nol_I, nol_R, rsum_0, rsum_I, rsum_R, ps_s, ps_n, true_and, and_true, Nat.reduceAdd, Nat.reduceLeDiff, hd2, a1, a2, a3, a4, x1, x2, x3, v1, v2, v3, lcs, rsum_J, true_implies, false_implies, not_true_eq_false, not_false_eq_true]
  exact g _ _ hX
theorem law_32 {l : Launch} {K : KK} {d : Nat} {P : Option AV → Mm → Prop} {j : Nat} (hj : j < 32) {N i i1 i2 i3 i4 : Nat} {S : SS} {μ : Mm} (hd1 : 20 ≤ d) (hN : N < 100) (hV : Inv N S) (hC : RC μ S) (hM : RM μ S) (a1 : nI i + 1 = nI i1) (a2 : nI i + 2 = nI i2) (a3 : nI i + 3 = nI i3) (a4 : nI i + 4 = nI i4) (x1 : ix (nI i1) = i1) (x2 : ix (nI i2) = i2) (x3 : ix (nI i3) = i3) (v1 : vp_in (nI i1) (kN K)) (v2 : vp_in (nI i2) (kN K)) (v3 : vp_in (nI i3) (kN K)) (g : ∀ (S' : SS) (μ' : Mm), RR (N + 1) μ' S' → Go l K d 190 18 [some (vR 12 0 1), some (vR 7 0 0), some (vR 8 0 0), some (vI (nI i4))] [] μ' P) : Go l K d 190 32 [some (vR 12 0 1), some (vR 7 0 0), some (vR 8 0 0), some (vI (nI i))] [vI (nI j)] μ P := by
  refine go_blk [(.tableswitch 721 0 23 #[112, 135, 148, 171, 184, 197, 230, 273, 306, 339, 372, 405, 464, 477, 500, 543, 566, 579, 592, 615, 658, 671, 684, 707], 0, 0, 0)] (by decide +kernel) ?_
  simp only [e_tsw, e_nil, nol_n, nol_I, nol_R, rsum_0, rsum_I, rsum_R, ps_s, ps_n, true_and, and_true, Nat.reduceAdd, Nat.reduceLeDiff, a4]
  have j24 : j = 0 ∨ j = 1 ∨ j = 2 ∨ j = 3 ∨ j = 4 ∨ j = 5 ∨ j = 6 ∨ j = 7 ∨ j = 8 ∨ j = 9 ∨ j = 10 ∨ j = 11 ∨ j = 12 ∨ j = 13 ∨ j = 14 ∨ j = 15 ∨ j = 16 ∨ j = 17 ∨ j = 18 ∨ j = 19 ∨ j = 20 ∨ j = 21 ∨ j = 22 ∨ j = 23 ∨ 24 ≤ j := by omega
  rcases j24 with jj | jj | jj | jj | jj | jj | jj | jj | jj | jj | jj | jj | jj | jj | jj | jj | jj | jj | jj | jj | jj | jj | jj | jj | jj
  · subst jj
    refine ⟨144, by decide, ?_⟩
    exact law_c0 hd1 hN hV hC hM a1 a2 a3 a4 x1 x2 x3 v1 v2 v3 g
  · subst jj
    refine ⟨167, by decide, ?_⟩
    exact law_c1 hd1 hN hV hC hM a1 a2 a3 a4 x1 x2 x3 v1 v2 v3 g
  · subst jj
    refine ⟨180, by decide, ?_⟩
    exact law_c2 hd1 hN hV hC hM a1 a2 a3 a4 x1 x2 x3 v1 v2 v3 g
  · subst jj
    refine ⟨203, by decide, ?_⟩
    exact law_c3 hd1 hN hV hC hM a1 a2 a3 a4 x1 x2 x3 v1 v2 v3 g
  · subst jj
    refine ⟨216, by decide, ?_⟩
    exact law_c4 hd1 hN hV hC hM a1 a2 a3 a4 x1 x2 x3 v1 v2 v3 g
  · subst jj
    refine ⟨229, by decide, ?_⟩
    exact law_c5 hd1 hN hV hC hM a1 a2 a3 a4 x1 x2 x3 v1 v2 v3 g
  · subst jj
    refine ⟨262, by decide, ?_⟩
    exact law_c6 hd1 hN hV hC hM a1 a2 a3 a4 x1 x2 x3 v1 v2 v3 g
  · subst jj
    refine ⟨305, by decide, ?_⟩
    exact law_c7 hd1 hN hV hC hM a1 a2 a3 a4 x1 x2 x3 v1 v2 v3 g
  · subst jj
    refine ⟨338, by decide, ?_⟩
    exact law_c8 hd1 hN hV hC hM a1 a2 a3 a4 x1 x2 x3 v1 v2 v3 g
  · subst jj
    refine ⟨371, by decide, ?_⟩
    exact law_c9 hd1 hN hV hC hM a1 a2 a3 a4 x1 x2 x3 v1 v2 v3 g
  · subst jj
    refine ⟨404, by decide, ?_⟩
    exact law_c10 hd1 hN hV hC hM a1 a2 a3 a4 x1 x2 x3 v1 v2 v3 g
  · subst jj
    refine ⟨437, by decide, ?_⟩
    exact law_c11 hd1 hN hV hC hM a1 a2 a3 a4 x1 x2 x3 v1 v2 v3 g
  · subst jj
    refine ⟨496, by decide, ?_⟩
    exact law_c12 hd1 hN hV hC hM a1 a2 a3 a4 x1 x2 x3 v1 v2 v3 g
  · subst jj
    refine ⟨509, by decide, ?_⟩
    exact law_c13 hd1 hN hV hC hM a1 a2 a3 a4 x1 x2 x3 v1 v2 v3 g
  · subst jj
    refine ⟨532, by decide, ?_⟩
    exact law_c14 hd1 hN hV hC hM a1 a2 a3 a4 x1 x2 x3 v1 v2 v3 g
  · subst jj
    refine ⟨575, by decide, ?_⟩
    exact law_c15 hd1 hN hV hC hM a1 a2 a3 a4 x1 x2 x3 v1 v2 v3 g
  · subst jj
    refine ⟨598, by decide, ?_⟩
    exact law_c16 hd1 hN hV hC hM a1 a2 a3 a4 x1 x2 x3 v1 v2 v3 g
  · subst jj
    refine ⟨611, by decide, ?_⟩
    exact law_c17 hd1 hN hV hC hM a1 a2 a3 a4 x1 x2 x3 v1 v2 v3 g
  · subst jj
    refine ⟨624, by decide, ?_⟩
    exact law_c18 hd1 hN hV hC hM a1 a2 a3 a4 x1 x2 x3 v1 v2 v3 g
  · subst jj
    refine ⟨647, by decide, ?_⟩
    exact law_c19 hd1 hN hV hC hM a1 a2 a3 a4 x1 x2 x3 v1 v2 v3 g
  · subst jj
    refine ⟨690, by decide, ?_⟩
    exact law_c20 hd1 hN hV hC hM a1 a2 a3 a4 x1 x2 x3 v1 v2 v3 g
  · subst jj
    refine ⟨703, by decide, ?_⟩
    exact law_c21 hd1 hN hV hC hM a1 a2 a3 a4 x1 x2 x3 v1 v2 v3 g
  · subst jj
    refine ⟨716, by decide, ?_⟩
    exact law_c22 hd1 hN hV hC hM a1 a2 a3 a4 x1 x2 x3 v1 v2 v3 g
  · subst jj
    refine ⟨739, by decide, ?_⟩
    exact law_c23 hd1 hN hV hC hM a1 a2 a3 a4 x1 x2 x3 v1 v2 v3 g
  · refine ⟨753, sw_df (n := 23) (Or.inr (by rw [nI_toInt (by omega)]; omega)) (by decide), ?_⟩
    have hX : RR (N + 1) μ S := ⟨inv_up hV, hC, hM⟩
    refine go_blk [(.iinc 3 4, 0, 0, 0), (.goto (-738), 18, 0, 0)] (by decide +kernel) ?_
    simp only [e_inc_3_4n, e_inc_3_4I, e_inc_3_4R, e_goto, e_nil, nol_n, nol_I, nol_R, rsum_0, rsum_I, rsum_R, ps_s, ps_n, true_and, and_true, Nat.reduceAdd, Nat.reduceLeDiff, a4]
    exact g _ _ hX
theorem lp_law {l : Launch} {K : KK} {d : Nat} {P : Option AV → Mm → Prop} (hL : kN K ≤ 256) (hd1 : 20 ≤ d) (hP : ∀ μ, P (some (vI 1)) μ) : ∀ (r N : Nat) (S : SS) (μ : Mm), N + r = 66 → 4 * N ≤ kN K + 3 → RR N μ S → Go l K d 190 18 [some (vR 12 0 1), some (vR 7 0 0), some (vR 8 0 0), some (vI (nI (4 * N)))] [] μ P := by
  have hd2 : 1 ≤ d := by omega
  intro r
  induction r with
  | zero =>
    intro N S μ hN h4 hR
    omega
  | succ r ih =>
    intro N S μ hN h4 hR
    obtain ⟨hV, hC, hM⟩ := hR
    have s4 : (nI (kN K) - 4).toInt = (kN K : Int) - 4 := pk_sub_toInt (b := 4) (by omega) (by omega)
    obtain ⟨i, hi⟩ : ∃ z, z = 4 * N := ⟨_, rfl⟩
    obtain ⟨i1, hi1⟩ : ∃ z, z = 4 * N + 1 := ⟨_, rfl⟩
    obtain ⟨i2, hi2⟩ : ∃ z, z = 4 * N + 2 := ⟨_, rfl⟩
    obtain ⟨i3, hi3⟩ : ∃ z, z = 4 * N + 3 := ⟨_, rfl⟩
    obtain ⟨i4, hi4⟩ : ∃ z, z = 4 * (N + 1) := ⟨_, rfl⟩
    rw [← hi]
    have a1 : nI i + 1 = nI i1 := by rw [hi, hi1]; exact nI_add _ 1
    have a2 : nI i + 2 = nI i2 := by rw [hi, hi2]; exact nI_add _ 2
    have a3 : nI i + 3 = nI i3 := by rw [hi, hi3]; exact nI_add _ 3
    have a4 : nI i + 4 = nI i4 := by rw [hi, hi4]; exact nI_add _ 4
    have x0 : ix (nI i) = i := nI_ix (by omega)
    have x1 : ix (nI i1) = i1 := nI_ix (by omega)
    have x2 : ix (nI i2) = i2 := nI_ix (by omega)
    have x3 : ix (nI i3) = i3 := nI_ix (by omega)
    have g := fun (S' : SS) (μ' : Mm) (q : RR (N + 1) μ' S') (q4 : 4 * (N + 1) ≤ kN K + 3) => ih (N + 1) S' μ' (by omega) q4 q
    rw [← hi4] at g
    refine go_blk [(.iload_n 3, 0, 0, 0), (.aload_n 0, 0, 0, 0), (.arraylength, 12, 0, 0), (.iconst 4, 0, 0, 0)] (by decide +kernel) ?_
    simp only [e_il_3, e_al_0, e_lnX, e_ic_4, e_nil, nol_n, nol_I, nol_R, rsum_0, rsum_I, rsum_R, ps_s, ps_n, true_and, and_true, Nat.reduceAdd, Nat.reduceLeDiff, x0]
    refine go_blk [(.isub, 0, 0, 0)] (by decide +kernel) ?_
    simp only [e_isub, e_nil, nol_n, nol_I, nol_R, rsum_0, rsum_I, rsum_R, ps_s, ps_n, true_and, and_true, Nat.reduceAdd, Nat.reduceLeDiff, x0]
    refine go_blk [(.if_icmp .gt 736, 759, 0, 0)] (by decide +kernel) ?_
    simp only [e_icmp_gt, e_nil, nol_n, nol_I, nol_R, rsum_0, rsum_I, rsum_R, ps_s, ps_n, true_and, and_true, Nat.reduceAdd, Nat.reduceLeDiff, x0]
    refine ⟨fun c23 => ?_, fun c23 => ?_⟩
    · refine go_blk [(.iconst 1, 0, 0, 0), (.ireturn, 1, 0, 0)] (by decide +kernel) ?_
      simp only [e_ic_1, e_iret1, e_nil, nol_n, nol_I, nol_R, rsum_0, rsum_I, rsum_R, ps_s, ps_n, true_and, and_true, Nat.reduceAdd, Nat.reduceLeDiff, x0]
      exact ⟨Or.inr trivial, hP μ⟩
    · have hl : i + 4 ≤ kN K := by
        have z : ¬ (nI (kN K) - 4).toInt < (nI i).toInt := fun z => c23 (Int32.lt_iff_toInt_lt.mpr z)
        rw [s4, nI_toInt (by omega)] at z
        omega
      have v0 : vp_in (nI i) (kN K) := vin (by omega) (by omega)
      have v1 : vp_in (nI i1) (kN K) := vin (by omega) (by omega)
      have v2 : vp_in (nI i2) (kN K) := vin (by omega) (by omega)
      have v3 : vp_in (nI i3) (kN K) := vin (by omega) (by omega)
      obtain ⟨j, hj, ej⟩ := pk_andE (kX K i) (m := 31) 5 (by decide)
      refine go_blk [(.aload_n 0, 0, 0, 0), (.iload_n 3, 0, 0, 0)] (by decide +kernel) ?_
      simp only [e_al_0, e_il_3, e_nil, nol_n, nol_I, nol_R, rsum_0, rsum_I, rsum_R, ps_s, ps_n, true_and, and_true, Nat.reduceAdd, Nat.reduceLeDiff, x0, v0, ej]
      refine go_blk [(.iaload, 12, 0, 0)] (by decide +kernel) ?_
      simp only [e_iaX, e_nil, nol_n, nol_I, nol_R, rsum_0, rsum_I, rsum_R, ps_s, ps_n, true_and, and_true, Nat.reduceAdd, Nat.reduceLeDiff, x0, v0, ej]
      refine go_blk [(.bipush 31, 0, 0, 0)] (by decide +kernel) ?_
      simp only [e_bp_31, e_nil, nol_n, nol_I, nol_R, rsum_0, rsum_I, rsum_R, ps_s, ps_n, true_and, and_true, Nat.reduceAdd, Nat.reduceLeDiff, x0, v0, ej]
      refine go_blk [(.iand, 0, 0, 0)] (by decide +kernel) ?_
      simp only [e_iand, e_nil, nol_n, nol_I, nol_R, rsum_0, rsum_I, rsum_R, ps_s, ps_n, true_and, and_true, Nat.reduceAdd, Nat.reduceLeDiff, x0, v0, ej]
      exact law_32 hj hd1 (by omega) hV hC hM a1 a2 a3 a4 x1 x2 x3 v1 v2 v3 (fun S0 m0 q => g S0 m0 q (by omega))
