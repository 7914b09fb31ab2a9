theorem ok_bitCount {l : Launch} {K : KK} {d : Nat} {μ : Mm} {P : Option AV → Mm → Prop} {m : Nat} (hm : m < 32768) (h : P (some (vI (nI (pop m)))) μ) : Ok l K d 178 [vI (nI m)] μ P := by
  refine ok_go 1 (by decide +kernel) [some (vI (nI m))] rfl (Nat.le_of_ble_eq_true rfl) ?_
  refine go_blk [(.iload_n 0, 0, 0, 0), (.iload_n 0, 0, 0, 0), (.iconst 1, 0, 0, 0), (.iushr, 0, 0, 0), (.ldc_w 265, 0, 0, 1431655765), (.iand, 0, 0, 0), (.isub, 0, 0, 0), (.istore_n 0, 0, 0, 0), (.iload_n 0, 0, 0, 0), (.ldc_w 266, 0, 0, 858993459), (.iand, 0, 0, 0), (.iload_n 0, 0, 0, 0), (.iconst 2, 0, 0, 0), (.iushr, 0, 0, 0), (.ldc_w 266, 0, 0, 858993459), (.iand, 0, 0, 0), (.iadd, 0, 0, 0), (.istore_n 0, 0, 0, 0), (.iload_n 0, 0, 0, 0), (.iload_n 0, 0, 0, 0), (.iconst 4, 0, 0, 0), (.iushr, 0, 0, 0), (.iadd, 0, 0, 0), (.ldc_w 267, 0, 0, 252645135), (.iand, 0, 0, 0), (.istore_n 0, 0, 0, 0), (.iload_n 0, 0, 0, 0), (.iload_n 0, 0, 0, 0), (.bipush 8, 0, 0, 0), (.iushr, 0, 0, 0), (.iadd, 0, 0, 0), (.istore_n 0, 0, 0, 0), (.iload_n 0, 0, 0, 0), (.iload_n 0, 0, 0, 0), (.bipush 16, 0, 0, 0), (.iushr, 0, 0, 0), (.iadd, 0, 0, 0), (.istore_n 0, 0, 0, 0), (.iload_n 0, 0, 0, 0), (.bipush 63, 0, 0, 0), (.iand, 0, 0, 0), (.ireturn, 0, 0, 0)] (by decide +kernel) ?_
  simp only [e_il_0, e_ic_1, e_iushr, e_ldw_1431655765, e_iand, e_isub, e_is_0, e_ldw_858993459, e_ic_2, e_iadd, e_ic_4, e_ldw_252645135, e_bp_8, e_bp_16, e_bp_63, e_iret0, e_nil, nol_n, nol_I, nol_R, rsum_0, rsum_I, rsum_R, ps_s, ps_n, true_and, and_true, Nat.reduceAdd, Nat.reduceLeDiff]
  rw [← (bc_ok hm).1] at h
  exact h
def ixL (q : Nat) : Nat → Nat → Int32
  | 0, _ => -1
  | k + 1, j => if sby.getD j 0 = nI q then nI j else ixL q k (j + 1)
/-- the place of a letter in "odntg" -/
def ixT (q : Nat) : Int32 := if q = 111 then 0 else if q = 100 then 1 else if q = 110 then 2 else if q = 116 then 3 else if q = 103 then 4 else -1
theorem ix_ok : ∀ q, q < 128 → ixL q 5 0 = ixT q ∧ (nI q).toInt8.toInt32 = nI q := by decide +kernel
theorem lp_ixc {l : Launch} {K : KK} {d : Nat} {μ : Mm} {P : Option AV → Mm → Prop} {q : Nat} {a1 : Int32} : ∀ (k j : Nat), j + k = 5 → P (some (vI (ixL q k j))) μ → Go l K d 189 7 [some (vR 11 0 1), some (vI a1), some (vI 0), some (vI 5), some (vI (nI q)), some (vI (nI j))] [] μ P := by
  intro k
  induction k with
  | zero =>
    intro j hj h
    have e5 : j = 5 := by omega
    subst e5
    refine go_blk [(.iload 5, 0, 0, 0), (.iload_n 3, 0, 0, 0), (.if_icmp .ge 21, 31, 0, 0)] (by decide +kernel) ?_
    simp only [e_ilw_5, e_il_3, e_icmp_ge, e_nil, nol_n, nol_I, nol_R, rsum_0, rsum_I, rsum_R, ps_s, ps_n, true_and, and_true, Nat.reduceAdd, Nat.reduceLeDiff]
    refine ⟨fun c10 => ?_, fun c10 => ?_⟩
    · refine go_blk [(.iconst (-1), 0, 0, 0), (.ireturn, 0, 0, 0)] (by decide +kernel) ?_
      simp only [e_ic_m1, e_iret0, e_nil, nol_n, nol_I, nol_R, rsum_0, rsum_I, rsum_R, ps_s, ps_n, true_and, and_true, Nat.reduceAdd, Nat.reduceLeDiff]
      exact h
    · exact absurd (by decide) c10
  | succ k ih =>
    intro j hj h
    have hv : vp_in (nI j) 5 := vp_in_nI (by omega) (by omega)
    have hx : ix (nI j) = j := nI_clamp (by omega)
    refine go_blk [(.iload 5, 0, 0, 0), (.iload_n 3, 0, 0, 0), (.if_icmp .ge 21, 31, 0, 0)] (by decide +kernel) ?_
    simp only [e_ilw_5, e_il_3, e_icmp_ge, e_nil, nol_n, nol_I, nol_R, rsum_0, rsum_I, rsum_R, ps_s, ps_n, true_and, and_true, Nat.reduceAdd, Nat.reduceLeDiff, hv, hx]
    refine ⟨fun c10 => ?_, fun c10 => ?_⟩
    · exact absurd c10 (nI_ge (a := j) (b := 5) (by omega) (by omega))
    · refine go_blk [(.aload_n 0, 0, 0, 0), (.iload 5, 0, 0, 0), (.baload, 11, 0, 0), (.iload 4, 0, 0, 0), (.if_icmp .ne 6, 25, 0, 0)] (by decide +kernel) ?_
      simp only [e_al_0, e_ilw_5, e_bs, e_ilw_4, e_icmp_ne, e_nil, nol_n, nol_I, nol_R, rsum_0, rsum_I, rsum_R, ps_s, ps_n, true_and, and_true, Nat.reduceAdd, Nat.reduceLeDiff, hv, hx]
      refine ⟨fun c19 => ?_, fun c19 => ?_⟩
      · refine go_blk [(.iinc 5 1, 0, 0, 0), (.goto (-21), 7, 0, 0)] (by decide +kernel) ?_
        simp only [e_inc_5_1n, e_inc_5_1I, e_inc_5_1R, e_goto, e_nil, nol_n, nol_I, nol_R, rsum_0, rsum_I, rsum_R, ps_s, ps_n, true_and, and_true, Nat.reduceAdd, Nat.reduceLeDiff, hv, hx]
        rw [ixL, if_neg c19] at h
        rw [nI_1]
        exact ih (j + 1) (by omega) h
      · refine go_blk [(.iload 5, 0, 0, 0), (.ireturn, 0, 0, 0)] (by decide +kernel) ?_
        simp only [e_ilw_5, e_iret0, e_nil, nol_n, nol_I, nol_R, rsum_0, rsum_I, rsum_R, ps_s, ps_n, true_and, and_true, Nat.reduceAdd, Nat.reduceLeDiff, hv, hx]
        rw [ixL, if_pos c19] at h
        exact h
theorem ok_indexOfChar {l : Launch} {K : KK} {d : Nat} {μ : Mm} {P : Option AV → Mm → Prop} {q : Nat} (hq : q < 128) (h : P (some (vI (ixT q))) μ) : Ok l K d 189 [vR 11 0 1, vI (nI q), vI 0, vI 5] μ P := by
  refine ok_go 6 (by decide +kernel) [some (vR 11 0 1), some (vI (nI q)), some (vI 0), some (vI 5), none, none] rfl (Nat.le_of_ble_eq_true rfl) ?_
  refine go_blk [(.iload_n 1, 0, 0, 0), (.i2b, 0, 0, 0), (.istore 4, 0, 0, 0), (.iload_n 2, 0, 0, 0), (.istore 5, 0, 0, 0)] (by decide +kernel) ?_
  simp only [e_il_1, e_i2b, e_isw_4n, e_isw_4I, e_isw_4R, e_il_2, e_isw_5n, e_isw_5I, e_isw_5R, e_nil, nol_n, nol_I, nol_R, rsum_0, rsum_I, rsum_R, ps_s, ps_n, true_and, and_true, Nat.reduceAdd, Nat.reduceLeDiff, (ix_ok q hq).2]
  rw [← (ix_ok q hq).1] at h
  exact lp_ixc 5 0 rfl h
theorem ok_canEncode {l : Launch} {K : KK} {d : Nat} {μ : Mm} {P : Option AV → Mm → Prop} {q : Nat} (hq : q < 128) (h : P (some (vI 1)) μ) : Ok l K d 187 [vI (nI q)] μ P := by
  refine ok_go 1 (by decide +kernel) [some (vI (nI q))] rfl (Nat.le_of_ble_eq_true rfl) ?_
  refine go_blk [(.iload_n 0, 0, 0, 0), (.ifCond .lt 14, 15, 0, 0)] (by decide +kernel) ?_
  simp only [e_il_0, e_if_lt, e_nil, nol_n, nol_I, nol_R, rsum_0, rsum_I, rsum_R, ps_s, ps_n, true_and, and_true, Nat.reduceAdd, Nat.reduceLeDiff]
  refine ⟨fun c1 => ?_, fun c1 => ?_⟩
  · exact absurd c1 (nI_pos (by omega))
  · refine go_blk [(.iload_n 0, 0, 0, 0), (.sipush 255, 0, 0, 0), (.if_icmp .gt 7, 15, 0, 0)] (by decide +kernel) ?_
    simp only [e_il_0, e_sp_255, e_icmp_gt, e_nil, nol_n, nol_I, nol_R, rsum_0, rsum_I, rsum_R, ps_s, ps_n, true_and, and_true, Nat.reduceAdd, Nat.reduceLeDiff]
    refine ⟨fun c8 => ?_, fun c8 => ?_⟩
    · exact absurd c8 (nI_nlt (a := 255) (b := q) (by omega) (by omega))
    · refine go_blk [(.iconst 1, 0, 0, 0), (.goto 4, 16, 0, 0), (.ireturn, 1, 0, 0)] (by decide +kernel) ?_
      simp only [e_ic_1, e_goto, e_iret1, e_nil, nol_n, nol_I, nol_R, rsum_0, rsum_I, rsum_R, ps_s, ps_n, true_and, and_true, Nat.reduceAdd, Nat.reduceLeDiff]
      exact ⟨by decide, h⟩
theorem ok_isLatin1 {l : Launch} {K : KK} {d : Nat} {μ : Mm} {P : Option AV → Mm → Prop} (h : P (some (vI 1)) μ) : Ok l K d 186 [vR 11 0 0] μ P := by
  refine ok_go 1 (by decide +kernel) [some (vR 11 0 0)] rfl (Nat.le_of_ble_eq_true rfl) ?_
  refine go_blk [(.getstatic 38, 0, 0, 0), (.ifCond .eq 14, 17, 0, 0)] (by decide +kernel) ?_
  simp only [e_stC, e_if_eq, e_nil, nol_n, nol_I, nol_R, rsum_0, rsum_I, rsum_R, ps_s, ps_n, true_and, and_true, Nat.reduceAdd, Nat.reduceLeDiff]
  refine ⟨fun c3 => ?_, fun c3 => ?_⟩
  · exact absurd c3 (by decide)
  · refine go_blk [(.aload_n 0, 0, 0, 0), (.getfield 15, 11, 1, 0), (.ifCond .ne 7, 17, 0, 0)] (by decide +kernel) ?_
    simp only [e_al_0, e_gs_1, e_if_ne, e_nil, nol_n, nol_I, nol_R, rsum_0, rsum_I, rsum_R, ps_s, ps_n, true_and, and_true, Nat.reduceAdd, Nat.reduceLeDiff]
    refine ⟨fun c10 => ?_, fun c10 => ?_⟩
    · exact absurd trivial c10
    · refine go_blk [(.iconst 1, 0, 0, 0), (.goto 4, 18, 0, 0), (.ireturn, 1, 0, 0)] (by decide +kernel) ?_
      simp only [e_ic_1, e_goto, e_iret1, e_nil, nol_n, nol_I, nol_R, rsum_0, rsum_I, rsum_R, ps_s, ps_n, true_and, and_true, Nat.reduceAdd, Nat.reduceLeDiff]
      exact ⟨by decide, h⟩
theorem ok_coder {l : Launch} {K : KK} {d : Nat} {μ : Mm} {P : Option AV → Mm → Prop} (h : P (some (vI 0)) μ) : Ok l K d 185 [vR 11 0 0] μ P := by
  refine ok_go 1 (by decide +kernel) [some (vR 11 0 0)] rfl (Nat.le_of_ble_eq_true rfl) ?_
  refine go_blk [(.getstatic 38, 0, 0, 0), (.ifCond .eq 10, 13, 0, 0)] (by decide +kernel) ?_
  simp only [e_stC, e_if_eq, e_nil, nol_n, nol_I, nol_R, rsum_0, rsum_I, rsum_R, ps_s, ps_n, true_and, and_true, Nat.reduceAdd, Nat.reduceLeDiff]
  refine ⟨fun c3 => ?_, fun c3 => ?_⟩
  · exact absurd c3 (by decide)
  · refine go_blk [(.aload_n 0, 0, 0, 0), (.getfield 15, 11, 1, 0), (.goto 4, 14, 0, 0), (.ireturn, 1, 0, 0)] (by decide +kernel) ?_
    simp only [e_al_0, e_gs_1, e_goto, e_iret1, e_nil, nol_n, nol_I, nol_R, rsum_0, rsum_I, rsum_R, ps_s, ps_n, true_and, and_true, Nat.reduceAdd, Nat.reduceLeDiff]
    exact ⟨by decide, h⟩
theorem ok_length {l : Launch} {K : KK} {d : Nat} {μ : Mm} {P : Option AV → Mm → Prop} (hd1 : 1 ≤ d) (h : P (some (vI 5)) μ) : Ok l K d 182 [vR 11 0 0] μ P := by
  refine ok_go 1 (by decide +kernel) [some (vR 11 0 0)] rfl (Nat.le_of_ble_eq_true rfl) ?_
  refine go_blk [(.aload_n 0, 0, 0, 0), (.getfield 9, 11, 0, 0), (.arraylength, 11, 0, 0), (.aload_n 0, 0, 0, 0), (.invokevirtual 335, 185, 0, 11)] (by decide +kernel) ?_
  simp only [e_al_0, e_gs_0, e_lnS, e_iv_11_0, e_nil, nol_n, nol_I, nol_R, rsum_0, rsum_I, rsum_R, ps_s, ps_n, true_and, and_true, Nat.reduceAdd, Nat.reduceLeDiff, hd1]
  refine ok_coder ?_
  refine go_blk [(.ishr, 0, 0, 0), (.ireturn, 0, 0, 0)] (by decide +kernel) ?_
  simp only [e_ishr, e_iret0, e_nil, nol_n, nol_I, nol_R, rsum_0, rsum_I, rsum_R, ps_s, ps_n, true_and, and_true, Nat.reduceAdd, Nat.reduceLeDiff, hd1]
  exact h
theorem ok_indexOf1 {l : Launch} {K : KK} {d : Nat} {μ : Mm} {P : Option AV → Mm → Prop} {q : Nat} (hq : q < 128) (hd1 : 1 ≤ d) (h : P (some (vI (ixT q))) μ) : Ok l K d 188 [vR 11 0 1, vI (nI q), vI 0, vI 5] μ P := by
  refine ok_go 4 (by decide +kernel) [some (vR 11 0 1), some (vI (nI q)), some (vI 0), some (vI 5)] rfl (Nat.le_of_ble_eq_true rfl) ?_
  refine go_blk [(.iload_n 1, 0, 0, 0), (.invokestatic 88, 187, 1, 0)] (by decide +kernel) ?_
  simp only [e_il_1, e_ivs_1, e_nil, Nat.reduceLT, nol_n, nol_I, nol_R, rsum_0, rsum_I, rsum_R, ps_s, ps_n, true_and, and_true, Nat.reduceAdd, Nat.reduceLeDiff, hd1, (show mxI 0 0 = 0 by decide), (show mnI 5 5 = 5 by decide)]
  refine ok_canEncode hq ?_
  refine go_blk [(.ifCond .ne 5, 9, 0, 0)] (by decide +kernel) ?_
  simp only [e_if_ne, e_nil, nol_n, nol_I, nol_R, rsum_0, rsum_I, rsum_R, ps_s, ps_n, true_and, and_true, Nat.reduceAdd, Nat.reduceLeDiff, hd1, (show mxI 0 0 = 0 by decide), (show mnI 5 5 = 5 by decide)]
  refine ⟨fun c4 => ?_, fun c4 => ?_⟩
  · refine go_blk [(.iload_n 2, 0, 0, 0), (.iconst 0, 0, 0, 0), (.invokestatic 92, 1001, 0, 0), (.istore_n 2, 0, 0, 0), (.iload_n 3, 0, 0, 0), (.aload_n 0, 0, 0, 0), (.arraylength, 11, 0, 0), (.invokestatic 38, 1002, 0, 0), (.istore_n 3, 0, 0, 0), (.iload_n 2, 0, 0, 0), (.iload_n 3, 0, 0, 0), (.if_icmp .lt 5, 29, 0, 0)] (by decide +kernel) ?_
    simp only [e_il_2, e_ic_0, e_mt_1, e_is_2n, e_is_2I, e_is_2R, e_il_3, e_al_0, e_lnS, e_mt_2, e_is_3n, e_is_3I, e_is_3R, e_icmp_lt, e_nil, nol_n, nol_I, nol_R, rsum_0, rsum_I, rsum_R, ps_s, ps_n, true_and, and_true, Nat.reduceAdd, Nat.reduceLeDiff, hd1, (show mxI 0 0 = 0 by decide), (show mnI 5 5 = 5 by decide)]
    refine ⟨fun c24 => ?_, fun c24 => ?_⟩
    · refine go_blk [(.aload_n 0, 0, 0, 0), (.iload_n 1, 0, 0, 0), (.iload_n 2, 0, 0, 0), (.iload_n 3, 0, 0, 0), (.invokestatic 95, 189, 4, 0)] (by decide +kernel) ?_
      simp only [e_al_0, e_il_1, e_il_2, e_il_3, e_ivs_4, e_nil, Nat.reduceLT, nol_n, nol_I, nol_R, rsum_0, rsum_I, rsum_R, ps_s, ps_n, true_and, and_true, Nat.reduceAdd, Nat.reduceLeDiff, hd1, (show mxI 0 0 = 0 by decide), (show mnI 5 5 = 5 by decide)]
      refine ok_indexOfChar hq ?_
      refine go_blk [(.ireturn, 0, 0, 0)] (by decide +kernel) ?_
      simp only [e_iret0, e_nil, nol_n, nol_I, nol_R, rsum_0, rsum_I, rsum_R, ps_s, ps_n, true_and, and_true, Nat.reduceAdd, Nat.reduceLeDiff, hd1, (show mxI 0 0 = 0 by decide), (show mnI 5 5 = 5 by decide)]
      exact h
    · exact absurd (by decide) c24
  · exact absurd c4 (by decide)
theorem ok_indexOf2 {l : Launch} {K : KK} {d : Nat} {μ : Mm} {P : Option AV → Mm → Prop} {q : Nat} (hq : q < 128) (hd1 : 2 ≤ d) (h : P (some (vI (ixT q))) μ) : Ok l K d 184 [vR 11 0 0, vI (nI q), vI 0] μ P := by
  refine ok_go 3 (by decide +kernel) [some (vR 11 0 0), some (vI (nI q)), some (vI 0)] rfl (Nat.le_of_ble_eq_true rfl) ?_
  have hd2 : 1 ≤ d := by omega
  refine go_blk [(.aload_n 0, 0, 0, 0), (.invokevirtual 492, 186, 0, 11)] (by decide +kernel) ?_
  simp only [e_al_0, e_iv_11_0, e_nil, nol_n, nol_I, nol_R, rsum_0, rsum_I, rsum_R, ps_s, ps_n, true_and, and_true, Nat.reduceAdd, Nat.reduceLeDiff, hd2]
  refine ok_isLatin1 ?_
  refine go_blk [(.ifCond .eq 19, 23, 0, 0)] (by decide +kernel) ?_
  simp only [e_if_eq, e_nil, nol_n, nol_I, nol_R, rsum_0, rsum_I, rsum_R, ps_s, ps_n, true_and, and_true, Nat.reduceAdd, Nat.reduceLeDiff, hd2]
  refine ⟨fun c4 => ?_, fun c4 => ?_⟩
  · exact absurd c4 (by decide)
  · refine go_blk [(.aload_n 0, 0, 0, 0), (.getfield 9, 11, 0, 0), (.iload_n 1, 0, 0, 0), (.iload_n 2, 0, 0, 0), (.aload_n 0, 0, 0, 0), (.invokevirtual 505, 182, 0, 11)] (by decide +kernel) ?_
    simp only [e_al_0, e_gs_0, e_il_1, e_il_2, e_iv_11_0, e_nil, nol_n, nol_I, nol_R, rsum_0, rsum_I, rsum_R, ps_s, ps_n, true_and, and_true, Nat.reduceAdd, Nat.reduceLeDiff, hd2]
    refine ok_length (by omega) ?_
    refine go_blk [(.invokestatic 637, 188, 4, 0)] (by decide +kernel) ?_
    simp only [e_ivs_4, e_nil, Nat.reduceLT, nol_n, nol_I, nol_R, rsum_0, rsum_I, rsum_R, ps_s, ps_n, true_and, and_true, Nat.reduceAdd, Nat.reduceLeDiff, hd2]
    refine ok_indexOf1 hq (by omega) ?_
    refine go_blk [(.goto 16, 36, 0, 0), (.ireturn, 0, 0, 0)] (by decide +kernel) ?_
    simp only [e_goto, e_iret0, e_nil, nol_n, nol_I, nol_R, rsum_0, rsum_I, rsum_R, ps_s, ps_n, true_and, and_true, Nat.reduceAdd, Nat.reduceLeDiff, hd2]
    exact h
theorem ok_indexOf {l : Launch} {K : KK} {d : Nat} {μ : Mm} {P : Option AV → Mm → Prop} {q : Nat} (hq : q < 128) (hd1 : 3 ≤ d) (h : P (some (vI (ixT q))) μ) : Ok l K d 183 [vR 11 0 0, vI (nI q)] μ P := by
  refine ok_go 2 (by decide +kernel) [some (vR 11 0 0), some (vI (nI q))] rfl (Nat.le_of_ble_eq_true rfl) ?_
  have hd2 : 1 ≤ d := by omega
  refine go_blk [(.aload_n 0, 0, 0, 0), (.iload_n 1, 0, 0, 0), (.iconst 0, 0, 0, 0), (.invokevirtual 633, 184, 2, 11)] (by decide +kernel) ?_
  simp only [e_al_0, e_il_1, e_ic_0, e_iv_11_2, e_nil, nol_n, nol_I, nol_R, rsum_0, rsum_I, rsum_R, ps_s, ps_n, true_and, and_true, Nat.reduceAdd, Nat.reduceLeDiff, hd2]
  refine ok_indexOf2 hq (by omega) ?_
  refine go_blk [(.ireturn, 0, 0, 0)] (by decide +kernel) ?_
  simp only [e_iret0, e_nil, nol_n, nol_I, nol_R, rsum_0, rsum_I, rsum_R, ps_s, ps_n, true_and, and_true, Nat.reduceAdd, Nat.reduceLeDiff, hd2]
  exact h
