def chB (op : Nat) (t : TS) (a b : Nat) : Bool := stn t a && stn t b && (t 4 a != t 4 b) && decide (0 < t 8 (t 4 a)) && lne (t 5 a) (t 5 b) && !blk op t (btw (t 5 a) (t 5 b))
theorem chS_B {op : Nat} {t : TS} {a b : Nat} (ha : a < t 0 1) (hb : b < t 0 1) : chS op t a b = if chB op t a b then max 1 (10 - (lsK (t 3 a) * dst (t 5 a) (t 5 b) + (if (bsd op).testBit (t 5 b) then 2 else 0))) else 0 := by
  unfold chS chB
  rw [decide_eq_true ha, decide_eq_true hb]
  rfl
theorem bi_eq (x y : Bool) : (bi x = bi y) = (x = y) := by cases x <;> cases y <;> simp [bi]
theorem tm1 : ∀ k, k < 5 → ∀ e, e < 5 → (if (1 : Int32) ≤ 10 - nI e * (if k = 3 then 1 else 2) - 2 then 10 - nI e * (if k = 3 then 1 else 2) - 2 else 1) = nI (max 1 (10 - (lsK k * e + 2))) := by decide +kernel
theorem tm0 : ∀ k, k < 5 → ∀ e, e < 5 → (if (1 : Int32) ≤ 10 - nI e * (if k = 3 then 1 else 2) - 0 then 10 - nI e * (if k = 3 then 1 else 2) - 0 else 1) = nI (max 1 (10 - (lsK k * e + 0))) := by decide +kernel
theorem okm_tenths {l : Launch} {K : KK} {d : Nat} {μ : Mm} {P : Option AV → Mm → Prop} {a b op : Nat} {t : TS} (hI : TInv op t) (hM : MRep μ t) (ho : μ 8 0 0 2 = nI op) (hop : op < 2 ^ 15) (ha : a < t 0 1) (hb : b < t 0 1) (hd1 : 3 ≤ d) (h : P (some (vI (nI (chS op t a b)))) μ) : Ok l K d 132 [vR 8 0 0, vI (nI a), vI (nI b)] μ P := by
  refine ok_go 7 (by decide +kernel) [some (vR 8 0 0), some (vI (nI a)), some (vI (nI b)), none, none, none, none] rfl (Nat.le_of_ble_eq_true rfl) ?_
  have hd2 : 1 ≤ d := by omega
  have hn := hI.1
  have m6 : μ 8 0 0 6 = nI (mSt t) := hM.2.1.1
  have m7 : μ 8 0 0 7 = nI (mSd t) := hM.2.1.2.1
  have m9 := hM.2.2.1
  have m10 := hM.2.2.2
  have l6 := mSt_lt hn
  have l7 := mSd_lt hn
  have sa := mSt_bit ha
  have sb := mSt_bit hb
  have da := mSd_bit ha
  have db := mSd_bit hb
  have ra := hI.2.1 a ha
  have rb := hI.2.1 b hb
  have va : vp_in (nI a) 6 := vin (by omega) (by omega)
  have xa : ix (nI a) = a := nI_ix (by omega)
  have vb : vp_in (nI b) 6 := vin (by omega) (by omega)
  have xb2 : ix (nI b) = b := nI_ix (by omega)
  have k5a := hM.1.2.1 a ha
  have k6a := hM.1.2.2 a ha
  have k6b := hM.1.2.2 b hb
  have p0 := hI.2.2.1 0 (by omega)
  have p1 := hI.2.2.1 1 (by omega)
  have e77a : (nI (t 8 0) = 0) = (t 8 0 = 0) := propext (nI_eq (b := 0) (by omega) (by omega))
  have e77b : (nI (t 8 1) = 0) = (t 8 1 = 0) := propext (nI_eq (b := 0) (by omega) (by omega))
  have e129 : (nI (t 3 a) = 3) = (t 3 a = 3) := propext (nI_eq (b := 3) (by omega) (by omega))
  rw [chS_B ha hb] at h
  refine go_blk [(.aload_n 0, 0, 0, 0), (.getfield 99, 8, 6, 0), (.iload_n 1, 0, 0, 0), (.invokestatic 69, 104, 2, 0)] (by decide +kernel) ?_
  simp only [e_al_0, e_gf_8_6, e_il_1, e_ivs_2, rd_8_6, e_nil, Nat.reduceLT, nol_n, nol_I, nol_R, rsum_0, rsum_I, rsum_R, ps_s, ps_n, true_and, and_true, Nat.reduceAdd, Nat.reduceLeDiff, hd2, m6, m7, m9, m10, va, xa, vb, xb2, k5a, k6a, k6b, e77a, e77b, e129, ho, bi_0, Classical.not_not]
  refine okm_has (by omega) (by omega) ?_
  rw [sa]
  refine go_blk [(.ifCond .eq 37, 45, 0, 0)] (by decide +kernel) ?_
  simp only [e_if_eq, e_nil, nol_n, nol_I, nol_R, rsum_0, rsum_I, rsum_R, ps_s, ps_n, true_and, and_true, Nat.reduceAdd, Nat.reduceLeDiff, hd2, m6, m7, m9, m10, va, xa, vb, xb2, k5a, k6a, k6b, e77a, e77b, e129, ho, bi_0, Classical.not_not]
  refine ⟨fun c8 => ?_, fun c8 => ?_⟩
  · have z : chB op t a b = false := by unfold chB; rw [c8]; simp
    rw [z, if_neg (by decide)] at h
    refine go_blk [(.iconst 0, 0, 0, 0), (.istore_n 3, 0, 0, 0), (.aload_n 0, 0, 0, 0), (.getfield 102, 8, 7, 0), (.iload_n 1, 0, 0, 0), (.invokestatic 69, 104, 2, 0)] (by decide +kernel) ?_
    simp only [e_ic_0, e_is_3n, e_is_3I, e_is_3R, e_al_0, e_gf_8_7, e_il_1, e_ivs_2, rd_8_7, e_nil, Nat.reduceLT, nol_n, nol_I, nol_R, rsum_0, rsum_I, rsum_R, ps_s, ps_n, true_and, and_true, Nat.reduceAdd, Nat.reduceLeDiff, hd2, m6, m7, m9, m10, va, xa, vb, xb2, k5a, k6a, k6b, e77a, e77b, e129, ho, bi_0, Classical.not_not]
    refine okm_has (by omega) (by omega) ?_
    rw [da]
    refine go_blk [(.ifCond .eq 10, 65, 0, 0)] (by decide +kernel) ?_
    simp only [e_if_eq, e_nil, nol_n, nol_I, nol_R, rsum_0, rsum_I, rsum_R, ps_s, ps_n, true_and, and_true, Nat.reduceAdd, Nat.reduceLeDiff, hd2, m6, m7, m9, m10, va, xa, vb, xb2, k5a, k6a, k6b, e77a, e77b, e129, ho, bi_0, Classical.not_not]
    refine ⟨fun c55 => ?_, fun c55 => ?_⟩
    · refine go_blk [(.aload_n 0, 0, 0, 0), (.getfield 83, 8, 9, 0), (.istore 4, 0, 0, 0), (.iload_n 3, 0, 0, 0), (.ifCond .eq 27, 99, 0, 0)] (by decide +kernel) ?_
      simp only [e_al_0, e_gf_8_9, e_isw_4n, e_isw_4I, e_isw_4R, e_il_3, e_if_eq, rd_8_9, e_nil, (show ((0 : Int32) = 0) = True by decide), true_implies, false_implies, not_true_eq_false, not_false_eq_true, nol_n, nol_I, nol_R, rsum_0, rsum_I, rsum_R, ps_s, ps_n, true_and, and_true, Nat.reduceAdd, Nat.reduceLeDiff, hd2, m6, m7, m9, m10, va, xa, vb, xb2, k5a, k6a, k6b, e77a, e77b, e129, ho, bi_0, Classical.not_not]
      refine go_blk [(.iconst 0, 0, 0, 0), (.ireturn, 0, 0, 0)] (by decide +kernel) ?_
      simp only [e_ic_0, e_iret0, e_nil, nol_n, nol_I, nol_R, rsum_0, rsum_I, rsum_R, ps_s, ps_n, true_and, and_true, Nat.reduceAdd, Nat.reduceLeDiff, hd2, m6, m7, m9, m10, va, xa, vb, xb2, k5a, k6a, k6b, e77a, e77b, e129, ho, bi_0, Classical.not_not]
      exact h
    · refine go_blk [(.aload_n 0, 0, 0, 0), (.getfield 86, 8, 10, 0), (.goto 7, 69, 0, 0), (.istore 4, 0, 0, 0), (.iload_n 3, 0, 0, 0), (.ifCond .eq 27, 99, 0, 0)] (by decide +kernel) ?_
      simp only [e_al_0, e_gf_8_10, e_goto, e_isw_4n, e_isw_4I, e_isw_4R, e_il_3, e_if_eq, rd_8_10, e_nil, (show ((0 : Int32) = 0) = True by decide), true_implies, false_implies, not_true_eq_false, not_false_eq_true, nol_n, nol_I, nol_R, rsum_0, rsum_I, rsum_R, ps_s, ps_n, true_and, and_true, Nat.reduceAdd, Nat.reduceLeDiff, hd2, m6, m7, m9, m10, va, xa, vb, xb2, k5a, k6a, k6b, e77a, e77b, e129, ho, bi_0, Classical.not_not]
      refine go_blk [(.iconst 0, 0, 0, 0), (.ireturn, 0, 0, 0)] (by decide +kernel) ?_
      simp only [e_ic_0, e_iret0, e_nil, nol_n, nol_I, nol_R, rsum_0, rsum_I, rsum_R, ps_s, ps_n, true_and, and_true, Nat.reduceAdd, Nat.reduceLeDiff, hd2, m6, m7, m9, m10, va, xa, vb, xb2, k5a, k6a, k6b, e77a, e77b, e129, ho, bi_0, Classical.not_not]
      exact h
  · refine go_blk [(.aload_n 0, 0, 0, 0), (.getfield 99, 8, 6, 0), (.iload_n 2, 0, 0, 0), (.invokestatic 69, 104, 2, 0)] (by decide +kernel) ?_
    simp only [e_al_0, e_gf_8_6, e_il_2, e_ivs_2, rd_8_6, e_nil, Nat.reduceLT, nol_n, nol_I, nol_R, rsum_0, rsum_I, rsum_R, ps_s, ps_n, true_and, and_true, Nat.reduceAdd, Nat.reduceLeDiff, hd2, m6, m7, m9, m10, va, xa, vb, xb2, k5a, k6a, k6b, e77a, e77b, e129, ho, bi_0, Classical.not_not]
    refine okm_has (by omega) (by omega) ?_
    rw [sb]
    refine go_blk [(.ifCond .eq 26, 45, 0, 0)] (by decide +kernel) ?_
    simp only [e_if_eq, e_nil, nol_n, nol_I, nol_R, rsum_0, rsum_I, rsum_R, ps_s, ps_n, true_and, and_true, Nat.reduceAdd, Nat.reduceLeDiff, hd2, m6, m7, m9, m10, va, xa, vb, xb2, k5a, k6a, k6b, e77a, e77b, e129, ho, bi_0, Classical.not_not]
    refine ⟨fun c19 => ?_, fun c19 => ?_⟩
    · have z : chB op t a b = false := by unfold chB; rw [c19]; simp
      rw [z, if_neg (by decide)] at h
      refine go_blk [(.iconst 0, 0, 0, 0), (.istore_n 3, 0, 0, 0), (.aload_n 0, 0, 0, 0), (.getfield 102, 8, 7, 0), (.iload_n 1, 0, 0, 0), (.invokestatic 69, 104, 2, 0)] (by decide +kernel) ?_
      simp only [e_ic_0, e_is_3n, e_is_3I, e_is_3R, e_al_0, e_gf_8_7, e_il_1, e_ivs_2, rd_8_7, e_nil, Nat.reduceLT, nol_n, nol_I, nol_R, rsum_0, rsum_I, rsum_R, ps_s, ps_n, true_and, and_true, Nat.reduceAdd, Nat.reduceLeDiff, hd2, m6, m7, m9, m10, va, xa, vb, xb2, k5a, k6a, k6b, e77a, e77b, e129, ho, bi_0, Classical.not_not]
      refine okm_has (by omega) (by omega) ?_
      rw [da]
      refine go_blk [(.ifCond .eq 10, 65, 0, 0)] (by decide +kernel) ?_
      simp only [e_if_eq, e_nil, nol_n, nol_I, nol_R, rsum_0, rsum_I, rsum_R, ps_s, ps_n, true_and, and_true, Nat.reduceAdd, Nat.reduceLeDiff, hd2, m6, m7, m9, m10, va, xa, vb, xb2, k5a, k6a, k6b, e77a, e77b, e129, ho, bi_0, Classical.not_not]
      refine ⟨fun c55 => ?_, fun c55 => ?_⟩
      · refine go_blk [(.aload_n 0, 0, 0, 0), (.getfield 83, 8, 9, 0), (.istore 4, 0, 0, 0), (.iload_n 3, 0, 0, 0), (.ifCond .eq 27, 99, 0, 0)] (by decide +kernel) ?_
        simp only [e_al_0, e_gf_8_9, e_isw_4n, e_isw_4I, e_isw_4R, e_il_3, e_if_eq, rd_8_9, e_nil, (show ((0 : Int32) = 0) = True by decide), true_implies, false_implies, not_true_eq_false, not_false_eq_true, nol_n, nol_I, nol_R, rsum_0, rsum_I, rsum_R, ps_s, ps_n, true_and, and_true, Nat.reduceAdd, Nat.reduceLeDiff, hd2, m6, m7, m9, m10, va, xa, vb, xb2, k5a, k6a, k6b, e77a, e77b, e129, ho, bi_0, Classical.not_not]
        refine go_blk [(.iconst 0, 0, 0, 0), (.ireturn, 0, 0, 0)] (by decide +kernel) ?_
        simp only [e_ic_0, e_iret0, e_nil, nol_n, nol_I, nol_R, rsum_0, rsum_I, rsum_R, ps_s, ps_n, true_and, and_true, Nat.reduceAdd, Nat.reduceLeDiff, hd2, m6, m7, m9, m10, va, xa, vb, xb2, k5a, k6a, k6b, e77a, e77b, e129, ho, bi_0, Classical.not_not]
        exact h
      · refine go_blk [(.aload_n 0, 0, 0, 0), (.getfield 86, 8, 10, 0), (.goto 7, 69, 0, 0), (.istore 4, 0, 0, 0), (.iload_n 3, 0, 0, 0), (.ifCond .eq 27, 99, 0, 0)] (by decide +kernel) ?_
        simp only [e_al_0, e_gf_8_10, e_goto, e_isw_4n, e_isw_4I, e_isw_4R, e_il_3, e_if_eq, rd_8_10, e_nil, (show ((0 : Int32) = 0) = True by decide), true_implies, false_implies, not_true_eq_false, not_false_eq_true, nol_n, nol_I, nol_R, rsum_0, rsum_I, rsum_R, ps_s, ps_n, true_and, and_true, Nat.reduceAdd, Nat.reduceLeDiff, hd2, m6, m7, m9, m10, va, xa, vb, xb2, k5a, k6a, k6b, e77a, e77b, e129, ho, bi_0, Classical.not_not]
        refine go_blk [(.iconst 0, 0, 0, 0), (.ireturn, 0, 0, 0)] (by decide +kernel) ?_
        simp only [e_ic_0, e_iret0, e_nil, nol_n, nol_I, nol_R, rsum_0, rsum_I, rsum_R, ps_s, ps_n, true_and, and_true, Nat.reduceAdd, Nat.reduceLeDiff, hd2, m6, m7, m9, m10, va, xa, vb, xb2, k5a, k6a, k6b, e77a, e77b, e129, ho, bi_0, Classical.not_not]
        exact h
    · refine go_blk [(.aload_n 0, 0, 0, 0), (.getfield 102, 8, 7, 0), (.iload_n 1, 0, 0, 0), (.invokestatic 69, 104, 2, 0)] (by decide +kernel) ?_
      simp only [e_al_0, e_gf_8_7, e_il_1, e_ivs_2, rd_8_7, e_nil, Nat.reduceLT, nol_n, nol_I, nol_R, rsum_0, rsum_I, rsum_R, ps_s, ps_n, true_and, and_true, Nat.reduceAdd, Nat.reduceLeDiff, hd2, m6, m7, m9, m10, va, xa, vb, xb2, k5a, k6a, k6b, e77a, e77b, e129, ho, bi_0, Classical.not_not]
      refine okm_has (by omega) (by omega) ?_
      rw [da]
      refine go_blk [(.aload_n 0, 0, 0, 0), (.getfield 102, 8, 7, 0), (.iload_n 2, 0, 0, 0), (.invokestatic 69, 104, 2, 0)] (by decide +kernel) ?_
      simp only [e_al_0, e_gf_8_7, e_il_2, e_ivs_2, rd_8_7, e_nil, Nat.reduceLT, nol_n, nol_I, nol_R, rsum_0, rsum_I, rsum_R, ps_s, ps_n, true_and, and_true, Nat.reduceAdd, Nat.reduceLeDiff, hd2, m6, m7, m9, m10, va, xa, vb, xb2, k5a, k6a, k6b, e77a, e77b, e129, ho, bi_0, Classical.not_not]
      refine okm_has (by omega) (by omega) ?_
      rw [db]
      have e38 : (bi (t 4 a == 1) = bi (t 4 b == 1)) = (t 4 a = t 4 b) := by
        rw [bi_eq]
        apply propext
        constructor
        · intro z
          have : (t 4 a = 1) ↔ (t 4 b = 1) := by
            rw [← beq_iff_eq (a := t 4 a), ← beq_iff_eq (a := t 4 b), z]
          omega
        · intro z; rw [z]
      refine go_blk [(.if_icmp .eq 7, 45, 0, 0)] (by decide +kernel) ?_
      simp only [e_icmp_eq, e_nil, nol_n, nol_I, nol_R, rsum_0, rsum_I, rsum_R, ps_s, ps_n, true_and, and_true, Nat.reduceAdd, Nat.reduceLeDiff, hd2, m6, m7, m9, m10, va, xa, vb, xb2, k5a, k6a, k6b, e77a, e77b, e129, ho, bi_0, Classical.not_not, e38]
      refine ⟨fun c38 => ?_, fun c38 => ?_⟩
      · have z : chB op t a b = false := by unfold chB; rw [show (t 4 a != t 4 b) = false from bne_eq_false_iff_eq.mpr c38]; simp
        rw [z, if_neg (by decide)] at h
        refine go_blk [(.iconst 0, 0, 0, 0), (.istore_n 3, 0, 0, 0), (.aload_n 0, 0, 0, 0), (.getfield 102, 8, 7, 0), (.iload_n 1, 0, 0, 0), (.invokestatic 69, 104, 2, 0)] (by decide +kernel) ?_
        simp only [e_ic_0, e_is_3n, e_is_3I, e_is_3R, e_al_0, e_gf_8_7, e_il_1, e_ivs_2, rd_8_7, e_nil, Nat.reduceLT, nol_n, nol_I, nol_R, rsum_0, rsum_I, rsum_R, ps_s, ps_n, true_and, and_true, Nat.reduceAdd, Nat.reduceLeDiff, hd2, m6, m7, m9, m10, va, xa, vb, xb2, k5a, k6a, k6b, e77a, e77b, e129, ho, bi_0, Classical.not_not, e38]
        refine okm_has (by omega) (by omega) ?_
        rw [da]
        refine go_blk [(.ifCond .eq 10, 65, 0, 0)] (by decide +kernel) ?_
        simp only [e_if_eq, e_nil, nol_n, nol_I, nol_R, rsum_0, rsum_I, rsum_R, ps_s, ps_n, true_and, and_true, Nat.reduceAdd, Nat.reduceLeDiff, hd2, m6, m7, m9, m10, va, xa, vb, xb2, k5a, k6a, k6b, e77a, e77b, e129, ho, bi_0, Classical.not_not, e38]
        refine ⟨fun c55 => ?_, fun c55 => ?_⟩
        · refine go_blk [(.aload_n 0, 0, 0, 0), (.getfield 83, 8, 9, 0), (.istore 4, 0, 0, 0), (.iload_n 3, 0, 0, 0), (.ifCond .eq 27, 99, 0, 0)] (by decide +kernel) ?_
          simp only [e_al_0, e_gf_8_9, e_isw_4n, e_isw_4I, e_isw_4R, e_il_3, e_if_eq, rd_8_9, e_nil, (show ((0 : Int32) = 0) = True by decide), true_implies, false_implies, not_true_eq_false, not_false_eq_true, nol_n, nol_I, nol_R, rsum_0, rsum_I, rsum_R, ps_s, ps_n, true_and, and_true, Nat.reduceAdd, Nat.reduceLeDiff, hd2, m6, m7, m9, m10, va, xa, vb, xb2, k5a, k6a, k6b, e77a, e77b, e129, ho, bi_0, Classical.not_not, e38]
          refine go_blk [(.iconst 0, 0, 0, 0), (.ireturn, 0, 0, 0)] (by decide +kernel) ?_
          simp only [e_ic_0, e_iret0, e_nil, nol_n, nol_I, nol_R, rsum_0, rsum_I, rsum_R, ps_s, ps_n, true_and, and_true, Nat.reduceAdd, Nat.reduceLeDiff, hd2, m6, m7, m9, m10, va, xa, vb, xb2, k5a, k6a, k6b, e77a, e77b, e129, ho, bi_0, Classical.not_not, e38]
          exact h
        · refine go_blk [(.aload_n 0, 0, 0, 0), (.getfield 86, 8, 10, 0), (.goto 7, 69, 0, 0), (.istore 4, 0, 0, 0), (.iload_n 3, 0, 0, 0), (.ifCond .eq 27, 99, 0, 0)] (by decide +kernel) ?_
          simp only [e_al_0, e_gf_8_10, e_goto, e_isw_4n, e_isw_4I, e_isw_4R, e_il_3, e_if_eq, rd_8_10, e_nil, (show ((0 : Int32) = 0) = True by decide), true_implies, false_implies, not_true_eq_false, not_false_eq_true, nol_n, nol_I, nol_R, rsum_0, rsum_I, rsum_R, ps_s, ps_n, true_and, and_true, Nat.reduceAdd, Nat.reduceLeDiff, hd2, m6, m7, m9, m10, va, xa, vb, xb2, k5a, k6a, k6b, e77a, e77b, e129, ho, bi_0, Classical.not_not, e38]
          refine go_blk [(.iconst 0, 0, 0, 0), (.ireturn, 0, 0, 0)] (by decide +kernel) ?_
          simp only [e_ic_0, e_iret0, e_nil, nol_n, nol_I, nol_R, rsum_0, rsum_I, rsum_R, ps_s, ps_n, true_and, and_true, Nat.reduceAdd, Nat.reduceLeDiff, hd2, m6, m7, m9, m10, va, xa, vb, xb2, k5a, k6a, k6b, e77a, e77b, e129, ho, bi_0, Classical.not_not, e38]
          exact h
      · refine go_blk [(.iconst 1, 0, 0, 0), (.goto 4, 46, 0, 0), (.istore_n 3, 0, 0, 0), (.aload_n 0, 0, 0, 0), (.getfield 102, 8, 7, 0), (.iload_n 1, 0, 0, 0), (.invokestatic 69, 104, 2, 0)] (by decide +kernel) ?_
        simp only [e_ic_1, e_goto, e_is_3n, e_is_3I, e_is_3R, e_al_0, e_gf_8_7, e_il_1, e_ivs_2, rd_8_7, e_nil, Nat.reduceLT, nol_n, nol_I, nol_R, rsum_0, rsum_I, rsum_R, ps_s, ps_n, true_and, and_true, Nat.reduceAdd, Nat.reduceLeDiff, hd2, m6, m7, m9, m10, va, xa, vb, xb2, k5a, k6a, k6b, e77a, e77b, e129, ho, bi_0, Classical.not_not, e38]
        refine okm_has (by omega) (by omega) ?_
        rw [da]
        refine go_blk [(.ifCond .eq 10, 65, 0, 0)] (by decide +kernel) ?_
        simp only [e_if_eq, e_nil, nol_n, nol_I, nol_R, rsum_0, rsum_I, rsum_R, ps_s, ps_n, true_and, and_true, Nat.reduceAdd, Nat.reduceLeDiff, hd2, m6, m7, m9, m10, va, xa, vb, xb2, k5a, k6a, k6b, e77a, e77b, e129, ho, bi_0, Classical.not_not, e38]
        refine ⟨fun c55 => ?_, fun c55 => ?_⟩
        · have e4 : t 4 a = 0 := by
            have : ¬ t 4 a = 1 := by simpa using c55
            omega
          refine go_blk [(.aload_n 0, 0, 0, 0), (.getfield 83, 8, 9, 0), (.istore 4, 0, 0, 0), (.iload_n 3, 0, 0, 0), (.ifCond .eq 27, 99, 0, 0)] (by decide +kernel) ?_
          simp only [e_al_0, e_gf_8_9, e_isw_4n, e_isw_4I, e_isw_4R, e_il_3, e_if_eq, rd_8_9, e_nil, (show ((1 : Int32) = 0) = False by decide), true_implies, false_implies, not_true_eq_false, not_false_eq_true, nol_n, nol_I, nol_R, rsum_0, rsum_I, rsum_R, ps_s, ps_n, true_and, and_true, Nat.reduceAdd, Nat.reduceLeDiff, hd2, m6, m7, m9, m10, va, xa, vb, xb2, k5a, k6a, k6b, e77a, e77b, e129, ho, bi_0, Classical.not_not, e38]
          refine go_blk [(.iload 4, 0, 0, 0), (.ifCond .eq 22, 99, 0, 0)] (by decide +kernel) ?_
          simp only [e_ilw_4, e_if_eq, e_nil, nol_n, nol_I, nol_R, rsum_0, rsum_I, rsum_R, ps_s, ps_n, true_and, and_true, Nat.reduceAdd, Nat.reduceLeDiff, hd2, m6, m7, m9, m10, va, xa, vb, xb2, k5a, k6a, k6b, e77a, e77b, e129, ho, bi_0, Classical.not_not, e38]
          refine ⟨fun c77 => ?_, fun c77 => ?_⟩
          · have z : chB op t a b = false := by unfold chB; rw [decide_eq_false (by rw [e4]; omega)]; simp
            rw [z, if_neg (by decide)] at h
            refine go_blk [(.iconst 0, 0, 0, 0), (.ireturn, 0, 0, 0)] (by decide +kernel) ?_
            simp only [e_ic_0, e_iret0, e_nil, nol_n, nol_I, nol_R, rsum_0, rsum_I, rsum_R, ps_s, ps_n, true_and, and_true, Nat.reduceAdd, Nat.reduceLeDiff, hd2, m6, m7, m9, m10, va, xa, vb, xb2, k5a, k6a, k6b, e77a, e77b, e129, ho, bi_0, Classical.not_not, e38]
            exact h
          · refine go_blk [(.aload_n 0, 0, 0, 0), (.aload_n 0, 0, 0, 0), (.getfield 13, 8, 5, 0), (.iload_n 1, 0, 0, 0), (.iaload, 0, 0, 0), (.aload_n 0, 0, 0, 0), (.getfield 13, 8, 5, 0), (.iload_n 2, 0, 0, 0), (.iaload, 0, 0, 0), (.invokevirtual 155, 130, 2, 8)] (by decide +kernel) ?_
            simp only [e_al_0, e_gf_8_5, e_il_1, e_ia, e_il_2, e_iv_8_2, rd_8_5, ai_0_4, ai_1_7, ai_2_1, ai_2_2, ai_3_1, ai_4_1, ai_6_3, ai_6_4, ai_6_5, ai_6_6, ai_6_7, ai_6_8, ai_8_5, ai_8_6, ai_8_17, ai_8_21, ai_8_23, ai_8_24, ai_8_27, ai_8_28, ai_8_38, ai_8_39, ai_8_40, e_nil, nol_n, nol_I, nol_R, rsum_0, rsum_I, rsum_R, ps_s, ps_n, true_and, and_true, Nat.reduceAdd, Nat.reduceLeDiff, hd2, m6, m7, m9, m10, va, xa, vb, xb2, k5a, k6a, k6b, e77a, e77b, e129, ho, bi_0, Classical.not_not, e38]
            refine okm_blk hI hM ra.2.2.1 rb.2.2.1 ho hop (by omega) ?_
            refine go_blk [(.ifCond .eq 5, 101, 0, 0)] (by decide +kernel) ?_
            simp only [e_if_eq, e_nil, nol_n, nol_I, nol_R, rsum_0, rsum_I, rsum_R, ps_s, ps_n, true_and, and_true, Nat.reduceAdd, Nat.reduceLeDiff, hd2, m6, m7, m9, m10, va, xa, vb, xb2, k5a, k6a, k6b, e77a, e77b, e129, ho, bi_0, Classical.not_not, e38]
            refine ⟨fun c96 => ?_, fun c96 => ?_⟩
            · have c77b := c77
              have el : lne (t 5 a) (t 5 b) = true := by
                cases q : lne (t 5 a) (t 5 b)
                · rw [q] at c96; cases c96
                · rfl
              have eb : blk op t (btw (t 5 a) (t 5 b)) = false := by rw [el] at c96; exact c96
              obtain ⟨d1, d2, d3⟩ := dsM_pos ra.2.2.1 rb.2.2.1 el
              have z : chB op t a b = true := by
                unfold chB
                rw [eq_true_of_ne_false c8, eq_true_of_ne_false c19, bne_iff_ne.mpr c38, el, eb, decide_eq_true (by rw [e4]; omega)]
                rfl
              rw [z, if_pos rfl] at h
              refine go_blk [(.aload_n 0, 0, 0, 0), (.getfield 13, 8, 5, 0), (.iload_n 1, 0, 0, 0), (.iaload, 0, 0, 0), (.aload_n 0, 0, 0, 0), (.getfield 13, 8, 5, 0), (.iload_n 2, 0, 0, 0), (.iaload, 0, 0, 0), (.invokestatic 132, 121, 2, 0)] (by decide +kernel) ?_
              simp only [e_al_0, e_gf_8_5, e_il_1, e_ia, e_il_2, e_ivs_2, rd_8_5, ai_0_4, ai_1_7, ai_2_1, ai_2_2, ai_3_1, ai_4_1, ai_6_3, ai_6_4, ai_6_5, ai_6_6, ai_6_7, ai_6_8, ai_8_5, ai_8_6, ai_8_17, ai_8_21, ai_8_23, ai_8_24, ai_8_27, ai_8_28, ai_8_38, ai_8_39, ai_8_40, e_nil, Nat.reduceLT, nol_n, nol_I, nol_R, rsum_0, rsum_I, rsum_R, ps_s, ps_n, true_and, and_true, Nat.reduceAdd, Nat.reduceLeDiff, hd2, m6, m7, m9, m10, va, xa, vb, xb2, k5a, k6a, k6b, e77a, e77b, e129, ho, bi_0, Classical.not_not, e38]
              refine okm_distance ra.2.2.1 rb.2.2.1 (by omega) ?_
              rw [d1]
              refine go_blk [(.istore 5, 0, 0, 0), (.bipush 10, 0, 0, 0), (.iload 5, 0, 0, 0), (.aload_n 0, 0, 0, 0), (.getfield 7, 8, 4, 0), (.iload_n 1, 0, 0, 0), (.iaload, 0, 0, 0), (.iconst 3, 0, 0, 0), (.if_icmp .ne 7, 136, 0, 0)] (by decide +kernel) ?_
              simp only [e_isw_5n, e_isw_5I, e_isw_5R, e_bp_10, e_ilw_5, e_al_0, e_gf_8_4, e_il_1, e_ia, e_ic_3, e_icmp_ne, rd_8_4, ai_0_4, ai_1_7, ai_2_1, ai_2_2, ai_3_1, ai_4_1, ai_6_3, ai_6_4, ai_6_5, ai_6_6, ai_6_7, ai_6_8, ai_8_5, ai_8_6, ai_8_17, ai_8_21, ai_8_23, ai_8_24, ai_8_27, ai_8_28, ai_8_38, ai_8_39, ai_8_40, e_nil, nol_n, nol_I, nol_R, rsum_0, rsum_I, rsum_R, ps_s, ps_n, true_and, and_true, Nat.reduceAdd, Nat.reduceLeDiff, hd2, m6, m7, m9, m10, va, xa, vb, xb2, k5a, k6a, k6b, e77a, e77b, e129, ho, bi_0, Classical.not_not, e38]
              refine ⟨fun c129 => ?_, fun c129 => ?_⟩
              · refine go_blk [(.iconst 2, 0, 0, 0), (.imul, 0, 0, 0), (.isub, 0, 0, 0), (.aload_n 0, 0, 0, 0), (.aload_n 0, 0, 0, 0), (.getfield 13, 8, 5, 0), (.iload_n 2, 0, 0, 0), (.iaload, 0, 0, 0), (.invokevirtual 158, 131, 1, 8)] (by decide +kernel) ?_
                simp only [e_ic_2, e_imul, e_isub, e_al_0, e_gf_8_5, e_il_2, e_ia, e_iv_8_1, rd_8_5, ai_0_4, ai_1_7, ai_2_1, ai_2_2, ai_3_1, ai_4_1, ai_6_3, ai_6_4, ai_6_5, ai_6_6, ai_6_7, ai_6_8, ai_8_5, ai_8_6, ai_8_17, ai_8_21, ai_8_23, ai_8_24, ai_8_27, ai_8_28, ai_8_38, ai_8_39, ai_8_40, e_nil, nol_n, nol_I, nol_R, rsum_0, rsum_I, rsum_R, ps_s, ps_n, true_and, and_true, Nat.reduceAdd, Nat.reduceLeDiff, hd2, m6, m7, m9, m10, va, xa, vb, xb2, k5a, k6a, k6b, e77a, e77b, e129, ho, bi_0, Classical.not_not, e38]
                refine okm_cov rb.2.2.1 rb.2.2.2.2.2.1 ho hop (by omega) ?_
                refine go_blk [(.ifCond .eq 7, 156, 0, 0)] (by decide +kernel) ?_
                simp only [e_if_eq, e_nil, nol_n, nol_I, nol_R, rsum_0, rsum_I, rsum_R, ps_s, ps_n, true_and, and_true, Nat.reduceAdd, Nat.reduceLeDiff, hd2, m6, m7, m9, m10, va, xa, vb, xb2, k5a, k6a, k6b, e77a, e77b, e129, ho, bi_0, Classical.not_not, e38]
                refine ⟨fun c149 => ?_, fun c149 => ?_⟩
                · have zc : (bsd op).testBit (t 5 b) = false := (bsd_bit op rb.2.2.1).trans c149
                  rw [zc, if_neg (by decide)] at h
                  refine go_blk [(.iconst 0, 0, 0, 0), (.isub, 0, 0, 0), (.istore 6, 0, 0, 0), (.iload 6, 0, 0, 0), (.iconst 1, 0, 0, 0), (.if_icmp .ge 7, 170, 0, 0)] (by decide +kernel) ?_
                  simp only [e_ic_0, e_isub, e_isw_6n, e_isw_6I, e_isw_6R, e_ilw_6, e_ic_1, e_icmp_ge, e_nil, nol_n, nol_I, nol_R, rsum_0, rsum_I, rsum_R, ps_s, ps_n, true_and, and_true, Nat.reduceAdd, Nat.reduceLeDiff, hd2, m6, m7, m9, m10, va, xa, vb, xb2, k5a, k6a, k6b, e77a, e77b, e129, ho, bi_0, Classical.not_not, e38]
                  refine ⟨fun c163 => ?_, fun c163 => ?_⟩
                  · refine go_blk [(.iload 6, 0, 0, 0), (.ireturn, 0, 0, 0)] (by decide +kernel) ?_
                    simp only [e_ilw_6, e_iret0, e_nil, nol_n, nol_I, nol_R, rsum_0, rsum_I, rsum_R, ps_s, ps_n, true_and, and_true, Nat.reduceAdd, Nat.reduceLeDiff, hd2, m6, m7, m9, m10, va, xa, vb, xb2, k5a, k6a, k6b, e77a, e77b, e129, ho, bi_0, Classical.not_not, e38]
                    have z2 := tm0 (t 3 a) ra.1 (dst (t 5 a) (t 5 b)) d3
                    rw [if_neg c129, if_pos c163] at z2
                    rw [z2]
                    exact h
                  · refine go_blk [(.iconst 1, 0, 0, 0), (.goto 5, 172, 0, 0), (.ireturn, 0, 0, 0)] (by decide +kernel) ?_
                    simp only [e_ic_1, e_goto, e_iret0, e_nil, nol_n, nol_I, nol_R, rsum_0, rsum_I, rsum_R, ps_s, ps_n, true_and, and_true, Nat.reduceAdd, Nat.reduceLeDiff, hd2, m6, m7, m9, m10, va, xa, vb, xb2, k5a, k6a, k6b, e77a, e77b, e129, ho, bi_0, Classical.not_not, e38]
                    have z2 := tm0 (t 3 a) ra.1 (dst (t 5 a) (t 5 b)) d3
                    rw [if_neg c129, if_neg c163] at z2
                    rw [z2]
                    exact h
                · have zc : (bsd op).testBit (t 5 b) = true := (bsd_bit op rb.2.2.1).trans (eq_true_of_ne_false c149)
                  rw [zc, if_pos rfl] at h
                  refine go_blk [(.iconst 2, 0, 0, 0), (.goto 4, 157, 0, 0), (.isub, 0, 0, 0), (.istore 6, 0, 0, 0), (.iload 6, 0, 0, 0), (.iconst 1, 0, 0, 0), (.if_icmp .ge 7, 170, 0, 0)] (by decide +kernel) ?_
                  simp only [e_ic_2, e_goto, e_isub, e_isw_6n, e_isw_6I, e_isw_6R, e_ilw_6, e_ic_1, e_icmp_ge, e_nil, nol_n, nol_I, nol_R, rsum_0, rsum_I, rsum_R, ps_s, ps_n, true_and, and_true, Nat.reduceAdd, Nat.reduceLeDiff, hd2, m6, m7, m9, m10, va, xa, vb, xb2, k5a, k6a, k6b, e77a, e77b, e129, ho, bi_0, Classical.not_not, e38]
                  refine ⟨fun c163 => ?_, fun c163 => ?_⟩
                  · refine go_blk [(.iload 6, 0, 0, 0), (.ireturn, 0, 0, 0)] (by decide +kernel) ?_
                    simp only [e_ilw_6, e_iret0, e_nil, nol_n, nol_I, nol_R, rsum_0, rsum_I, rsum_R, ps_s, ps_n, true_and, and_true, Nat.reduceAdd, Nat.reduceLeDiff, hd2, m6, m7, m9, m10, va, xa, vb, xb2, k5a, k6a, k6b, e77a, e77b, e129, ho, bi_0, Classical.not_not, e38]
                    have z2 := tm1 (t 3 a) ra.1 (dst (t 5 a) (t 5 b)) d3
                    rw [if_neg c129, if_pos c163] at z2
                    rw [z2]
                    exact h
                  · refine go_blk [(.iconst 1, 0, 0, 0), (.goto 5, 172, 0, 0), (.ireturn, 0, 0, 0)] (by decide +kernel) ?_
                    simp only [e_ic_1, e_goto, e_iret0, e_nil, nol_n, nol_I, nol_R, rsum_0, rsum_I, rsum_R, ps_s, ps_n, true_and, and_true, Nat.reduceAdd, Nat.reduceLeDiff, hd2, m6, m7, m9, m10, va, xa, vb, xb2, k5a, k6a, k6b, e77a, e77b, e129, ho, bi_0, Classical.not_not, e38]
                    have z2 := tm1 (t 3 a) ra.1 (dst (t 5 a) (t 5 b)) d3
                    rw [if_neg c129, if_neg c163] at z2
                    rw [z2]
                    exact h
              · refine go_blk [(.iconst 1, 0, 0, 0), (.goto 4, 137, 0, 0), (.imul, 0, 0, 0), (.isub, 0, 0, 0), (.aload_n 0, 0, 0, 0), (.aload_n 0, 0, 0, 0), (.getfield 13, 8, 5, 0), (.iload_n 2, 0, 0, 0), (.iaload, 0, 0, 0), (.invokevirtual 158, 131, 1, 8)] (by decide +kernel) ?_
                simp only [e_ic_1, e_goto, e_imul, e_isub, e_al_0, e_gf_8_5, e_il_2, e_ia, e_iv_8_1, rd_8_5, ai_0_4, ai_1_7, ai_2_1, ai_2_2, ai_3_1, ai_4_1, ai_6_3, ai_6_4, ai_6_5, ai_6_6, ai_6_7, ai_6_8, ai_8_5, ai_8_6, ai_8_17, ai_8_21, ai_8_23, ai_8_24, ai_8_27, ai_8_28, ai_8_38, ai_8_39, ai_8_40, e_nil, nol_n, nol_I, nol_R, rsum_0, rsum_I, rsum_R, ps_s, ps_n, true_and, and_true, Nat.reduceAdd, Nat.reduceLeDiff, hd2, m6, m7, m9, m10, va, xa, vb, xb2, k5a, k6a, k6b, e77a, e77b, e129, ho, bi_0, Classical.not_not, e38]
                refine okm_cov rb.2.2.1 rb.2.2.2.2.2.1 ho hop (by omega) ?_
                refine go_blk [(.ifCond .eq 7, 156, 0, 0)] (by decide +kernel) ?_
                simp only [e_if_eq, e_nil, nol_n, nol_I, nol_R, rsum_0, rsum_I, rsum_R, ps_s, ps_n, true_and, and_true, Nat.reduceAdd, Nat.reduceLeDiff, hd2, m6, m7, m9, m10, va, xa, vb, xb2, k5a, k6a, k6b, e77a, e77b, e129, ho, bi_0, Classical.not_not, e38]
                refine ⟨fun c149 => ?_, fun c149 => ?_⟩
                · have zc : (bsd op).testBit (t 5 b) = false := (bsd_bit op rb.2.2.1).trans c149
                  rw [zc, if_neg (by decide)] at h
                  refine go_blk [(.iconst 0, 0, 0, 0), (.isub, 0, 0, 0), (.istore 6, 0, 0, 0), (.iload 6, 0, 0, 0), (.iconst 1, 0, 0, 0), (.if_icmp .ge 7, 170, 0, 0)] (by decide +kernel) ?_
                  simp only [e_ic_0, e_isub, e_isw_6n, e_isw_6I, e_isw_6R, e_ilw_6, e_ic_1, e_icmp_ge, e_nil, nol_n, nol_I, nol_R, rsum_0, rsum_I, rsum_R, ps_s, ps_n, true_and, and_true, Nat.reduceAdd, Nat.reduceLeDiff, hd2, m6, m7, m9, m10, va, xa, vb, xb2, k5a, k6a, k6b, e77a, e77b, e129, ho, bi_0, Classical.not_not, e38]
                  refine ⟨fun c163 => ?_, fun c163 => ?_⟩
                  · refine go_blk [(.iload 6, 0, 0, 0), (.ireturn, 0, 0, 0)] (by decide +kernel) ?_
                    simp only [e_ilw_6, e_iret0, e_nil, nol_n, nol_I, nol_R, rsum_0, rsum_I, rsum_R, ps_s, ps_n, true_and, and_true, Nat.reduceAdd, Nat.reduceLeDiff, hd2, m6, m7, m9, m10, va, xa, vb, xb2, k5a, k6a, k6b, e77a, e77b, e129, ho, bi_0, Classical.not_not, e38]
                    have z2 := tm0 (t 3 a) ra.1 (dst (t 5 a) (t 5 b)) d3
                    rw [if_pos c129, if_pos c163] at z2
                    rw [z2]
                    exact h
                  · refine go_blk [(.iconst 1, 0, 0, 0), (.goto 5, 172, 0, 0), (.ireturn, 0, 0, 0)] (by decide +kernel) ?_
                    simp only [e_ic_1, e_goto, e_iret0, e_nil, nol_n, nol_I, nol_R, rsum_0, rsum_I, rsum_R, ps_s, ps_n, true_and, and_true, Nat.reduceAdd, Nat.reduceLeDiff, hd2, m6, m7, m9, m10, va, xa, vb, xb2, k5a, k6a, k6b, e77a, e77b, e129, ho, bi_0, Classical.not_not, e38]
                    have z2 := tm0 (t 3 a) ra.1 (dst (t 5 a) (t 5 b)) d3
                    rw [if_pos c129, if_neg c163] at z2
                    rw [z2]
                    exact h
                · have zc : (bsd op).testBit (t 5 b) = true := (bsd_bit op rb.2.2.1).trans (eq_true_of_ne_false c149)
                  rw [zc, if_pos rfl] at h
                  refine go_blk [(.iconst 2, 0, 0, 0), (.goto 4, 157, 0, 0), (.isub, 0, 0, 0), (.istore 6, 0, 0, 0), (.iload 6, 0, 0, 0), (.iconst 1, 0, 0, 0), (.if_icmp .ge 7, 170, 0, 0)] (by decide +kernel) ?_
                  simp only [e_ic_2, e_goto, e_isub, e_isw_6n, e_isw_6I, e_isw_6R, e_ilw_6, e_ic_1, e_icmp_ge, e_nil, nol_n, nol_I, nol_R, rsum_0, rsum_I, rsum_R, ps_s, ps_n, true_and, and_true, Nat.reduceAdd, Nat.reduceLeDiff, hd2, m6, m7, m9, m10, va, xa, vb, xb2, k5a, k6a, k6b, e77a, e77b, e129, ho, bi_0, Classical.not_not, e38]
                  refine ⟨fun c163 => ?_, fun c163 => ?_⟩
                  · refine go_blk [(.iload 6, 0, 0, 0), (.ireturn, 0, 0, 0)] (by decide +kernel) ?_
                    simp only [e_ilw_6, e_iret0, e_nil, nol_n, nol_I, nol_R, rsum_0, rsum_I, rsum_R, ps_s, ps_n, true_and, and_true, Nat.reduceAdd, Nat.reduceLeDiff, hd2, m6, m7, m9, m10, va, xa, vb, xb2, k5a, k6a, k6b, e77a, e77b, e129, ho, bi_0, Classical.not_not, e38]
                    have z2 := tm1 (t 3 a) ra.1 (dst (t 5 a) (t 5 b)) d3
                    rw [if_pos c129, if_pos c163] at z2
                    rw [z2]
                    exact h
                  · refine go_blk [(.iconst 1, 0, 0, 0), (.goto 5, 172, 0, 0), (.ireturn, 0, 0, 0)] (by decide +kernel) ?_
                    simp only [e_ic_1, e_goto, e_iret0, e_nil, nol_n, nol_I, nol_R, rsum_0, rsum_I, rsum_R, ps_s, ps_n, true_and, and_true, Nat.reduceAdd, Nat.reduceLeDiff, hd2, m6, m7, m9, m10, va, xa, vb, xb2, k5a, k6a, k6b, e77a, e77b, e129, ho, bi_0, Classical.not_not, e38]
                    have z2 := tm1 (t 3 a) ra.1 (dst (t 5 a) (t 5 b)) d3
                    rw [if_pos c129, if_neg c163] at z2
                    rw [z2]
                    exact h
            · have z : chB op t a b = false := by
                have q : (!lne (t 5 a) (t 5 b) || blk op t (btw (t 5 a) (t 5 b))) = true := eq_true_of_ne_false c96
                unfold chB
                cases q1 : lne (t 5 a) (t 5 b)
                · simp
                · rw [q1] at q
                  have q2 : blk op t (btw (t 5 a) (t 5 b)) = true := q
                  rw [q2]
                  simp
              rw [z, if_neg (by decide)] at h
              refine go_blk [(.iconst 0, 0, 0, 0), (.ireturn, 0, 0, 0)] (by decide +kernel) ?_
              simp only [e_ic_0, e_iret0, e_nil, nol_n, nol_I, nol_R, rsum_0, rsum_I, rsum_R, ps_s, ps_n, true_and, and_true, Nat.reduceAdd, Nat.reduceLeDiff, hd2, m6, m7, m9, m10, va, xa, vb, xb2, k5a, k6a, k6b, e77a, e77b, e129, ho, bi_0, Classical.not_not, e38]
              exact h
        · have e4 : t 4 a = 1 := by simpa using c55
          refine go_blk [(.aload_n 0, 0, 0, 0), (.getfield 86, 8, 10, 0), (.goto 7, 69, 0, 0), (.istore 4, 0, 0, 0), (.iload_n 3, 0, 0, 0), (.ifCond .eq 27, 99, 0, 0)] (by decide +kernel) ?_
          simp only [e_al_0, e_gf_8_10, e_goto, e_isw_4n, e_isw_4I, e_isw_4R, e_il_3, e_if_eq, rd_8_10, e_nil, (show ((1 : Int32) = 0) = False by decide), true_implies, false_implies, not_true_eq_false, not_false_eq_true, nol_n, nol_I, nol_R, rsum_0, rsum_I, rsum_R, ps_s, ps_n, true_and, and_true, Nat.reduceAdd, Nat.reduceLeDiff, hd2, m6, m7, m9, m10, va, xa, vb, xb2, k5a, k6a, k6b, e77a, e77b, e129, ho, bi_0, Classical.not_not, e38]
          refine go_blk [(.iload 4, 0, 0, 0), (.ifCond .eq 22, 99, 0, 0)] (by decide +kernel) ?_
          simp only [e_ilw_4, e_if_eq, e_nil, nol_n, nol_I, nol_R, rsum_0, rsum_I, rsum_R, ps_s, ps_n, true_and, and_true, Nat.reduceAdd, Nat.reduceLeDiff, hd2, m6, m7, m9, m10, va, xa, vb, xb2, k5a, k6a, k6b, e77a, e77b, e129, ho, bi_0, Classical.not_not, e38]
          refine ⟨fun c77 => ?_, fun c77 => ?_⟩
          · have z : chB op t a b = false := by unfold chB; rw [decide_eq_false (by rw [e4]; omega)]; simp
            rw [z, if_neg (by decide)] at h
            refine go_blk [(.iconst 0, 0, 0, 0), (.ireturn, 0, 0, 0)] (by decide +kernel) ?_
            simp only [e_ic_0, e_iret0, e_nil, nol_n, nol_I, nol_R, rsum_0, rsum_I, rsum_R, ps_s, ps_n, true_and, and_true, Nat.reduceAdd, Nat.reduceLeDiff, hd2, m6, m7, m9, m10, va, xa, vb, xb2, k5a, k6a, k6b, e77a, e77b, e129, ho, bi_0, Classical.not_not, e38]
            exact h
          · refine go_blk [(.aload_n 0, 0, 0, 0), (.aload_n 0, 0, 0, 0), (.getfield 13, 8, 5, 0), (.iload_n 1, 0, 0, 0), (.iaload, 0, 0, 0), (.aload_n 0, 0, 0, 0), (.getfield 13, 8, 5, 0), (.iload_n 2, 0, 0, 0), (.iaload, 0, 0, 0), (.invokevirtual 155, 130, 2, 8)] (by decide +kernel) ?_
            simp only [e_al_0, e_gf_8_5, e_il_1, e_ia, e_il_2, e_iv_8_2, rd_8_5, ai_0_4, ai_1_7, ai_2_1, ai_2_2, ai_3_1, ai_4_1, ai_6_3, ai_6_4, ai_6_5, ai_6_6, ai_6_7, ai_6_8, ai_8_5, ai_8_6, ai_8_17, ai_8_21, ai_8_23, ai_8_24, ai_8_27, ai_8_28, ai_8_38, ai_8_39, ai_8_40, e_nil, nol_n, nol_I, nol_R, rsum_0, rsum_I, rsum_R, ps_s, ps_n, true_and, and_true, Nat.reduceAdd, Nat.reduceLeDiff, hd2, m6, m7, m9, m10, va, xa, vb, xb2, k5a, k6a, k6b, e77a, e77b, e129, ho, bi_0, Classical.not_not, e38]
            refine okm_blk hI hM ra.2.2.1 rb.2.2.1 ho hop (by omega) ?_
            refine go_blk [(.ifCond .eq 5, 101, 0, 0)] (by decide +kernel) ?_
            simp only [e_if_eq, e_nil, nol_n, nol_I, nol_R, rsum_0, rsum_I, rsum_R, ps_s, ps_n, true_and, and_true, Nat.reduceAdd, Nat.reduceLeDiff, hd2, m6, m7, m9, m10, va, xa, vb, xb2, k5a, k6a, k6b, e77a, e77b, e129, ho, bi_0, Classical.not_not, e38]
            refine ⟨fun c96 => ?_, fun c96 => ?_⟩
            · have c77b := c77
              have el : lne (t 5 a) (t 5 b) = true := by
                cases q : lne (t 5 a) (t 5 b)
                · rw [q] at c96; cases c96
                · rfl
              have eb : blk op t (btw (t 5 a) (t 5 b)) = false := by rw [el] at c96; exact c96
              obtain ⟨d1, d2, d3⟩ := dsM_pos ra.2.2.1 rb.2.2.1 el
              have z : chB op t a b = true := by
                unfold chB
                rw [eq_true_of_ne_false c8, eq_true_of_ne_false c19, bne_iff_ne.mpr c38, el, eb, decide_eq_true (by rw [e4]; omega)]
                rfl
              rw [z, if_pos rfl] at h
              refine go_blk [(.aload_n 0, 0, 0, 0), (.getfield 13, 8, 5, 0), (.iload_n 1, 0, 0, 0), (.iaload, 0, 0, 0), (.aload_n 0, 0, 0, 0), (.getfield 13, 8, 5, 0), (.iload_n 2, 0, 0, 0), (.iaload, 0, 0, 0), (.invokestatic 132, 121, 2, 0)] (by decide +kernel) ?_
              simp only [e_al_0, e_gf_8_5, e_il_1, e_ia, e_il_2, e_ivs_2, rd_8_5, ai_0_4, ai_1_7, ai_2_1, ai_2_2, ai_3_1, ai_4_1, ai_6_3, ai_6_4, ai_6_5, ai_6_6, ai_6_7, ai_6_8, ai_8_5, ai_8_6, ai_8_17, ai_8_21, ai_8_23, ai_8_24, ai_8_27, ai_8_28, ai_8_38, ai_8_39, ai_8_40, e_nil, Nat.reduceLT, nol_n, nol_I, nol_R, rsum_0, rsum_I, rsum_R, ps_s, ps_n, true_and, and_true, Nat.reduceAdd, Nat.reduceLeDiff, hd2, m6, m7, m9, m10, va, xa, vb, xb2, k5a, k6a, k6b, e77a, e77b, e129, ho, bi_0, Classical.not_not, e38]
              refine okm_distance ra.2.2.1 rb.2.2.1 (by omega) ?_
              rw [d1]
              refine go_blk [(.istore 5, 0, 0, 0), (.bipush 10, 0, 0, 0), (.iload 5, 0, 0, 0), (.aload_n 0, 0, 0, 0), (.getfield 7, 8, 4, 0), (.iload_n 1, 0, 0, 0), (.iaload, 0, 0, 0), (.iconst 3, 0, 0, 0), (.if_icmp .ne 7, 136, 0, 0)] (by decide +kernel) ?_
              simp only [e_isw_5n, e_isw_5I, e_isw_5R, e_bp_10, e_ilw_5, e_al_0, e_gf_8_4, e_il_1, e_ia, e_ic_3, e_icmp_ne, rd_8_4, ai_0_4, ai_1_7, ai_2_1, ai_2_2, ai_3_1, ai_4_1, ai_6_3, ai_6_4, ai_6_5, ai_6_6, ai_6_7, ai_6_8, ai_8_5, ai_8_6, ai_8_17, ai_8_21, ai_8_23, ai_8_24, ai_8_27, ai_8_28, ai_8_38, ai_8_39, ai_8_40, e_nil, nol_n, nol_I, nol_R, rsum_0, rsum_I, rsum_R, ps_s, ps_n, true_and, and_true, Nat.reduceAdd, Nat.reduceLeDiff, hd2, m6, m7, m9, m10, va, xa, vb, xb2, k5a, k6a, k6b, e77a, e77b, e129, ho, bi_0, Classical.not_not, e38]
              refine ⟨fun c129 => ?_, fun c129 => ?_⟩
              · refine go_blk [(.iconst 2, 0, 0, 0), (.imul, 0, 0, 0), (.isub, 0, 0, 0), (.aload_n 0, 0, 0, 0), (.aload_n 0, 0, 0, 0), (.getfield 13, 8, 5, 0), (.iload_n 2, 0, 0, 0), (.iaload, 0, 0, 0), (.invokevirtual 158, 131, 1, 8)] (by decide +kernel) ?_
                simp only [e_ic_2, e_imul, e_isub, e_al_0, e_gf_8_5, e_il_2, e_ia, e_iv_8_1, rd_8_5, ai_0_4, ai_1_7, ai_2_1, ai_2_2, ai_3_1, ai_4_1, ai_6_3, ai_6_4, ai_6_5, ai_6_6, ai_6_7, ai_6_8, ai_8_5, ai_8_6, ai_8_17, ai_8_21, ai_8_23, ai_8_24, ai_8_27, ai_8_28, ai_8_38, ai_8_39, ai_8_40, e_nil, nol_n, nol_I, nol_R, rsum_0, rsum_I, rsum_R, ps_s, ps_n, true_and, and_true, Nat.reduceAdd, Nat.reduceLeDiff, hd2, m6, m7, m9, m10, va, xa, vb, xb2, k5a, k6a, k6b, e77a, e77b, e129, ho, bi_0, Classical.not_not, e38]
                refine okm_cov rb.2.2.1 rb.2.2.2.2.2.1 ho hop (by omega) ?_
                refine go_blk [(.ifCond .eq 7, 156, 0, 0)] (by decide +kernel) ?_
                simp only [e_if_eq, e_nil, nol_n, nol_I, nol_R, rsum_0, rsum_I, rsum_R, ps_s, ps_n, true_and, and_true, Nat.reduceAdd, Nat.reduceLeDiff, hd2, m6, m7, m9, m10, va, xa, vb, xb2, k5a, k6a, k6b, e77a, e77b, e129, ho, bi_0, Classical.not_not, e38]
                refine ⟨fun c149 => ?_, fun c149 => ?_⟩
                · have zc : (bsd op).testBit (t 5 b) = false := (bsd_bit op rb.2.2.1).trans c149
                  rw [zc, if_neg (by decide)] at h
                  refine go_blk [(.iconst 0, 0, 0, 0), (.isub, 0, 0, 0), (.istore 6, 0, 0, 0), (.iload 6, 0, 0, 0), (.iconst 1, 0, 0, 0), (.if_icmp .ge 7, 170, 0, 0)] (by decide +kernel) ?_
                  simp only [e_ic_0, e_isub, e_isw_6n, e_isw_6I, e_isw_6R, e_ilw_6, e_ic_1, e_icmp_ge, e_nil, nol_n, nol_I, nol_R, rsum_0, rsum_I, rsum_R, ps_s, ps_n, true_and, and_true, Nat.reduceAdd, Nat.reduceLeDiff, hd2, m6, m7, m9, m10, va, xa, vb, xb2, k5a, k6a, k6b, e77a, e77b, e129, ho, bi_0, Classical.not_not, e38]
                  refine ⟨fun c163 => ?_, fun c163 => ?_⟩
                  · refine go_blk [(.iload 6, 0, 0, 0), (.ireturn, 0, 0, 0)] (by decide +kernel) ?_
                    simp only [e_ilw_6, e_iret0, e_nil, nol_n, nol_I, nol_R, rsum_0, rsum_I, rsum_R, ps_s, ps_n, true_and, and_true, Nat.reduceAdd, Nat.reduceLeDiff, hd2, m6, m7, m9, m10, va, xa, vb, xb2, k5a, k6a, k6b, e77a, e77b, e129, ho, bi_0, Classical.not_not, e38]
                    have z2 := tm0 (t 3 a) ra.1 (dst (t 5 a) (t 5 b)) d3
                    rw [if_neg c129, if_pos c163] at z2
                    rw [z2]
                    exact h
                  · refine go_blk [(.iconst 1, 0, 0, 0), (.goto 5, 172, 0, 0), (.ireturn, 0, 0, 0)] (by decide +kernel) ?_
                    simp only [e_ic_1, e_goto, e_iret0, e_nil, nol_n, nol_I, nol_R, rsum_0, rsum_I, rsum_R, ps_s, ps_n, true_and, and_true, Nat.reduceAdd, Nat.reduceLeDiff, hd2, m6, m7, m9, m10, va, xa, vb, xb2, k5a, k6a, k6b, e77a, e77b, e129, ho, bi_0, Classical.not_not, e38]
                    have z2 := tm0 (t 3 a) ra.1 (dst (t 5 a) (t 5 b)) d3
                    rw [if_neg c129, if_neg c163] at z2
                    rw [z2]
                    exact h
                · have zc : (bsd op).testBit (t 5 b) = true := (bsd_bit op rb.2.2.1).trans (eq_true_of_ne_false c149)
                  rw [zc, if_pos rfl] at h
                  refine go_blk [(.iconst 2, 0, 0, 0), (.goto 4, 157, 0, 0), (.isub, 0, 0, 0), (.istore 6, 0, 0, 0), (.iload 6, 0, 0, 0), (.iconst 1, 0, 0, 0), (.if_icmp .ge 7, 170, 0, 0)] (by decide +kernel) ?_
                  simp only [e_ic_2, e_goto, e_isub, e_isw_6n, e_isw_6I, e_isw_6R, e_ilw_6, e_ic_1, e_icmp_ge, e_nil, nol_n, nol_I, nol_R, rsum_0, rsum_I, rsum_R, ps_s, ps_n, true_and, and_true, Nat.reduceAdd, Nat.reduceLeDiff, hd2, m6, m7, m9, m10, va, xa, vb, xb2, k5a, k6a, k6b, e77a, e77b, e129, ho, bi_0, Classical.not_not, e38]
                  refine ⟨fun c163 => ?_, fun c163 => ?_⟩
                  · refine go_blk [(.iload 6, 0, 0, 0), (.ireturn, 0, 0, 0)] (by decide +kernel) ?_
                    simp only [e_ilw_6, e_iret0, e_nil, nol_n, nol_I, nol_R, rsum_0, rsum_I, rsum_R, ps_s, ps_n, true_and, and_true, Nat.reduceAdd, Nat.reduceLeDiff, hd2, m6, m7, m9, m10, va, xa, vb, xb2, k5a, k6a, k6b, e77a, e77b, e129, ho, bi_0, Classical.not_not, e38]
                    have z2 := tm1 (t 3 a) ra.1 (dst (t 5 a) (t 5 b)) d3
                    rw [if_neg c129, if_pos c163] at z2
                    rw [z2]
                    exact h
                  · refine go_blk [(.iconst 1, 0, 0, 0), (.goto 5, 172, 0, 0), (.ireturn, 0, 0, 0)] (by decide +kernel) ?_
                    simp only [e_ic_1, e_goto, e_iret0, e_nil, nol_n, nol_I, nol_R, rsum_0, rsum_I, rsum_R, ps_s, ps_n, true_and, and_true, Nat.reduceAdd, Nat.reduceLeDiff, hd2, m6, m7, m9, m10, va, xa, vb, xb2, k5a, k6a, k6b, e77a, e77b, e129, ho, bi_0, Classical.not_not, e38]
                    have z2 := tm1 (t 3 a) ra.1 (dst (t 5 a) (t 5 b)) d3
                    rw [if_neg c129, if_neg c163] at z2
                    rw [z2]
                    exact h
              · refine go_blk [(.iconst 1, 0, 0, 0), (.goto 4, 137, 0, 0), (.imul, 0, 0, 0), (.isub, 0, 0, 0), (.aload_n 0, 0, 0, 0), (.aload_n 0, 0, 0, 0), (.getfield 13, 8, 5, 0), (.iload_n 2, 0, 0, 0), (.iaload, 0, 0, 0), (.invokevirtual 158, 131, 1, 8)] (by decide +kernel) ?_
                simp only [e_ic_1, e_goto, e_imul, e_isub, e_al_0, e_gf_8_5, e_il_2, e_ia, e_iv_8_1, rd_8_5, ai_0_4, ai_1_7, ai_2_1, ai_2_2, ai_3_1, ai_4_1, ai_6_3, ai_6_4, ai_6_5, ai_6_6, ai_6_7, ai_6_8, ai_8_5, ai_8_6, ai_8_17, ai_8_21, ai_8_23, ai_8_24, ai_8_27, ai_8_28, ai_8_38, ai_8_39, ai_8_40, e_nil, nol_n, nol_I, nol_R, rsum_0, rsum_I, rsum_R, ps_s, ps_n, true_and, and_true, Nat.reduceAdd, Nat.reduceLeDiff, hd2, m6, m7, m9, m10, va, xa, vb, xb2, k5a, k6a, k6b, e77a, e77b, e129, ho, bi_0, Classical.not_not, e38]
                refine okm_cov rb.2.2.1 rb.2.2.2.2.2.1 ho hop (by omega) ?_
                refine go_blk [(.ifCond .eq 7, 156, 0, 0)] (by decide +kernel) ?_
                simp only [e_if_eq, e_nil, nol_n, nol_I, nol_R, rsum_0, rsum_I, rsum_R, ps_s, ps_n, true_and, and_true, Nat.reduceAdd, Nat.reduceLeDiff, hd2, m6, m7, m9, m10, va, xa, vb, xb2, k5a, k6a, k6b, e77a, e77b, e129, ho, bi_0, Classical.not_not, e38]
                refine ⟨fun c149 => ?_, fun c149 => ?_⟩
                · have zc : (bsd op).testBit (t 5 b) = false := (bsd_bit op rb.2.2.1).trans c149
                  rw [zc, if_neg (by decide)] at h
                  refine go_blk [(.iconst 0, 0, 0, 0), (.isub, 0, 0, 0), (.istore 6, 0, 0, 0), (.iload 6, 0, 0, 0), (.iconst 1, 0, 0, 0), (.if_icmp .ge 7, 170, 0, 0)] (by decide +kernel) ?_
                  simp only [e_ic_0, e_isub, e_isw_6n, e_isw_6I, e_isw_6R, e_ilw_6, e_ic_1, e_icmp_ge, e_nil, nol_n, nol_I, nol_R, rsum_0, rsum_I, rsum_R, ps_s, ps_n, true_and, and_true, Nat.reduceAdd, Nat.reduceLeDiff, hd2, m6, m7, m9, m10, va, xa, vb, xb2, k5a, k6a, k6b, e77a, e77b, e129, ho, bi_0, Classical.not_not, e38]
                  refine ⟨fun c163 => ?_, fun c163 => ?_⟩
                  · refine go_blk [(.iload 6, 0, 0, 0), (.ireturn, 0, 0, 0)] (by decide +kernel) ?_
                    simp only [e_ilw_6, e_iret0, e_nil, nol_n, nol_I, nol_R, rsum_0, rsum_I, rsum_R, ps_s, ps_n, true_and, and_true, Nat.reduceAdd, Nat.reduceLeDiff, hd2, m6, m7, m9, m10, va, xa, vb, xb2, k5a, k6a, k6b, e77a, e77b, e129, ho, bi_0, Classical.not_not, e38]
                    have z2 := tm0 (t 3 a) ra.1 (dst (t 5 a) (t 5 b)) d3
                    rw [if_pos c129, if_pos c163] at z2
                    rw [z2]
                    exact h
                  · refine go_blk [(.iconst 1, 0, 0, 0), (.goto 5, 172, 0, 0), (.ireturn, 0, 0, 0)] (by decide +kernel) ?_
                    simp only [e_ic_1, e_goto, e_iret0, e_nil, nol_n, nol_I, nol_R, rsum_0, rsum_I, rsum_R, ps_s, ps_n, true_and, and_true, Nat.reduceAdd, Nat.reduceLeDiff, hd2, m6, m7, m9, m10, va, xa, vb, xb2, k5a, k6a, k6b, e77a, e77b, e129, ho, bi_0, Classical.not_not, e38]
                    have z2 := tm0 (t 3 a) ra.1 (dst (t 5 a) (t 5 b)) d3
                    rw [if_pos c129, if_neg c163] at z2
                    rw [z2]
                    exact h
                · have zc : (bsd op).testBit (t 5 b) = true := (bsd_bit op rb.2.2.1).trans (eq_true_of_ne_false c149)
                  rw [zc, if_pos rfl] at h
                  refine go_blk [(.iconst 2, 0, 0, 0), (.goto 4, 157, 0, 0), (.isub, 0, 0, 0), (.istore 6, 0, 0, 0), (.iload 6, 0, 0, 0), (.iconst 1, 0, 0, 0), (.if_icmp .ge 7, 170, 0, 0)] (by decide +kernel) ?_
                  simp only [e_ic_2, e_goto, e_isub, e_isw_6n, e_isw_6I, e_isw_6R, e_ilw_6, e_ic_1, e_icmp_ge, e_nil, nol_n, nol_I, nol_R, rsum_0, rsum_I, rsum_R, ps_s, ps_n, true_and, and_true, Nat.reduceAdd, Nat.reduceLeDiff, hd2, m6, m7, m9, m10, va, xa, vb, xb2, k5a, k6a, k6b, e77a, e77b, e129, ho, bi_0, Classical.not_not, e38]
                  refine ⟨fun c163 => ?_, fun c163 => ?_⟩
                  · refine go_blk [(.iload 6, 0, 0, 0), (.ireturn, 0, 0, 0)] (by decide +kernel) ?_
                    simp only [e_ilw_6, e_iret0, e_nil, nol_n, nol_I, nol_R, rsum_0, rsum_I, rsum_R, ps_s, ps_n, true_and, and_true, Nat.reduceAdd, Nat.reduceLeDiff, hd2, m6, m7, m9, m10, va, xa, vb, xb2, k5a, k6a, k6b, e77a, e77b, e129, ho, bi_0, Classical.not_not, e38]
                    have z2 := tm1 (t 3 a) ra.1 (dst (t 5 a) (t 5 b)) d3
                    rw [if_pos c129, if_pos c163] at z2
                    rw [z2]
                    exact h
                  · refine go_blk [(.iconst 1, 0, 0, 0), (.goto 5, 172, 0, 0), (.ireturn, 0, 0, 0)] (by decide +kernel) ?_
                    simp only [e_ic_1, e_goto, e_iret0, e_nil, nol_n, nol_I, nol_R, rsum_0, rsum_I, rsum_R, ps_s, ps_n, true_and, and_true, Nat.reduceAdd, Nat.reduceLeDiff, hd2, m6, m7, m9, m10, va, xa, vb, xb2, k5a, k6a, k6b, e77a, e77b, e129, ho, bi_0, Classical.not_not, e38]
                    have z2 := tm1 (t 3 a) ra.1 (dst (t 5 a) (t 5 b)) d3
                    rw [if_pos c129, if_neg c163] at z2
                    rw [z2]
                    exact h
            · have z : chB op t a b = false := by
                have q : (!lne (t 5 a) (t 5 b) || blk op t (btw (t 5 a) (t 5 b))) = true := eq_true_of_ne_false c96
                unfold chB
                cases q1 : lne (t 5 a) (t 5 b)
                · simp
                · rw [q1] at q
                  have q2 : blk op t (btw (t 5 a) (t 5 b)) = true := q
                  rw [q2]
                  simp
              rw [z, if_neg (by decide)] at h
              refine go_blk [(.iconst 0, 0, 0, 0), (.ireturn, 0, 0, 0)] (by decide +kernel) ?_
              simp only [e_ic_0, e_iret0, e_nil, nol_n, nol_I, nol_R, rsum_0, rsum_I, rsum_R, ps_s, ps_n, true_and, and_true, Nat.reduceAdd, Nat.reduceLeDiff, hd2, m6, m7, m9, m10, va, xa, vb, xb2, k5a, k6a, k6b, e77a, e77b, e129, ho, bi_0, Classical.not_not, e38]
              exact h
theorem lp_mtg {l : Launch} {K : KK} {d : Nat} {μ : Mm} {P : Option AV → Mm → Prop} {a op : Nat} {t : TS} (hI : TInv op t) (hM : MRep μ t) (ho : μ 8 0 0 2 = nI op) (hop : op < 2 ^ 15) (ha : a < t 0 1) (hd1 : 4 ≤ d) : ∀ (r j c : Nat), j + r = t 0 1 → P (some (vI (nI (c + cntB (fun b => decide (0 < chS op t a b)) r j)))) μ → Go l K d 133 4 [some (vR 8 0 0), some (vI (nI a)), some (vI (nI c)), some (vI (nI j))] [] μ P := by
  have hd2 : 1 ≤ d := by omega
  have hn := hI.1
  have m3 := hM.1.1
  intro r
  induction r with
  | zero =>
    intro j c hj h
    refine go_blk [(.iload_n 3, 0, 0, 0), (.aload_n 0, 0, 0, 0), (.getfield 96, 8, 3, 0), (.if_icmp .ge 26, 35, 0, 0)] (by decide +kernel) ?_
    simp only [e_il_3, e_al_0, e_gf_8_3, e_icmp_ge, rd_8_3, e_nil, nol_n, nol_I, nol_R, rsum_0, rsum_I, rsum_R, ps_s, ps_n, true_and, and_true, Nat.reduceAdd, Nat.reduceLeDiff, m3]
    refine ⟨fun c9 => ?_, fun c9 => ?_⟩
    · refine go_blk [(.iload_n 2, 0, 0, 0), (.ireturn, 0, 0, 0)] (by decide +kernel) ?_
      simp only [e_il_2, e_iret0, e_nil, nol_n, nol_I, nol_R, rsum_0, rsum_I, rsum_R, ps_s, ps_n, true_and, and_true, Nat.reduceAdd, Nat.reduceLeDiff, m3]
      exact h
    · exact absurd (nI_le (by omega) (by omega)) c9
  | succ r ih =>
    intro j c hj h
    have cl := chS_le op t a j
    have e19 : (nI (chS op t a j) ≤ 0) = (chS op t a j = 0) := le0 (by omega)
    have u : cntB (fun b => decide (0 < chS op t a b)) (r + 1) j = (if decide (0 < chS op t a j) then 1 else 0) + cntB (fun b => decide (0 < chS op t a b)) r (j + 1) := rfl
    rw [u] at h
    have z0 : nI c + 0 = nI c := Int32.add_zero _
    refine go_blk [(.iload_n 3, 0, 0, 0), (.aload_n 0, 0, 0, 0), (.getfield 96, 8, 3, 0), (.if_icmp .ge 26, 35, 0, 0)] (by decide +kernel) ?_
    simp only [e_il_3, e_al_0, e_gf_8_3, e_icmp_ge, rd_8_3, e_nil, nol_n, nol_I, nol_R, rsum_0, rsum_I, rsum_R, ps_s, ps_n, true_and, and_true, Nat.reduceAdd, Nat.reduceLeDiff, m3, hd2, e19]
    refine ⟨fun c9 => ?_, fun c9 => ?_⟩
    · exact absurd c9 (nI_ge (by omega) (by omega))
    · refine go_blk [(.iload_n 2, 0, 0, 0), (.aload_n 0, 0, 0, 0), (.iload_n 1, 0, 0, 0), (.iload_n 3, 0, 0, 0), (.invokevirtual 161, 132, 2, 8)] (by decide +kernel) ?_
      simp only [e_il_2, e_al_0, e_il_1, e_il_3, e_iv_8_2, e_nil, nol_n, nol_I, nol_R, rsum_0, rsum_I, rsum_R, ps_s, ps_n, true_and, and_true, Nat.reduceAdd, Nat.reduceLeDiff, m3, hd2, e19]
      refine okm_tenths hI hM ho hop ha (by omega) (by omega) ?_
      refine go_blk [(.ifCond .le 7, 26, 0, 0)] (by decide +kernel) ?_
      simp only [e_if_le, e_nil, nol_n, nol_I, nol_R, rsum_0, rsum_I, rsum_R, ps_s, ps_n, true_and, and_true, Nat.reduceAdd, Nat.reduceLeDiff, m3, hd2, e19]
      refine ⟨fun c19 => ?_, fun c19 => ?_⟩
      · rw [if_neg (by rw [c19]; decide), Nat.zero_add] at h
        refine go_blk [(.iconst 0, 0, 0, 0), (.iadd, 0, 0, 0), (.istore_n 2, 0, 0, 0), (.iinc 3 1, 0, 0, 0), (.goto (-28), 4, 0, 0)] (by decide +kernel) ?_
        simp only [e_ic_0, e_iadd, e_is_2n, e_is_2I, e_is_2R, e_inc_3_1n, e_inc_3_1I, e_inc_3_1R, e_goto, e_nil, nol_n, nol_I, nol_R, rsum_0, rsum_I, rsum_R, ps_s, ps_n, true_and, and_true, Nat.reduceAdd, Nat.reduceLeDiff, m3, hd2, e19]
        rw [z0, nI_1]
        exact ih (j + 1) c (by omega) h
      · rw [if_pos (decide_eq_true (by omega)), ← Nat.add_assoc] at h
        refine go_blk [(.iconst 1, 0, 0, 0), (.goto 4, 27, 0, 0), (.iadd, 0, 0, 0), (.istore_n 2, 0, 0, 0), (.iinc 3 1, 0, 0, 0), (.goto (-28), 4, 0, 0)] (by decide +kernel) ?_
        simp only [e_ic_1, e_goto, e_iadd, e_is_2n, e_is_2I, e_is_2R, e_inc_3_1n, e_inc_3_1I, e_inc_3_1R, e_nil, nol_n, nol_I, nol_R, rsum_0, rsum_I, rsum_R, ps_s, ps_n, true_and, and_true, Nat.reduceAdd, Nat.reduceLeDiff, m3, hd2, e19]
        rw [nI_1, nI_1]
        exact ih (j + 1) (c + 1) (by omega) h
theorem okm_targets {l : Launch} {K : KK} {d : Nat} {μ : Mm} {P : Option AV → Mm → Prop} {a op : Nat} {t : TS} (hI : TInv op t) (hM : MRep μ t) (ho : μ 8 0 0 2 = nI op) (hop : op < 2 ^ 15) (ha : a < t 0 1) (hd1 : 4 ≤ d) (h : P (some (vI (nI (tgs op t a)))) μ) : Ok l K d 133 [vR 8 0 0, vI (nI a)] μ P := by
  refine ok_go 4 (by decide +kernel) [some (vR 8 0 0), some (vI (nI a)), none, none] rfl (Nat.le_of_ble_eq_true rfl) ?_
  refine go_blk [(.iconst 0, 0, 0, 0), (.istore_n 2, 0, 0, 0), (.iconst 0, 0, 0, 0), (.istore_n 3, 0, 0, 0)] (by decide +kernel) ?_
  simp only [e_ic_0, e_is_2n, e_is_2I, e_is_2R, e_is_3n, e_is_3I, e_is_3R, e_nil, nol_n, nol_I, nol_R, rsum_0, rsum_I, rsum_R, ps_s, ps_n, true_and, and_true, Nat.reduceAdd, Nat.reduceLeDiff]
  exact lp_mtg hI hM ho hop ha hd1 (t 0 1) 0 0 (by omega) (by rw [Nat.zero_add]; exact h)
