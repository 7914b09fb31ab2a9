theorem okm_hitOn {l : Launch} {K : KK} {d : Nat} {μ : Mm} {P : Option AV → Mm → Prop} {op a b : Nat} {t : TS} (hI : TInv op t) (hM : MRep μ t) (ho : μ 8 0 0 2 = nI op) (hop : op < 2 ^ 15) (ha : a < t 0 1) (hb : b < t 0 1) (hs : stn t b = true) (hl : lne (t 5 a) (t 5 b) = true) (hd1 : 3 ≤ d) (h : ∀ μ2, MRep μ2 (flF op (dU (t 5 a) (t 5 b)) (dV (t 5 a) (t 5 b)) 6 t b 0).1 → OffM μ μ2 → P (some (vI (nI (flF op (dU (t 5 a) (t 5 b)) (dV (t 5 a) (t 5 b)) 6 t b 0).2))) μ2) : Ok l K d 142 [vR 8 0 0, vI (nI a), vI (nI b)] μ P := by
  refine ok_go 5 (by decide +kernel) [some (vR 8 0 0), some (vI (nI a)), some (vI (nI b)), none, none] rfl (Nat.le_of_ble_eq_true rfl) ?_
  have hn := hI.1
  have ra := (hI.2.1 a ha).2.2.1
  have rb := (hI.2.1 b hb).2.2.1
  have eb : eN b = nI b := by unfold eN; rw [if_neg (by omega)]
  have dg := (dsM_pos ra rb hl).2.1
  refine go_blk [(.iconst 0, 0, 0, 0), (.istore_n 3, 0, 0, 0), (.iload_n 2, 0, 0, 0), (.istore 4, 0, 0, 0)] (by decide +kernel) ?_
  simp only [e_ic_0, e_is_3n, e_is_3I, e_is_3R, e_il_2, e_isw_4n, e_isw_4I, e_isw_4R, e_nil, nol_n, nol_I, nol_R, rsum_0, rsum_I, rsum_R, ps_s, ps_n, true_and, and_true, Nat.reduceAdd, Nat.reduceLeDiff]
  have z := lp_hitOn (l := l) (K := K) (d := d) (P := P) (μ0 := μ) (op := op) (a := a) (A := t 5 a) (b0 := b) (u := dU (t 5 a) (t 5 b)) (v := dV (t 5 a) (t 5 b)) ho hop ra hd1 6 t b 0 μ hI hM (offm_rf μ) ha rfl (Or.inr ⟨hb, hs, hl, rfl, rfl, by omega⟩) (fun z => by omega) h
  rw [eb] at z
  exact z
theorem fire_0 (op : Nat) (t : TS) (a b : Nat) : fireS op t a b false = (pea t a, 0) := rfl
theorem okm_shootThen {l : Launch} {K : KK} {d : Nat} {μ : Mm} {P : Option AV → Mm → Prop} {op a b : Nat} {hit : Bool} {t : TS} (hI : TInv op t) (hM : MRep μ t) (ho : μ 8 0 0 2 = nI op) (hop : op < 2 ^ 15) (hc : chS op t a b ≠ 0) (hd1 : 4 ≤ d) (h : ∀ μ2, MRep μ2 (fireS op t a b hit).1 → OffM μ μ2 → P none μ2) : Ok l K d 153 [vR 8 0 0, vI (nI a), vI (nI b), vI (bi hit)] μ P := by
  refine ok_go 4 (by decide +kernel) [some (vR 8 0 0), some (vI (nI a)), some (vI (nI b)), some (vI (bi hit))] rfl (Nat.le_of_ble_eq_true rfl) ?_
  have hd2 : 1 ≤ d := by omega
  obtain ⟨ca, cb, cs0, cs, -, cp, cl⟩ := chS_pos hc
  have q5 : ∀ j, pea t a 5 j = t 5 j := fun j => tu_ne (by omega)
  have q7 : stn (pea t a) b = true := by unfold stn pea; rw [tu_ne (by omega)]; exact cs
  refine go_blk [(.aload_n 0, 0, 0, 0), (.iload_n 1, 0, 0, 0), (.invokevirtual 182, 141, 1, 8)] (by decide +kernel) ?_
  simp only [e_al_0, e_il_1, e_iv_8_1, e_nil, nol_n, nol_I, nol_R, rsum_0, rsum_I, rsum_R, ps_s, ps_n, true_and, and_true, Nat.reduceAdd, Nat.reduceLeDiff, hd2, bi_0]
  refine okm_pea hI hM ca cp (by omega) (fun μ1 pM pO => ?_)
  refine go_blk [(.iload_n 3, 0, 0, 0), (.ifCond .eq 10, 16, 0, 0)] (by decide +kernel) ?_
  simp only [e_il_3, e_if_eq, e_nil, nol_n, nol_I, nol_R, rsum_0, rsum_I, rsum_R, ps_s, ps_n, true_and, and_true, Nat.reduceAdd, Nat.reduceLeDiff, hd2, bi_0]
  refine ⟨fun c6 => ?_, fun c6 => ?_⟩
  · subst c6
    rw [fire_0] at h
    refine go_blk [(.return_, 0, 0, 0)] (by decide +kernel) ?_
    simp only [e_vret, e_nil, nol_n, nol_I, nol_R, rsum_0, rsum_I, rsum_R, ps_s, ps_n, true_and, and_true, Nat.reduceAdd, Nat.reduceLeDiff, hd2, bi_0]
    exact h _ pM pO
  · have eh := eq_true_of_ne_false c6
    subst eh
    refine go_blk [(.aload_n 0, 0, 0, 0), (.iload_n 1, 0, 0, 0), (.iload_n 2, 0, 0, 0), (.invokevirtual 186, 142, 2, 8)] (by decide +kernel) ?_
    simp only [e_al_0, e_il_1, e_il_2, e_iv_8_2, e_nil, nol_n, nol_I, nol_R, rsum_0, rsum_I, rsum_R, ps_s, ps_n, true_and, and_true, Nat.reduceAdd, Nat.reduceLeDiff, hd2, bi_0]
    refine okm_hitOn (pea_inv hI) pM (by rw [pO 8 0 0 2 (by omega)]; exact ho) hop (by rw [pea_n]; exact ca) (by rw [pea_n]; exact cb) q7 (by rw [q5, q5]; exact cl) (by omega) (fun μ2 fM fO => ?_)
    rw [q5, q5] at fM
    refine go_blk [(.pop, 0, 0, 0), (.return_, 0, 0, 0)] (by decide +kernel) ?_
    simp only [e_pop, e_vret, e_nil, nol_n, nol_I, nol_R, rsum_0, rsum_I, rsum_R, ps_s, ps_n, true_and, and_true, Nat.reduceAdd, Nat.reduceLeDiff, hd2, bi_0]
    exact h _ fM (offm_tr pO fO)
theorem sl_tb : ∀ a, a < 15 → ∀ b, b < 15 → (!decide (rwI (nI a) = rwI (nI b)) && !decide (clI (nI a) = clI (nI b))) = dgn a b := by decide +kernel
theorem okm_forb {l : Launch} {K : KK} {d : Nat} {μ : Mm} {P : Option AV → Mm → Prop} {op a b bn : Nat} {la : Int32} {t : TS} (hI : TInv op t) (hM : MRep μ t) (ha : a < t 0 1) (hb : b < t 0 1) (hl : lne (t 5 a) (t 5 b) = true) (h12 : μ 8 0 0 12 = la) (h13 : μ 8 0 0 13 = nI bn) (hbn : bn < 32) (hd1 : 2 ≤ d) (h : P (some (vI (bi (fbd bn t la a b)))) μ) : Ok l K d 143 [vR 8 0 0, vI (nI a), vI (nI b)] μ P := by
  refine ok_go 6 (by decide +kernel) [some (vR 8 0 0), some (vI (nI a)), some (vI (nI b)), none, none, none] rfl (Nat.le_of_ble_eq_true rfl) ?_
  have hd2 : 1 ≤ d := by omega
  have hn := hI.1
  have ra := hI.2.1 a ha
  have rb := hI.2.1 b hb
  have va : vp_in (nI a) 6 := vin (by omega) (by omega)
  have xa : ix (nI a) = a := nI_ix (by omega)
  have vb : vp_in (nI b) 6 := vin (by omega) (by omega)
  have xb2 : ix (nI b) = b := nI_ix (by omega)
  have k5a := hM.1.2.1 a ha
  have k5b := hM.1.2.1 b hb
  have k6a := hM.1.2.2 a ha
  have k6b := hM.1.2.2 b hb
  have m7 : μ 8 0 0 7 = nI (mSd t) := hM.2.1.2.1
  have l7 := mSd_lt hn
  obtain ⟨d1, dg1, dg2⟩ := dsM_pos ra.2.2.1 rb.2.2.1 hl
  have e83 : (nI (t 3 b) = 1) = (t 3 b = 1) := propext (nI_eq (b := 1) (by omega) (by omega))
  have e93 : (nI (t 3 b) = 4) = (t 3 b = 4) := propext (nI_eq (b := 4) (by omega) (by omega))
  have e208 : (nI (t 3 a) = 3) = (t 3 a = 3) := propext (nI_eq (b := 3) (by omega) (by omega))
  have e137 : (nI (dst (t 5 a) (t 5 b)) = 1) = (dst (t 5 a) (t 5 b) = 1) := propext (nI_eq (b := 1) (by omega) (by omega))
  have e175 : (nI (mSd t) >>> (nI a &&& 31)) &&& 1 = nI (t 4 a) := by
    rw [nI_bitb (by omega) (by omega), mSd_bit ha]
    rcases (show t 4 a = 0 ∨ t 4 a = 1 by omega) with z | z <;> rw [z] <;> rfl
  unfold fbd at h
  have s4 : ∀ (x : Bool) (y4 : Int32), P (some (vI (bi (x || (bn.testBit 4 && t 3 a == 3))))) μ → Go l K d 143 185 [some (vR 8 0 0), some (vI (nI a)), some (vI (nI b)), some (vI (nI (dst (t 5 a) (t 5 b)))), some (vI y4), some (vI (bi x))] [] μ P := by
    intro x y4 h
    refine go_blk [(.iload 5, 0, 0, 0), (.ifCond .ne 24, 211, 0, 0)] (by decide +kernel) ?_
    simp only [e_ilw_5, e_if_ne, e_nil, nol_n, nol_I, nol_R, rsum_0, rsum_I, rsum_R, ps_s, ps_n, true_and, and_true, Nat.reduceAdd, Nat.reduceLeDiff, hd2, va, xa, vb, xb2, k5a, k5b, k6a, k6b, m7, h12, h13, e83, e93, e208, e137, e175, bi_0, Classical.not_not]
    refine ⟨fun c187 => ?_, fun c187 => ?_⟩
    · rw [eq_true_of_ne_false c187, Bool.true_or] at h
      refine go_blk [(.iconst 1, 0, 0, 0), (.goto 4, 216, 0, 0), (.ireturn, 1, 0, 0)] (by decide +kernel) ?_
      simp only [e_ic_1, e_goto, e_iret1, e_nil, nol_n, nol_I, nol_R, rsum_0, rsum_I, rsum_R, ps_s, ps_n, true_and, and_true, Nat.reduceAdd, Nat.reduceLeDiff, hd2, va, xa, vb, xb2, k5a, k5b, k6a, k6b, m7, h12, h13, e83, e93, e208, e137, e175, bi_0, Classical.not_not]
      exact ⟨by decide, h⟩
    · rw [c187, Bool.false_or] at h
      refine go_blk [(.aload_n 0, 0, 0, 0), (.getfield 111, 8, 13, 0), (.iconst 4, 0, 0, 0), (.invokestatic 69, 104, 2, 0)] (by decide +kernel) ?_
      simp only [e_al_0, e_gf_8_13, e_ic_4, e_ivs_2, rd_8_13, e_nil, Nat.reduceLT, nol_n, nol_I, nol_R, rsum_0, rsum_I, rsum_R, ps_s, ps_n, true_and, and_true, Nat.reduceAdd, Nat.reduceLeDiff, hd2, va, xa, vb, xb2, k5a, k5b, k6a, k6b, m7, h12, h13, e83, e93, e208, e137, e175, bi_0, Classical.not_not]
      refine okm_has (c := 4) (by omega) (by omega) ?_
      refine go_blk [(.ifCond .eq 17, 215, 0, 0)] (by decide +kernel) ?_
      simp only [e_if_eq, e_nil, nol_n, nol_I, nol_R, rsum_0, rsum_I, rsum_R, ps_s, ps_n, true_and, and_true, Nat.reduceAdd, Nat.reduceLeDiff, hd2, va, xa, vb, xb2, k5a, k5b, k6a, k6b, m7, h12, h13, e83, e93, e208, e137, e175, bi_0, Classical.not_not]
      refine ⟨fun c198 => ?_, fun c198 => ?_⟩
      · rw [show bn.testBit 4 = false from c198, Bool.false_and] at h
        refine go_blk [(.iconst 0, 0, 0, 0), (.ireturn, 1, 0, 0)] (by decide +kernel) ?_
        simp only [e_ic_0, e_iret1, e_nil, nol_n, nol_I, nol_R, rsum_0, rsum_I, rsum_R, ps_s, ps_n, true_and, and_true, Nat.reduceAdd, Nat.reduceLeDiff, hd2, va, xa, vb, xb2, k5a, k5b, k6a, k6b, m7, h12, h13, e83, e93, e208, e137, e175, bi_0, Classical.not_not]
        exact ⟨by decide, h⟩
      · rw [show bn.testBit 4 = true from eq_true_of_ne_false c198, Bool.true_and] at h
        refine go_blk [(.aload_n 0, 0, 0, 0), (.getfield 7, 8, 4, 0), (.iload_n 1, 0, 0, 0), (.iaload, 0, 0, 0), (.iconst 3, 0, 0, 0), (.if_icmp .ne 7, 215, 0, 0)] (by decide +kernel) ?_
        simp only [e_al_0, e_gf_8_4, e_il_1, e_ia, e_ic_3, e_icmp_ne, rd_8_4, ai_0_4, ai_1_7, ai_2_1, ai_2_2, ai_3_1, ai_4_1, ai_6_3, ai_6_4, ai_6_5, ai_6_6, ai_6_7, ai_6_8, ai_8_5, ai_8_6, ai_8_17, ai_8_21, ai_8_23, ai_8_24, ai_8_27, ai_8_28, ai_8_38, ai_8_39, ai_8_40, e_nil, nol_n, nol_I, nol_R, rsum_0, rsum_I, rsum_R, ps_s, ps_n, true_and, and_true, Nat.reduceAdd, Nat.reduceLeDiff, hd2, va, xa, vb, xb2, k5a, k5b, k6a, k6b, m7, h12, h13, e83, e93, e208, e137, e175, bi_0, Classical.not_not]
        refine ⟨fun c208 => ?_, fun c208 => ?_⟩
        · rw [show (t 3 a == 3) = false from beq_eq_false_iff_ne.mpr c208] at h
          refine go_blk [(.iconst 0, 0, 0, 0), (.ireturn, 1, 0, 0)] (by decide +kernel) ?_
          simp only [e_ic_0, e_iret1, e_nil, nol_n, nol_I, nol_R, rsum_0, rsum_I, rsum_R, ps_s, ps_n, true_and, and_true, Nat.reduceAdd, Nat.reduceLeDiff, hd2, va, xa, vb, xb2, k5a, k5b, k6a, k6b, m7, h12, h13, e83, e93, e208, e137, e175, bi_0, Classical.not_not]
          exact ⟨by decide, h⟩
        · rw [show (t 3 a == 3) = true from beq_iff_eq.mpr c208] at h
          refine go_blk [(.iconst 1, 0, 0, 0), (.goto 4, 216, 0, 0), (.ireturn, 1, 0, 0)] (by decide +kernel) ?_
          simp only [e_ic_1, e_goto, e_iret1, e_nil, nol_n, nol_I, nol_R, rsum_0, rsum_I, rsum_R, ps_s, ps_n, true_and, and_true, Nat.reduceAdd, Nat.reduceLeDiff, hd2, va, xa, vb, xb2, k5a, k5b, k6a, k6b, m7, h12, h13, e83, e93, e208, e137, e175, bi_0, Classical.not_not]
          exact ⟨by decide, h⟩
  have s3 : ∀ (x : Bool) (y4 : Int32), P (some (vI (bi (x || (bn.testBit 3 && decide (nI (t 4 a) = la)) || (bn.testBit 4 && t 3 a == 3))))) μ → Go l K d 143 147 [some (vR 8 0 0), some (vI (nI a)), some (vI (nI b)), some (vI (nI (dst (t 5 a) (t 5 b)))), some (vI y4), some (vI (bi x))] [] μ P := by
    intro x y4 h
    refine go_blk [(.iload 5, 0, 0, 0), (.ifCond .ne 29, 178, 0, 0)] (by decide +kernel) ?_
    simp only [e_ilw_5, e_if_ne, e_nil, nol_n, nol_I, nol_R, rsum_0, rsum_I, rsum_R, ps_s, ps_n, true_and, and_true, Nat.reduceAdd, Nat.reduceLeDiff, hd2, va, xa, vb, xb2, k5a, k5b, k6a, k6b, m7, h12, h13, e83, e93, e208, e137, e175, bi_0, Classical.not_not]
    refine ⟨fun c149 => ?_, fun c149 => ?_⟩
    · rw [eq_true_of_ne_false c149, Bool.true_or] at h
      refine go_blk [(.iconst 1, 0, 0, 0), (.goto 4, 183, 0, 0), (.istore 5, 0, 0, 0)] (by decide +kernel) ?_
      simp only [e_ic_1, e_goto, e_isw_5n, e_isw_5I, e_isw_5R, e_nil, nol_n, nol_I, nol_R, rsum_0, rsum_I, rsum_R, ps_s, ps_n, true_and, and_true, Nat.reduceAdd, Nat.reduceLeDiff, hd2, va, xa, vb, xb2, k5a, k5b, k6a, k6b, m7, h12, h13, e83, e93, e208, e137, e175, bi_0, Classical.not_not]
      rw [← bi_t]
      exact s4 true _ h
    · rw [c149, Bool.false_or] at h
      refine go_blk [(.aload_n 0, 0, 0, 0), (.getfield 111, 8, 13, 0), (.iconst 3, 0, 0, 0), (.invokestatic 69, 104, 2, 0)] (by decide +kernel) ?_
      simp only [e_al_0, e_gf_8_13, e_ic_3, e_ivs_2, rd_8_13, e_nil, Nat.reduceLT, nol_n, nol_I, nol_R, rsum_0, rsum_I, rsum_R, ps_s, ps_n, true_and, and_true, Nat.reduceAdd, Nat.reduceLeDiff, hd2, va, xa, vb, xb2, k5a, k5b, k6a, k6b, m7, h12, h13, e83, e93, e208, e137, e175, bi_0, Classical.not_not]
      refine okm_has (c := 3) (by omega) (by omega) ?_
      refine go_blk [(.ifCond .eq 22, 182, 0, 0)] (by decide +kernel) ?_
      simp only [e_if_eq, e_nil, nol_n, nol_I, nol_R, rsum_0, rsum_I, rsum_R, ps_s, ps_n, true_and, and_true, Nat.reduceAdd, Nat.reduceLeDiff, hd2, va, xa, vb, xb2, k5a, k5b, k6a, k6b, m7, h12, h13, e83, e93, e208, e137, e175, bi_0, Classical.not_not]
      refine ⟨fun c160 => ?_, fun c160 => ?_⟩
      · rw [show bn.testBit 3 = false from c160, Bool.false_and] at h
        refine go_blk [(.iconst 0, 0, 0, 0), (.istore 5, 0, 0, 0)] (by decide +kernel) ?_
        simp only [e_ic_0, e_isw_5n, e_isw_5I, e_isw_5R, e_nil, nol_n, nol_I, nol_R, rsum_0, rsum_I, rsum_R, ps_s, ps_n, true_and, and_true, Nat.reduceAdd, Nat.reduceLeDiff, hd2, va, xa, vb, xb2, k5a, k5b, k6a, k6b, m7, h12, h13, e83, e93, e208, e137, e175, bi_0, Classical.not_not]
        rw [← bi_f]
        exact s4 false _ h
      · rw [show bn.testBit 3 = true from eq_true_of_ne_false c160, Bool.true_and] at h
        refine go_blk [(.aload_n 0, 0, 0, 0), (.getfield 16, 8, 12, 0), (.aload_n 0, 0, 0, 0), (.getfield 102, 8, 7, 0), (.iload_n 1, 0, 0, 0), (.ishr, 0, 0, 0), (.iconst 1, 0, 0, 0), (.iand, 0, 0, 0), (.if_icmp .ne 7, 182, 0, 0)] (by decide +kernel) ?_
        simp only [e_al_0, e_gf_8_12, e_gf_8_7, e_il_1, e_ishr, e_ic_1, e_iand, e_icmp_ne, rd_8_12, rd_8_7, e_nil, nol_n, nol_I, nol_R, rsum_0, rsum_I, rsum_R, ps_s, ps_n, true_and, and_true, Nat.reduceAdd, Nat.reduceLeDiff, hd2, va, xa, vb, xb2, k5a, k5b, k6a, k6b, m7, h12, h13, e83, e93, e208, e137, e175, bi_0, Classical.not_not]
        refine ⟨fun c175 => ?_, fun c175 => ?_⟩
        · rw [decide_eq_false (fun z => c175 z.symm)] at h
          refine go_blk [(.iconst 0, 0, 0, 0), (.istore 5, 0, 0, 0)] (by decide +kernel) ?_
          simp only [e_ic_0, e_isw_5n, e_isw_5I, e_isw_5R, e_nil, nol_n, nol_I, nol_R, rsum_0, rsum_I, rsum_R, ps_s, ps_n, true_and, and_true, Nat.reduceAdd, Nat.reduceLeDiff, hd2, va, xa, vb, xb2, k5a, k5b, k6a, k6b, m7, h12, h13, e83, e93, e208, e137, e175, bi_0, Classical.not_not]
          rw [← bi_f]
          exact s4 false _ h
        · rw [decide_eq_true c175.symm] at h
          refine go_blk [(.iconst 1, 0, 0, 0), (.goto 4, 183, 0, 0), (.istore 5, 0, 0, 0)] (by decide +kernel) ?_
          simp only [e_ic_1, e_goto, e_isw_5n, e_isw_5I, e_isw_5R, e_nil, nol_n, nol_I, nol_R, rsum_0, rsum_I, rsum_R, ps_s, ps_n, true_and, and_true, Nat.reduceAdd, Nat.reduceLeDiff, hd2, va, xa, vb, xb2, k5a, k5b, k6a, k6b, m7, h12, h13, e83, e93, e208, e137, e175, bi_0, Classical.not_not]
          rw [← bi_t]
          exact s4 true _ h
  have s2 : ∀ (x sl : Bool), P (some (vI (bi (x || (bn.testBit 1 && sl) || (bn.testBit 2 && dst (t 5 a) (t 5 b) == 1) || (bn.testBit 3 && decide (nI (t 4 a) = la)) || (bn.testBit 4 && t 3 a == 3))))) μ → Go l K d 143 103 [some (vR 8 0 0), some (vI (nI a)), some (vI (nI b)), some (vI (nI (dst (t 5 a) (t 5 b)))), some (vI (bi sl)), some (vI (bi x))] [] μ P := by
    intro x sl h
    refine go_blk [(.iload 5, 0, 0, 0), (.ifCond .ne 35, 140, 0, 0)] (by decide +kernel) ?_
    simp only [e_ilw_5, e_if_ne, e_nil, nol_n, nol_I, nol_R, rsum_0, rsum_I, rsum_R, ps_s, ps_n, true_and, and_true, Nat.reduceAdd, Nat.reduceLeDiff, hd2, va, xa, vb, xb2, k5a, k5b, k6a, k6b, m7, h12, h13, e83, e93, e208, e137, e175, bi_0, Classical.not_not]
    refine ⟨fun c105 => ?_, fun c105 => ?_⟩
    · rw [eq_true_of_ne_false c105, Bool.true_or, Bool.true_or] at h
      refine go_blk [(.iconst 1, 0, 0, 0), (.goto 4, 145, 0, 0), (.istore 5, 0, 0, 0)] (by decide +kernel) ?_
      simp only [e_ic_1, e_goto, e_isw_5n, e_isw_5I, e_isw_5R, e_nil, nol_n, nol_I, nol_R, rsum_0, rsum_I, rsum_R, ps_s, ps_n, true_and, and_true, Nat.reduceAdd, Nat.reduceLeDiff, hd2, va, xa, vb, xb2, k5a, k5b, k6a, k6b, m7, h12, h13, e83, e93, e208, e137, e175, bi_0, Classical.not_not]
      rw [← bi_t]
      exact s3 true _ h
    · rw [c105, Bool.false_or] at h
      refine go_blk [(.aload_n 0, 0, 0, 0), (.getfield 111, 8, 13, 0), (.iconst 1, 0, 0, 0), (.invokestatic 69, 104, 2, 0)] (by decide +kernel) ?_
      simp only [e_al_0, e_gf_8_13, e_ic_1, e_ivs_2, rd_8_13, e_nil, Nat.reduceLT, nol_n, nol_I, nol_R, rsum_0, rsum_I, rsum_R, ps_s, ps_n, true_and, and_true, Nat.reduceAdd, Nat.reduceLeDiff, hd2, va, xa, vb, xb2, k5a, k5b, k6a, k6b, m7, h12, h13, e83, e93, e208, e137, e175, bi_0, Classical.not_not]
      refine okm_has (c := 1) (by omega) (by omega) ?_
      refine go_blk [(.ifCond .eq 8, 124, 0, 0)] (by decide +kernel) ?_
      simp only [e_if_eq, e_nil, nol_n, nol_I, nol_R, rsum_0, rsum_I, rsum_R, ps_s, ps_n, true_and, and_true, Nat.reduceAdd, Nat.reduceLeDiff, hd2, va, xa, vb, xb2, k5a, k5b, k6a, k6b, m7, h12, h13, e83, e93, e208, e137, e175, bi_0, Classical.not_not]
      refine ⟨fun c116 => ?_, fun c116 => ?_⟩
      · rw [show bn.testBit 1 = false from c116, Bool.false_and, Bool.false_or] at h
        refine go_blk [(.aload_n 0, 0, 0, 0), (.getfield 111, 8, 13, 0), (.iconst 2, 0, 0, 0), (.invokestatic 69, 104, 2, 0)] (by decide +kernel) ?_
        simp only [e_al_0, e_gf_8_13, e_ic_2, e_ivs_2, rd_8_13, e_nil, Nat.reduceLT, nol_n, nol_I, nol_R, rsum_0, rsum_I, rsum_R, ps_s, ps_n, true_and, and_true, Nat.reduceAdd, Nat.reduceLeDiff, hd2, va, xa, vb, xb2, k5a, k5b, k6a, k6b, m7, h12, h13, e83, e93, e208, e137, e175, bi_0, Classical.not_not]
        refine okm_has (c := 2) (by omega) (by omega) ?_
        refine go_blk [(.ifCond .eq 12, 144, 0, 0)] (by decide +kernel) ?_
        simp only [e_if_eq, e_nil, nol_n, nol_I, nol_R, rsum_0, rsum_I, rsum_R, ps_s, ps_n, true_and, and_true, Nat.reduceAdd, Nat.reduceLeDiff, hd2, va, xa, vb, xb2, k5a, k5b, k6a, k6b, m7, h12, h13, e83, e93, e208, e137, e175, bi_0, Classical.not_not]
        refine ⟨fun c132 => ?_, fun c132 => ?_⟩
        · rw [show bn.testBit 2 = false from c132, Bool.false_and] at h
          refine go_blk [(.iconst 0, 0, 0, 0), (.istore 5, 0, 0, 0)] (by decide +kernel) ?_
          simp only [e_ic_0, e_isw_5n, e_isw_5I, e_isw_5R, e_nil, nol_n, nol_I, nol_R, rsum_0, rsum_I, rsum_R, ps_s, ps_n, true_and, and_true, Nat.reduceAdd, Nat.reduceLeDiff, hd2, va, xa, vb, xb2, k5a, k5b, k6a, k6b, m7, h12, h13, e83, e93, e208, e137, e175, bi_0, Classical.not_not]
          rw [← bi_f]
          exact s3 false _ h
        · rw [show bn.testBit 2 = true from eq_true_of_ne_false c132, Bool.true_and] at h
          refine go_blk [(.iload_n 3, 0, 0, 0), (.iconst 1, 0, 0, 0), (.if_icmp .ne 7, 144, 0, 0)] (by decide +kernel) ?_
          simp only [e_il_3, e_ic_1, e_icmp_ne, e_nil, nol_n, nol_I, nol_R, rsum_0, rsum_I, rsum_R, ps_s, ps_n, true_and, and_true, Nat.reduceAdd, Nat.reduceLeDiff, hd2, va, xa, vb, xb2, k5a, k5b, k6a, k6b, m7, h12, h13, e83, e93, e208, e137, e175, bi_0, Classical.not_not]
          refine ⟨fun c137 => ?_, fun c137 => ?_⟩
          · rw [show (dst (t 5 a) (t 5 b) == 1) = false from beq_eq_false_iff_ne.mpr c137] at h
            refine go_blk [(.iconst 0, 0, 0, 0), (.istore 5, 0, 0, 0)] (by decide +kernel) ?_
            simp only [e_ic_0, e_isw_5n, e_isw_5I, e_isw_5R, e_nil, nol_n, nol_I, nol_R, rsum_0, rsum_I, rsum_R, ps_s, ps_n, true_and, and_true, Nat.reduceAdd, Nat.reduceLeDiff, hd2, va, xa, vb, xb2, k5a, k5b, k6a, k6b, m7, h12, h13, e83, e93, e208, e137, e175, bi_0, Classical.not_not]
            rw [← bi_f]
            exact s3 false _ h
          · rw [show (dst (t 5 a) (t 5 b) == 1) = true from beq_iff_eq.mpr c137] at h
            refine go_blk [(.iconst 1, 0, 0, 0), (.goto 4, 145, 0, 0), (.istore 5, 0, 0, 0)] (by decide +kernel) ?_
            simp only [e_ic_1, e_goto, e_isw_5n, e_isw_5I, e_isw_5R, e_nil, nol_n, nol_I, nol_R, rsum_0, rsum_I, rsum_R, ps_s, ps_n, true_and, and_true, Nat.reduceAdd, Nat.reduceLeDiff, hd2, va, xa, vb, xb2, k5a, k5b, k6a, k6b, m7, h12, h13, e83, e93, e208, e137, e175, bi_0, Classical.not_not]
            rw [← bi_t]
            exact s3 true _ h
      · rw [show bn.testBit 1 = true from eq_true_of_ne_false c116, Bool.true_and] at h
        refine go_blk [(.iload 4, 0, 0, 0), (.ifCond .ne 19, 140, 0, 0)] (by decide +kernel) ?_
        simp only [e_ilw_4, e_if_ne, e_nil, nol_n, nol_I, nol_R, rsum_0, rsum_I, rsum_R, ps_s, ps_n, true_and, and_true, Nat.reduceAdd, Nat.reduceLeDiff, hd2, va, xa, vb, xb2, k5a, k5b, k6a, k6b, m7, h12, h13, e83, e93, e208, e137, e175, bi_0, Classical.not_not]
        refine ⟨fun c121 => ?_, fun c121 => ?_⟩
        · rw [eq_true_of_ne_false c121, Bool.true_or] at h
          refine go_blk [(.iconst 1, 0, 0, 0), (.goto 4, 145, 0, 0), (.istore 5, 0, 0, 0)] (by decide +kernel) ?_
          simp only [e_ic_1, e_goto, e_isw_5n, e_isw_5I, e_isw_5R, e_nil, nol_n, nol_I, nol_R, rsum_0, rsum_I, rsum_R, ps_s, ps_n, true_and, and_true, Nat.reduceAdd, Nat.reduceLeDiff, hd2, va, xa, vb, xb2, k5a, k5b, k6a, k6b, m7, h12, h13, e83, e93, e208, e137, e175, bi_0, Classical.not_not]
          rw [← bi_t]
          exact s3 true _ h
        · rw [c121, Bool.false_or] at h
          refine go_blk [(.aload_n 0, 0, 0, 0), (.getfield 111, 8, 13, 0), (.iconst 2, 0, 0, 0), (.invokestatic 69, 104, 2, 0)] (by decide +kernel) ?_
          simp only [e_al_0, e_gf_8_13, e_ic_2, e_ivs_2, rd_8_13, e_nil, Nat.reduceLT, nol_n, nol_I, nol_R, rsum_0, rsum_I, rsum_R, ps_s, ps_n, true_and, and_true, Nat.reduceAdd, Nat.reduceLeDiff, hd2, va, xa, vb, xb2, k5a, k5b, k6a, k6b, m7, h12, h13, e83, e93, e208, e137, e175, bi_0, Classical.not_not]
          refine okm_has (c := 2) (by omega) (by omega) ?_
          refine go_blk [(.ifCond .eq 12, 144, 0, 0)] (by decide +kernel) ?_
          simp only [e_if_eq, e_nil, nol_n, nol_I, nol_R, rsum_0, rsum_I, rsum_R, ps_s, ps_n, true_and, and_true, Nat.reduceAdd, Nat.reduceLeDiff, hd2, va, xa, vb, xb2, k5a, k5b, k6a, k6b, m7, h12, h13, e83, e93, e208, e137, e175, bi_0, Classical.not_not]
          refine ⟨fun c132 => ?_, fun c132 => ?_⟩
          · rw [show bn.testBit 2 = false from c132, Bool.false_and] at h
            refine go_blk [(.iconst 0, 0, 0, 0), (.istore 5, 0, 0, 0)] (by decide +kernel) ?_
            simp only [e_ic_0, e_isw_5n, e_isw_5I, e_isw_5R, e_nil, nol_n, nol_I, nol_R, rsum_0, rsum_I, rsum_R, ps_s, ps_n, true_and, and_true, Nat.reduceAdd, Nat.reduceLeDiff, hd2, va, xa, vb, xb2, k5a, k5b, k6a, k6b, m7, h12, h13, e83, e93, e208, e137, e175, bi_0, Classical.not_not]
            rw [← bi_f]
            exact s3 false _ h
          · rw [show bn.testBit 2 = true from eq_true_of_ne_false c132, Bool.true_and] at h
            refine go_blk [(.iload_n 3, 0, 0, 0), (.iconst 1, 0, 0, 0), (.if_icmp .ne 7, 144, 0, 0)] (by decide +kernel) ?_
            simp only [e_il_3, e_ic_1, e_icmp_ne, e_nil, nol_n, nol_I, nol_R, rsum_0, rsum_I, rsum_R, ps_s, ps_n, true_and, and_true, Nat.reduceAdd, Nat.reduceLeDiff, hd2, va, xa, vb, xb2, k5a, k5b, k6a, k6b, m7, h12, h13, e83, e93, e208, e137, e175, bi_0, Classical.not_not]
            refine ⟨fun c137 => ?_, fun c137 => ?_⟩
            · rw [show (dst (t 5 a) (t 5 b) == 1) = false from beq_eq_false_iff_ne.mpr c137] at h
              refine go_blk [(.iconst 0, 0, 0, 0), (.istore 5, 0, 0, 0)] (by decide +kernel) ?_
              simp only [e_ic_0, e_isw_5n, e_isw_5I, e_isw_5R, e_nil, nol_n, nol_I, nol_R, rsum_0, rsum_I, rsum_R, ps_s, ps_n, true_and, and_true, Nat.reduceAdd, Nat.reduceLeDiff, hd2, va, xa, vb, xb2, k5a, k5b, k6a, k6b, m7, h12, h13, e83, e93, e208, e137, e175, bi_0, Classical.not_not]
              rw [← bi_f]
              exact s3 false _ h
            · rw [show (dst (t 5 a) (t 5 b) == 1) = true from beq_iff_eq.mpr c137] at h
              refine go_blk [(.iconst 1, 0, 0, 0), (.goto 4, 145, 0, 0), (.istore 5, 0, 0, 0)] (by decide +kernel) ?_
              simp only [e_ic_1, e_goto, e_isw_5n, e_isw_5I, e_isw_5R, e_nil, nol_n, nol_I, nol_R, rsum_0, rsum_I, rsum_R, ps_s, ps_n, true_and, and_true, Nat.reduceAdd, Nat.reduceLeDiff, hd2, va, xa, vb, xb2, k5a, k5b, k6a, k6b, m7, h12, h13, e83, e93, e208, e137, e175, bi_0, Classical.not_not]
              rw [← bi_t]
              exact s3 true _ h
  have s1 : ∀ (sl : Bool) (y5 : Option AV), P (some (vI (bi ((bn.testBit 0 && (t 3 b == 1 || t 3 b == 4)) || (bn.testBit 1 && sl) || (bn.testBit 2 && dst (t 5 a) (t 5 b) == 1) || (bn.testBit 3 && decide (nI (t 4 a) = la)) || (bn.testBit 4 && t 3 a == 3))))) μ → Go l K d 143 65 [some (vR 8 0 0), some (vI (nI a)), some (vI (nI b)), some (vI (nI (dst (t 5 a) (t 5 b)))), some (vI (bi sl)), y5] [] μ P := by
    intro sl y5 h
    refine go_blk [(.aload_n 0, 0, 0, 0), (.getfield 111, 8, 13, 0), (.iconst 0, 0, 0, 0), (.invokestatic 69, 104, 2, 0)] (by decide +kernel) ?_
    simp only [e_al_0, e_gf_8_13, e_ic_0, e_ivs_2, rd_8_13, e_nil, Nat.reduceLT, nol_n, nol_I, nol_R, rsum_0, rsum_I, rsum_R, ps_s, ps_n, true_and, and_true, Nat.reduceAdd, Nat.reduceLeDiff, hd2, va, xa, vb, xb2, k5a, k5b, k6a, k6b, m7, h12, h13, e83, e93, e208, e137, e175, bi_0, Classical.not_not]
    refine okm_has (c := 0) (by omega) (by omega) ?_
    refine go_blk [(.ifCond .eq 27, 100, 0, 0)] (by decide +kernel) ?_
    simp only [e_if_eq, e_nil, nol_n, nol_I, nol_R, rsum_0, rsum_I, rsum_R, ps_s, ps_n, true_and, and_true, Nat.reduceAdd, Nat.reduceLeDiff, hd2, va, xa, vb, xb2, k5a, k5b, k6a, k6b, m7, h12, h13, e83, e93, e208, e137, e175, bi_0, Classical.not_not]
    refine ⟨fun c73 => ?_, fun c73 => ?_⟩
    · rw [show bn.testBit 0 = false from c73, Bool.false_and] at h
      refine go_blk [(.iconst 0, 0, 0, 0), (.istore 5, 0, 0, 0)] (by decide +kernel) ?_
      simp only [e_ic_0, e_isw_5n, e_isw_5I, e_isw_5R, e_nil, nol_n, nol_I, nol_R, rsum_0, rsum_I, rsum_R, ps_s, ps_n, true_and, and_true, Nat.reduceAdd, Nat.reduceLeDiff, hd2, va, xa, vb, xb2, k5a, k5b, k6a, k6b, m7, h12, h13, e83, e93, e208, e137, e175, bi_0, Classical.not_not]
      rw [← bi_f]
      exact s2 false sl h
    · rw [show bn.testBit 0 = true from eq_true_of_ne_false c73, Bool.true_and] at h
      refine go_blk [(.aload_n 0, 0, 0, 0), (.getfield 7, 8, 4, 0), (.iload_n 2, 0, 0, 0), (.iaload, 0, 0, 0), (.iconst 1, 0, 0, 0), (.if_icmp .eq 13, 96, 0, 0)] (by decide +kernel) ?_
      simp only [e_al_0, e_gf_8_4, e_il_2, e_ia, e_ic_1, e_icmp_eq, rd_8_4, ai_0_4, ai_1_7, ai_2_1, ai_2_2, ai_3_1, ai_4_1, ai_6_3, ai_6_4, ai_6_5, ai_6_6, ai_6_7, ai_6_8, ai_8_5, ai_8_6, ai_8_17, ai_8_21, ai_8_23, ai_8_24, ai_8_27, ai_8_28, ai_8_38, ai_8_39, ai_8_40, e_nil, nol_n, nol_I, nol_R, rsum_0, rsum_I, rsum_R, ps_s, ps_n, true_and, and_true, Nat.reduceAdd, Nat.reduceLeDiff, hd2, va, xa, vb, xb2, k5a, k5b, k6a, k6b, m7, h12, h13, e83, e93, e208, e137, e175, bi_0, Classical.not_not]
      refine ⟨fun c83 => ?_, fun c83 => ?_⟩
      · rw [show (t 3 b == 1) = true from beq_iff_eq.mpr c83, Bool.true_or] at h
        refine go_blk [(.iconst 1, 0, 0, 0), (.goto 4, 101, 0, 0), (.istore 5, 0, 0, 0)] (by decide +kernel) ?_
        simp only [e_ic_1, e_goto, e_isw_5n, e_isw_5I, e_isw_5R, e_nil, nol_n, nol_I, nol_R, rsum_0, rsum_I, rsum_R, ps_s, ps_n, true_and, and_true, Nat.reduceAdd, Nat.reduceLeDiff, hd2, va, xa, vb, xb2, k5a, k5b, k6a, k6b, m7, h12, h13, e83, e93, e208, e137, e175, bi_0, Classical.not_not]
        rw [← bi_t]
        exact s2 true sl h
      · rw [show (t 3 b == 1) = false from beq_eq_false_iff_ne.mpr c83, Bool.false_or] at h
        refine go_blk [(.aload_n 0, 0, 0, 0), (.getfield 7, 8, 4, 0), (.iload_n 2, 0, 0, 0), (.iaload, 0, 0, 0), (.iconst 4, 0, 0, 0), (.if_icmp .ne 7, 100, 0, 0)] (by decide +kernel) ?_
        simp only [e_al_0, e_gf_8_4, e_il_2, e_ia, e_ic_4, e_icmp_ne, rd_8_4, ai_0_4, ai_1_7, ai_2_1, ai_2_2, ai_3_1, ai_4_1, ai_6_3, ai_6_4, ai_6_5, ai_6_6, ai_6_7, ai_6_8, ai_8_5, ai_8_6, ai_8_17, ai_8_21, ai_8_23, ai_8_24, ai_8_27, ai_8_28, ai_8_38, ai_8_39, ai_8_40, e_nil, nol_n, nol_I, nol_R, rsum_0, rsum_I, rsum_R, ps_s, ps_n, true_and, and_true, Nat.reduceAdd, Nat.reduceLeDiff, hd2, va, xa, vb, xb2, k5a, k5b, k6a, k6b, m7, h12, h13, e83, e93, e208, e137, e175, bi_0, Classical.not_not]
        refine ⟨fun c93 => ?_, fun c93 => ?_⟩
        · rw [show (t 3 b == 4) = false from beq_eq_false_iff_ne.mpr c93] at h
          refine go_blk [(.iconst 0, 0, 0, 0), (.istore 5, 0, 0, 0)] (by decide +kernel) ?_
          simp only [e_ic_0, e_isw_5n, e_isw_5I, e_isw_5R, e_nil, nol_n, nol_I, nol_R, rsum_0, rsum_I, rsum_R, ps_s, ps_n, true_and, and_true, Nat.reduceAdd, Nat.reduceLeDiff, hd2, va, xa, vb, xb2, k5a, k5b, k6a, k6b, m7, h12, h13, e83, e93, e208, e137, e175, bi_0, Classical.not_not]
          rw [← bi_f]
          exact s2 false sl h
        · rw [show (t 3 b == 4) = true from beq_iff_eq.mpr c93] at h
          refine go_blk [(.iconst 1, 0, 0, 0), (.goto 4, 101, 0, 0), (.istore 5, 0, 0, 0)] (by decide +kernel) ?_
          simp only [e_ic_1, e_goto, e_isw_5n, e_isw_5I, e_isw_5R, e_nil, nol_n, nol_I, nol_R, rsum_0, rsum_I, rsum_R, ps_s, ps_n, true_and, and_true, Nat.reduceAdd, Nat.reduceLeDiff, hd2, va, xa, vb, xb2, k5a, k5b, k6a, k6b, m7, h12, h13, e83, e93, e208, e137, e175, bi_0, Classical.not_not]
          rw [← bi_t]
          exact s2 true sl h
  have sl := sl_tb (t 5 a) ra.2.2.1 (t 5 b) rb.2.2.1
  rw [← sl] at h
  refine go_blk [(.aload_n 0, 0, 0, 0), (.getfield 13, 8, 5, 0), (.iload_n 1, 0, 0, 0), (.iaload, 0, 0, 0), (.aload_n 0, 0, 0, 0), (.getfield 13, 8, 5, 0), (.iload_n 2, 0, 0, 0), (.iaload, 0, 0, 0), (.invokestatic 132, 121, 2, 0)] (by decide +kernel) ?_
  simp only [e_al_0, e_gf_8_5, e_il_1, e_ia, e_il_2, e_ivs_2, rd_8_5, ai_0_4, ai_1_7, ai_2_1, ai_2_2, ai_3_1, ai_4_1, ai_6_3, ai_6_4, ai_6_5, ai_6_6, ai_6_7, ai_6_8, ai_8_5, ai_8_6, ai_8_17, ai_8_21, ai_8_23, ai_8_24, ai_8_27, ai_8_28, ai_8_38, ai_8_39, ai_8_40, e_nil, Nat.reduceLT, nol_n, nol_I, nol_R, rsum_0, rsum_I, rsum_R, ps_s, ps_n, true_and, and_true, Nat.reduceAdd, Nat.reduceLeDiff, hd2, va, xa, vb, xb2, k5a, k5b, k6a, k6b, m7, h12, h13, e83, e93, e208, e137, e175, bi_0, Classical.not_not]
  refine okm_distance ra.2.2.1 rb.2.2.1 (by omega) ?_
  rw [d1]
  refine go_blk [(.istore_n 3, 0, 0, 0), (.aload_n 0, 0, 0, 0), (.getfield 13, 8, 5, 0), (.iload_n 1, 0, 0, 0), (.iaload, 0, 0, 0), (.invokestatic 120, 117, 1, 0)] (by decide +kernel) ?_
  simp only [e_is_3n, e_is_3I, e_is_3R, e_al_0, e_gf_8_5, e_il_1, e_ia, e_ivs_1, rd_8_5, ai_0_4, ai_1_7, ai_2_1, ai_2_2, ai_3_1, ai_4_1, ai_6_3, ai_6_4, ai_6_5, ai_6_6, ai_6_7, ai_6_8, ai_8_5, ai_8_6, ai_8_17, ai_8_21, ai_8_23, ai_8_24, ai_8_27, ai_8_28, ai_8_38, ai_8_39, ai_8_40, e_nil, Nat.reduceLT, nol_n, nol_I, nol_R, rsum_0, rsum_I, rsum_R, ps_s, ps_n, true_and, and_true, Nat.reduceAdd, Nat.reduceLeDiff, hd2, va, xa, vb, xb2, k5a, k5b, k6a, k6b, m7, h12, h13, e83, e93, e208, e137, e175, bi_0, Classical.not_not]
  refine okm_rowOf ?_
  refine go_blk [(.aload_n 0, 0, 0, 0), (.getfield 13, 8, 5, 0), (.iload_n 2, 0, 0, 0), (.iaload, 0, 0, 0), (.invokestatic 120, 117, 1, 0)] (by decide +kernel) ?_
  simp only [e_al_0, e_gf_8_5, e_il_2, e_ia, e_ivs_1, rd_8_5, ai_0_4, ai_1_7, ai_2_1, ai_2_2, ai_3_1, ai_4_1, ai_6_3, ai_6_4, ai_6_5, ai_6_6, ai_6_7, ai_6_8, ai_8_5, ai_8_6, ai_8_17, ai_8_21, ai_8_23, ai_8_24, ai_8_27, ai_8_28, ai_8_38, ai_8_39, ai_8_40, e_nil, Nat.reduceLT, nol_n, nol_I, nol_R, rsum_0, rsum_I, rsum_R, ps_s, ps_n, true_and, and_true, Nat.reduceAdd, Nat.reduceLeDiff, hd2, va, xa, vb, xb2, k5a, k5b, k6a, k6b, m7, h12, h13, e83, e93, e208, e137, e175, bi_0, Classical.not_not]
  refine okm_rowOf ?_
  refine go_blk [(.if_icmp .eq 28, 62, 0, 0)] (by decide +kernel) ?_
  simp only [e_icmp_eq, e_nil, nol_n, nol_I, nol_R, rsum_0, rsum_I, rsum_R, ps_s, ps_n, true_and, and_true, Nat.reduceAdd, Nat.reduceLeDiff, hd2, va, xa, vb, xb2, k5a, k5b, k6a, k6b, m7, h12, h13, e83, e93, e208, e137, e175, bi_0, Classical.not_not]
  refine ⟨fun c34 => ?_, fun c34 => ?_⟩
  · rw [decide_eq_true c34, Bool.not_true, Bool.false_and] at h
    refine go_blk [(.iconst 0, 0, 0, 0), (.istore 4, 0, 0, 0)] (by decide +kernel) ?_
    simp only [e_ic_0, e_isw_4n, e_isw_4I, e_isw_4R, e_nil, nol_n, nol_I, nol_R, rsum_0, rsum_I, rsum_R, ps_s, ps_n, true_and, and_true, Nat.reduceAdd, Nat.reduceLeDiff, hd2, va, xa, vb, xb2, k5a, k5b, k6a, k6b, m7, h12, h13, e83, e93, e208, e137, e175, bi_0, Classical.not_not]
    rw [← bi_f]
    exact s1 false _ h
  · rw [decide_eq_false c34, Bool.not_false, Bool.true_and] at h
    refine go_blk [(.aload_n 0, 0, 0, 0), (.getfield 13, 8, 5, 0), (.iload_n 1, 0, 0, 0), (.iaload, 0, 0, 0), (.invokestatic 126, 118, 1, 0)] (by decide +kernel) ?_
    simp only [e_al_0, e_gf_8_5, e_il_1, e_ia, e_ivs_1, rd_8_5, ai_0_4, ai_1_7, ai_2_1, ai_2_2, ai_3_1, ai_4_1, ai_6_3, ai_6_4, ai_6_5, ai_6_6, ai_6_7, ai_6_8, ai_8_5, ai_8_6, ai_8_17, ai_8_21, ai_8_23, ai_8_24, ai_8_27, ai_8_28, ai_8_38, ai_8_39, ai_8_40, e_nil, Nat.reduceLT, nol_n, nol_I, nol_R, rsum_0, rsum_I, rsum_R, ps_s, ps_n, true_and, and_true, Nat.reduceAdd, Nat.reduceLeDiff, hd2, va, xa, vb, xb2, k5a, k5b, k6a, k6b, m7, h12, h13, e83, e93, e208, e137, e175, bi_0, Classical.not_not]
    refine okm_columnOf ?_
    refine go_blk [(.aload_n 0, 0, 0, 0), (.getfield 13, 8, 5, 0), (.iload_n 2, 0, 0, 0), (.iaload, 0, 0, 0), (.invokestatic 126, 118, 1, 0)] (by decide +kernel) ?_
    simp only [e_al_0, e_gf_8_5, e_il_2, e_ia, e_ivs_1, rd_8_5, ai_0_4, ai_1_7, ai_2_1, ai_2_2, ai_3_1, ai_4_1, ai_6_3, ai_6_4, ai_6_5, ai_6_6, ai_6_7, ai_6_8, ai_8_5, ai_8_6, ai_8_17, ai_8_21, ai_8_23, ai_8_24, ai_8_27, ai_8_28, ai_8_38, ai_8_39, ai_8_40, e_nil, Nat.reduceLT, nol_n, nol_I, nol_R, rsum_0, rsum_I, rsum_R, ps_s, ps_n, true_and, and_true, Nat.reduceAdd, Nat.reduceLeDiff, hd2, va, xa, vb, xb2, k5a, k5b, k6a, k6b, m7, h12, h13, e83, e93, e208, e137, e175, bi_0, Classical.not_not]
    refine okm_columnOf ?_
    refine go_blk [(.if_icmp .eq 7, 62, 0, 0)] (by decide +kernel) ?_
    simp only [e_icmp_eq, e_nil, nol_n, nol_I, nol_R, rsum_0, rsum_I, rsum_R, ps_s, ps_n, true_and, and_true, Nat.reduceAdd, Nat.reduceLeDiff, hd2, va, xa, vb, xb2, k5a, k5b, k6a, k6b, m7, h12, h13, e83, e93, e208, e137, e175, bi_0, Classical.not_not]
    refine ⟨fun c55 => ?_, fun c55 => ?_⟩
    · rw [decide_eq_true c55, Bool.not_true] at h
      refine go_blk [(.iconst 0, 0, 0, 0), (.istore 4, 0, 0, 0)] (by decide +kernel) ?_
      simp only [e_ic_0, e_isw_4n, e_isw_4I, e_isw_4R, e_nil, nol_n, nol_I, nol_R, rsum_0, rsum_I, rsum_R, ps_s, ps_n, true_and, and_true, Nat.reduceAdd, Nat.reduceLeDiff, hd2, va, xa, vb, xb2, k5a, k5b, k6a, k6b, m7, h12, h13, e83, e93, e208, e137, e175, bi_0, Classical.not_not]
      rw [← bi_f]
      exact s1 false _ h
    · rw [decide_eq_false c55, Bool.not_false] at h
      refine go_blk [(.iconst 1, 0, 0, 0), (.goto 4, 63, 0, 0), (.istore 4, 0, 0, 0)] (by decide +kernel) ?_
      simp only [e_ic_1, e_goto, e_isw_4n, e_isw_4I, e_isw_4R, e_nil, nol_n, nol_I, nol_R, rsum_0, rsum_I, rsum_R, ps_s, ps_n, true_and, and_true, Nat.reduceAdd, Nat.reduceLeDiff, hd2, va, xa, vb, xb2, k5a, k5b, k6a, k6b, m7, h12, h13, e83, e93, e208, e137, e175, bi_0, Classical.not_not]
      rw [← bi_t]
      exact s1 true _ h
