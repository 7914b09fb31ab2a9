theorem sol_eq {n : Nat} {x : Int32} (hn : n ≤ 6) : (!decide (x < 0) && !decide (nI n - 1 < x)) = hasI n x := by
  have h1 : (nI n - 1).toInt = (n : Int) - 1 := pk_sub_toInt (b := 1) (by omega) (by omega)
  have h6 : (6 : Int32).toInt = 6 := rfl
  have e : (nI n - 1 < x) = (nI n ≤ x) := by
    apply propext
    rw [Int32.lt_iff_toInt_lt, Int32.le_iff_toInt_le, h1, nI_toInt (by omega)]
    omega
  unfold hasI
  simp only [e]
  by_cases q : nI n ≤ x
  · simp [q]
  · have q2 : ¬ (6 : Int32) ≤ x := by
      rw [Int32.le_iff_toInt_le, nI_toInt (by omega)] at q
      rw [Int32.le_iff_toInt_le, h6]
      omega
    simp [q, q2]
theorem okm_sol {l : Launch} {K : KK} {d : Nat} {μ : Mm} {P : Option AV → Mm → Prop} {n : Nat} {x : Int32} (hn : n ≤ 6) (h3 : μ 8 0 0 3 = nI n) (hd1 : 1 ≤ d) (h : P (some (vI (bi (hasI n x)))) μ) : Ok l K d 128 [vR 8 0 0, vI x] μ P := by
  refine ok_go 2 (by decide +kernel) [some (vR 8 0 0), some (vI x)] rfl (Nat.le_of_ble_eq_true rfl) ?_
  refine go_blk [(.iload_n 1, 0, 0, 0), (.iconst 0, 0, 0, 0), (.aload_n 0, 0, 0, 0), (.getfield 96, 8, 3, 0), (.iconst 1, 0, 0, 0), (.isub, 0, 0, 0), (.invokestatic 51, 103, 3, 0)] (by decide +kernel) ?_
  simp only [e_il_1, e_ic_0, e_al_0, e_gf_8_3, e_ic_1, e_isub, e_ivs_3, rd_8_3, e_nil, Nat.reduceLT, nol_n, nol_I, nol_R, rsum_0, rsum_I, rsum_R, ps_s, ps_n, true_and, and_true, Nat.reduceAdd, Nat.reduceLeDiff, h3, hd1]
  refine okm_within ?_
  rw [sol_eq hn]
  refine go_blk [(.ireturn, 1, 0, 0)] (by decide +kernel) ?_
  simp only [e_iret1, e_nil, nol_n, nol_I, nol_R, rsum_0, rsum_I, rsum_R, ps_s, ps_n, true_and, and_true, Nat.reduceAdd, Nat.reduceLeDiff, h3, hd1]
  exact ⟨bi_01 _, h⟩
theorem okm_cellNow {l : Launch} {K : KK} {d : Nat} {μ : Mm} {P : Option AV → Mm → Prop} {op c wh : Nat} {t : TS} (hI : TInv op t) (hM : MRep μ t) (ho : μ 8 0 0 2 = nI op) (hop : op < 2 ^ 15) (hc : c < 15) (hw : wh < 3) (hd1 : 4 ≤ d) (h : P (some (vI (if wh = 0 then bi (op.testBit c) else if wh = 1 then who t c else nI (sn op c)))) μ) : Ok l K d 126 [vR 8 0 0, vI (nI c), vI (nI wh)] μ P := by
  refine ok_go 3 (by decide +kernel) [some (vR 8 0 0), some (vI (nI c)), some (vI (nI wh))] rfl (Nat.le_of_ble_eq_true rfl) ?_
  have hd2 : 1 ≤ d := by omega
  have e1 : (nI wh = 0) = (wh = 0) := propext (nI_eq (b := 0) (by omega) (by omega))
  have e17 : (nI wh = 1) = (wh = 1) := propext (nI_eq (b := 1) (by omega) (by omega))
  have eb := nI_bitb (m := op) (c := c) (by omega) (by omega)
  refine go_blk [(.iload_n 2, 0, 0, 0), (.ifCond .ne 14, 15, 0, 0)] (by decide +kernel) ?_
  simp only [e_il_2, e_if_ne, e_nil, nol_n, nol_I, nol_R, rsum_0, rsum_I, rsum_R, ps_s, ps_n, true_and, and_true, Nat.reduceAdd, Nat.reduceLeDiff, hd2, e1, e17, ho, eb]
  refine ⟨fun c1 => ?_, fun c1 => ?_⟩
  · rw [if_neg c1] at h
    refine go_blk [(.iload_n 2, 0, 0, 0), (.iconst 1, 0, 0, 0), (.if_icmp .ne 11, 28, 0, 0)] (by decide +kernel) ?_
    simp only [e_il_2, e_ic_1, e_icmp_ne, e_nil, nol_n, nol_I, nol_R, rsum_0, rsum_I, rsum_R, ps_s, ps_n, true_and, and_true, Nat.reduceAdd, Nat.reduceLeDiff, hd2, e1, e17, ho, eb]
    refine ⟨fun c17 => ?_, fun c17 => ?_⟩
    · rw [if_neg c17] at h
      refine go_blk [(.aload_n 0, 0, 0, 0), (.iload_n 1, 0, 0, 0), (.invokevirtual 146, 125, 1, 8)] (by decide +kernel) ?_
      simp only [e_al_0, e_il_1, e_iv_8_1, e_nil, nol_n, nol_I, nol_R, rsum_0, rsum_I, rsum_R, ps_s, ps_n, true_and, and_true, Nat.reduceAdd, Nat.reduceLeDiff, hd2, e1, e17, ho, eb]
      refine okm_seen hc ho hop (by omega) ?_
      refine go_blk [(.ireturn, 0, 0, 0)] (by decide +kernel) ?_
      simp only [e_iret0, e_nil, nol_n, nol_I, nol_R, rsum_0, rsum_I, rsum_R, ps_s, ps_n, true_and, and_true, Nat.reduceAdd, Nat.reduceLeDiff, hd2, e1, e17, ho, eb]
      exact h
    · rw [if_pos c17] at h
      refine go_blk [(.aload_n 0, 0, 0, 0), (.iload_n 1, 0, 0, 0), (.invokevirtual 143, 123, 1, 8)] (by decide +kernel) ?_
      simp only [e_al_0, e_il_1, e_iv_8_1, e_nil, nol_n, nol_I, nol_R, rsum_0, rsum_I, rsum_R, ps_s, ps_n, true_and, and_true, Nat.reduceAdd, Nat.reduceLeDiff, hd2, e1, e17, ho, eb]
      refine okm_who hI hM hc ?_
      rw [← who_eN hI.1]
      refine go_blk [(.goto 8, 33, 0, 0), (.ireturn, 0, 0, 0)] (by decide +kernel) ?_
      simp only [e_goto, e_iret0, e_nil, nol_n, nol_I, nol_R, rsum_0, rsum_I, rsum_R, ps_s, ps_n, true_and, and_true, Nat.reduceAdd, Nat.reduceLeDiff, hd2, e1, e17, ho, eb]
      exact h
  · rw [if_pos c1] at h
    refine go_blk [(.aload_n 0, 0, 0, 0), (.getfield 80, 8, 2, 0), (.iload_n 1, 0, 0, 0), (.ishr, 0, 0, 0), (.iconst 1, 0, 0, 0), (.iand, 0, 0, 0), (.goto 21, 33, 0, 0), (.ireturn, 0, 0, 0)] (by decide +kernel) ?_
    simp only [e_al_0, e_gf_8_2, e_il_1, e_ishr, e_ic_1, e_iand, e_goto, e_iret0, rd_8_2, e_nil, nol_n, nol_I, nol_R, rsum_0, rsum_I, rsum_R, ps_s, ps_n, true_and, and_true, Nat.reduceAdd, Nat.reduceLeDiff, hd2, e1, e17, ho, eb]
    exact h
theorem xm_cell {l : Launch} {K : KK} {d : Nat} {μ : Mm} {P : Option AV → Mm → Prop} {N : Nat} {S : SS} {x y : Int32} (hV : Inv N S) (hR : RM μ S) (hd1 : 14 ≤ d) (h : ∀ μ2, RM μ2 (S) → OffX μ μ2 → P (some (vI (vCell x y S))) μ2) : Ok l K d 127 [vR 8 0 0, vI x, vI y] μ P := by
  refine ok_go 3 (by decide +kernel) [some (vR 8 0 0), some (vI x), some (vI y)] rfl (Nat.le_of_ble_eq_true rfl) ?_
  have hR0 := hR
  have hV0 := hV
  obtain ⟨⟨L, pg⟩, ⟨laid, op⟩, t, ⟨f, cs⟩, ⟨im, t2, f2, cs2⟩, q, w, b⟩ := S
  obtain ⟨⟨rP, r0, r2⟩, ⟨rM, rG⟩, ⟨rK, rK2⟩, ⟨r1, r17, r18⟩⟩ := hR
  obtain ⟨⟨iL, iP⟩, ⟨iO, iO2⟩, ⟨iT, iF⟩, iK, ⟨iq, iw, ib⟩⟩ := hV
  have hd2 : 1 ≤ d := by omega
  refine go_blk [(.aload_n 0, 0, 0, 0), (.iload_n 1, 0, 0, 0), (.invokevirtual 149, 116, 1, 8)] (by decide +kernel) ?_
  simp only [e_al_0, e_il_1, e_iv_8_1, e_nil, nol_n, nol_I, nol_R, rsum_0, rsum_I, rsum_R, ps_s, ps_n, true_and, and_true, Nat.reduceAdd, Nat.reduceLeDiff, hd2, bi_0]
  refine okm_isCell r0 (by omega) ?_
  refine go_blk [(.ifCond .ne 8, 13, 0, 0)] (by decide +kernel) ?_
  simp only [e_if_ne, e_nil, nol_n, nol_I, nol_R, rsum_0, rsum_I, rsum_R, ps_s, ps_n, true_and, and_true, Nat.reduceAdd, Nat.reduceLeDiff, hd2, bi_0]
  refine ⟨fun c5 => ?_, fun c5 => ?_⟩
  · have c8b : clB laid x = true := eq_true_of_ne_false c5
    obtain ⟨hl, c, hc, rfl⟩ := cl_of c8b
    have xc : ix (nI c) = c := nI_ix (by omega)
    refine go_blk [(.iload_n 2, 0, 0, 0), (.iconst 0, 0, 0, 0), (.iconst 2, 0, 0, 0), (.invokestatic 51, 103, 3, 0)] (by decide +kernel) ?_
    simp only [e_il_2, e_ic_0, e_ic_2, e_ivs_3, e_nil, Nat.reduceLT, nol_n, nol_I, nol_R, rsum_0, rsum_I, rsum_R, ps_s, ps_n, true_and, and_true, Nat.reduceAdd, Nat.reduceLeDiff, hd2, bi_0]
    refine okm_within ?_
    refine go_blk [(.ifCond .eq 12, 31, 0, 0)] (by decide +kernel) ?_
    simp only [e_if_eq, e_nil, nol_n, nol_I, nol_R, rsum_0, rsum_I, rsum_R, ps_s, ps_n, true_and, and_true, Nat.reduceAdd, Nat.reduceLeDiff, hd2, bi_0]
    refine ⟨fun c19 => ?_, fun c19 => ?_⟩
    · have e : vCell (nI c) y ((L, pg), (laid, op), t, (f, cs), (im, t2, f2, cs2), (q, w, b)) = -102 := by
        show (if clB laid (nI c) = true then (if _ then _ else if _ then _ else if _ then _ else _) else _) = _
        rw [if_pos c8b, if_neg (fun z => by rw [z] at c19; revert c19; decide), if_neg (fun z => by rw [z] at c19; revert c19; decide), if_neg (fun z => by rw [z] at c19; revert c19; decide)]
      rw [e] at h
      refine go_blk [(.bipush (-102), 0, 0, 0), (.ireturn, 0, 0, 0)] (by decide +kernel) ?_
      simp only [e_bp_m102, e_iret0, e_nil, nol_n, nol_I, nol_R, rsum_0, rsum_I, rsum_R, ps_s, ps_n, true_and, and_true, Nat.reduceAdd, Nat.reduceLeDiff, hd2, bi_0]
      exact h μ hR0 (offx_rf μ)
    · have wi := eq_true_of_ne_false c19
      rw [Bool.and_eq_true, Bool.not_eq_true', Bool.not_eq_true', decide_eq_false_iff_not, decide_eq_false_iff_not] at wi
      obtain ⟨v, hv, rfl⟩ := nI_of2 (n := 2) rfl wi.1 (nlt32 wi.2)
      have e : vCell (nI c) (nI v) ((L, pg), (laid, op), t, (f, cs), (im, t2, f2, cs2), (q, w, b)) = (if v = 0 then bi (op.testBit c) else if v = 1 then who t c else nI (sn op c)) := by
        show (if clB laid (nI c) = true then (if nI v = 0 then _ else if nI v = 1 then _ else if nI v = 2 then _ else _) else _) = _
        rw [if_pos c8b, xc]
        rcases (show v = 0 ∨ v = 1 ∨ v = 2 by omega) with z | z | z <;> subst z <;> rfl
      rw [e] at h
      refine go_blk [(.aload_n 0, 0, 0, 0), (.iload_n 1, 0, 0, 0), (.iload_n 2, 0, 0, 0), (.invokevirtual 152, 126, 2, 8)] (by decide +kernel) ?_
      simp only [e_al_0, e_il_1, e_il_2, e_iv_8_2, e_nil, nol_n, nol_I, nol_R, rsum_0, rsum_I, rsum_R, ps_s, ps_n, true_and, and_true, Nat.reduceAdd, Nat.reduceLeDiff, hd2, bi_0]
      refine okm_cellNow iT rM r2 iO hc (by omega) (by omega) ?_
      refine go_blk [(.goto 5, 33, 0, 0), (.ireturn, 0, 0, 0)] (by decide +kernel) ?_
      simp only [e_goto, e_iret0, e_nil, nol_n, nol_I, nol_R, rsum_0, rsum_I, rsum_R, ps_s, ps_n, true_and, and_true, Nat.reduceAdd, Nat.reduceLeDiff, hd2, bi_0]
      exact h μ hR0 (offx_rf μ)
  · have e : vCell x y ((L, pg), (laid, op), t, (f, cs), (im, t2, f2, cs2), (q, w, b)) = -101 := if_neg (by rw [show clB laid x = false from c5]; decide)
    rw [e] at h
    refine go_blk [(.bipush (-101), 0, 0, 0), (.goto 23, 33, 0, 0), (.ireturn, 0, 0, 0)] (by decide +kernel) ?_
    simp only [e_bp_m101, e_goto, e_iret0, e_nil, nol_n, nol_I, nol_R, rsum_0, rsum_I, rsum_R, ps_s, ps_n, true_and, and_true, Nat.reduceAdd, Nat.reduceLeDiff, hd2, bi_0]
    exact h μ hR0 (offx_rf μ)
def abV (op : Nat) (t : TS) (a k : Nat) : Int32 := match k with
  | 0 => nI (t 3 a)
  | 1 => nI (t 4 a)
  | 2 => nI (t 5 a)
  | 3 => nI (t 7 a)
  | 4 => nI (t 6 a)
  | _ => nI (tgs op t a)
theorem okm_solNow {l : Launch} {K : KK} {d : Nat} {μ : Mm} {P : Option AV → Mm → Prop} {op a k : Nat} {t : TS} (hI : TInv op t) (hM : MRep μ t) (ho : μ 8 0 0 2 = nI op) (hop : op < 2 ^ 15) (ha : a < t 0 1) (hk : k < 6) (hd1 : 5 ≤ d) (h : P (some (vI (abV op t a k))) μ) : Ok l K d 134 [vR 8 0 0, vI (nI a), vI (nI k)] μ P := by
  refine ok_go 3 (by decide +kernel) [some (vR 8 0 0), some (vI (nI a)), some (vI (nI k))] rfl (Nat.le_of_ble_eq_true rfl) ?_
  have hd2 : 1 ≤ d := by omega
  have hn := hI.1
  have ra := hI.2.1 a ha
  have va : vp_in (nI a) 6 := vin (by omega) (by omega)
  have xa : ix (nI a) = a := nI_ix (by omega)
  have k5 := hM.1.2.1 a ha
  have k6 := hM.1.2.2 a ha
  have m6 : μ 8 0 0 6 = nI (mSt t) := hM.2.1.1
  have m7 : μ 8 0 0 7 = nI (mSd t) := hM.2.1.2.1
  have m8 := hM.2.1.2.2
  have l6 := mSt_lt hn
  have l7 := mSd_lt hn
  have h4 : ∀ j, j < t 0 1 → t 6 j < 4 := fun j hj => by have := (hI.2.1 j hj).2.2.2.1; omega
  have lH := h4_lt hn h4
  have e7 : (nI (mSd t) >>> (nI a &&& 31)) &&& 1 = nI (t 4 a) := by
    rw [nI_bitb (by omega) (by omega), mSd_bit ha]
    rcases (show t 4 a = 0 ∨ t 4 a = 1 by omega) with z | z <;> rw [z] <;> rfl
  have e6 : (nI (mSt t) >>> (nI a &&& 31)) &&& 1 = nI (t 7 a) := by
    rw [nI_bitb (by omega) (by omega), mSt_bit ha]
    unfold stn
    rcases (show t 7 a = 0 ∨ t 7 a = 1 by omega) with z | z <;> rw [z] <;> rfl
  have e2 : (2 : Int32) * nI a = nI (2 * a) := pk_mul 2 a
  have e8 : (nI (htF t (t 0 1)) >>> (nI (2 * a) &&& 31)) &&& 3 = nI (t 6 a) := by
    rw [nI_shr (by omega) (by omega), pk_andN (Nat.lt_of_le_of_lt (Nat.div_le_self _ _) (by omega)) (m := 3) 2 (by decide), p2b]
    have := htF_at t (t 0 1) h4 a ha
    rw [show (2 : Nat) ^ 2 = 4 from rfl, this]
  refine go_blk [(.iload_n 2, 0, 0, 0), (.tableswitch 78 0 4 #[35, 42, 51, 58, 67], 0, 0, 0)] (by decide +kernel) ?_
  simp only [e_il_2, e_tsw, e_nil, nol_n, nol_I, nol_R, rsum_0, rsum_I, rsum_R, ps_s, ps_n, true_and, and_true, Nat.reduceAdd, Nat.reduceLeDiff, hd2, va, xa, k5, k6, m6, m7, m8, e7, e6, e2, e8]
  have k6c : k = 0 ∨ k = 1 ∨ k = 2 ∨ k = 3 ∨ k = 4 ∨ k = 5 := by omega
  rcases k6c with kk | kk | kk | kk | kk | kk
  · subst kk
    refine ⟨36, by decide, ?_⟩
    refine go_blk [(.aload_n 0, 0, 0, 0), (.getfield 7, 8, 4, 0), (.iload_n 1, 0, 0, 0), (.iaload, 0, 0, 0), (.ireturn, 0, 0, 0)] (by decide +kernel) ?_
    simp only [e_al_0, e_gf_8_4, e_il_1, e_ia, e_iret0, rd_8_4, ai_0_4, ai_1_7, ai_2_1, ai_2_2, ai_3_1, ai_4_1, ai_6_3, ai_6_4, ai_6_5, ai_6_6, ai_6_7, ai_6_8, ai_8_5, ai_8_6, ai_8_17, ai_8_21, ai_8_23, ai_8_24, ai_8_27, ai_8_28, ai_8_38, ai_8_39, ai_8_40, e_nil, nol_n, nol_I, nol_R, rsum_0, rsum_I, rsum_R, ps_s, ps_n, true_and, and_true, Nat.reduceAdd, Nat.reduceLeDiff, hd2, va, xa, k5, k6, m6, m7, m8, e7, e6, e2, e8]
    exact h
  · subst kk
    refine ⟨43, by decide, ?_⟩
    refine go_blk [(.aload_n 0, 0, 0, 0), (.getfield 102, 8, 7, 0), (.iload_n 1, 0, 0, 0), (.ishr, 0, 0, 0), (.iconst 1, 0, 0, 0), (.iand, 0, 0, 0), (.ireturn, 0, 0, 0)] (by decide +kernel) ?_
    simp only [e_al_0, e_gf_8_7, e_il_1, e_ishr, e_ic_1, e_iand, e_iret0, rd_8_7, e_nil, nol_n, nol_I, nol_R, rsum_0, rsum_I, rsum_R, ps_s, ps_n, true_and, and_true, Nat.reduceAdd, Nat.reduceLeDiff, hd2, va, xa, k5, k6, m6, m7, m8, e7, e6, e2, e8]
    exact h
  · subst kk
    refine ⟨52, by decide, ?_⟩
    refine go_blk [(.aload_n 0, 0, 0, 0), (.getfield 13, 8, 5, 0), (.iload_n 1, 0, 0, 0), (.iaload, 0, 0, 0), (.ireturn, 0, 0, 0)] (by decide +kernel) ?_
    simp only [e_al_0, e_gf_8_5, e_il_1, e_ia, e_iret0, rd_8_5, ai_0_4, ai_1_7, ai_2_1, ai_2_2, ai_3_1, ai_4_1, ai_6_3, ai_6_4, ai_6_5, ai_6_6, ai_6_7, ai_6_8, ai_8_5, ai_8_6, ai_8_17, ai_8_21, ai_8_23, ai_8_24, ai_8_27, ai_8_28, ai_8_38, ai_8_39, ai_8_40, e_nil, nol_n, nol_I, nol_R, rsum_0, rsum_I, rsum_R, ps_s, ps_n, true_and, and_true, Nat.reduceAdd, Nat.reduceLeDiff, hd2, va, xa, k5, k6, m6, m7, m8, e7, e6, e2, e8]
    exact h
  · subst kk
    refine ⟨59, by decide, ?_⟩
    refine go_blk [(.aload_n 0, 0, 0, 0), (.getfield 99, 8, 6, 0), (.iload_n 1, 0, 0, 0), (.ishr, 0, 0, 0), (.iconst 1, 0, 0, 0), (.iand, 0, 0, 0), (.ireturn, 0, 0, 0)] (by decide +kernel) ?_
    simp only [e_al_0, e_gf_8_6, e_il_1, e_ishr, e_ic_1, e_iand, e_iret0, rd_8_6, e_nil, nol_n, nol_I, nol_R, rsum_0, rsum_I, rsum_R, ps_s, ps_n, true_and, and_true, Nat.reduceAdd, Nat.reduceLeDiff, hd2, va, xa, k5, k6, m6, m7, m8, e7, e6, e2, e8]
    exact h
  · subst kk
    refine ⟨68, by decide, ?_⟩
    refine go_blk [(.aload_n 0, 0, 0, 0), (.getfield 105, 8, 8, 0), (.iconst 2, 0, 0, 0), (.iload_n 1, 0, 0, 0), (.imul, 0, 0, 0)] (by decide +kernel) ?_
    simp only [e_al_0, e_gf_8_8, e_ic_2, e_il_1, e_imul, rd_8_8, e_nil, nol_n, nol_I, nol_R, rsum_0, rsum_I, rsum_R, ps_s, ps_n, true_and, and_true, Nat.reduceAdd, Nat.reduceLeDiff, hd2, va, xa, k5, k6, m6, m7, m8, e7, e6, e2, e8]
    refine go_blk [(.ishr, 0, 0, 0), (.iconst 3, 0, 0, 0), (.iand, 0, 0, 0), (.ireturn, 0, 0, 0)] (by decide +kernel) ?_
    simp only [e_ishr, e_ic_3, e_iand, e_iret0, e_nil, nol_n, nol_I, nol_R, rsum_0, rsum_I, rsum_R, ps_s, ps_n, true_and, and_true, Nat.reduceAdd, Nat.reduceLeDiff, hd2, va, xa, k5, k6, m6, m7, m8, e7, e6, e2, e8]
    exact h
  · subst kk
    refine ⟨79, by decide, ?_⟩
    refine go_blk [(.aload_n 0, 0, 0, 0), (.iload_n 1, 0, 0, 0), (.invokevirtual 164, 133, 1, 8)] (by decide +kernel) ?_
    simp only [e_al_0, e_il_1, e_iv_8_1, e_nil, nol_n, nol_I, nol_R, rsum_0, rsum_I, rsum_R, ps_s, ps_n, true_and, and_true, Nat.reduceAdd, Nat.reduceLeDiff, hd2, va, xa, k5, k6, m6, m7, m8, e7, e6, e2, e8]
    refine okm_targets hI hM ho hop ha (by omega) ?_
    refine go_blk [(.ireturn, 0, 0, 0)] (by decide +kernel) ?_
    simp only [e_iret0, e_nil, nol_n, nol_I, nol_R, rsum_0, rsum_I, rsum_R, ps_s, ps_n, true_and, and_true, Nat.reduceAdd, Nat.reduceLeDiff, hd2, va, xa, k5, k6, m6, m7, m8, e7, e6, e2, e8]
    exact h
theorem xm_about {l : Launch} {K : KK} {d : Nat} {μ : Mm} {P : Option AV → Mm → Prop} {N : Nat} {S : SS} {x y : Int32} (hV : Inv N S) (hR : RM μ S) (hd1 : 14 ≤ d) (h : ∀ μ2, RM μ2 (S) → OffX μ μ2 → P (some (vI (vAbout x y S))) μ2) : Ok l K d 135 [vR 8 0 0, vI x, vI y] μ P := by
  refine ok_go 3 (by decide +kernel) [some (vR 8 0 0), some (vI x), some (vI y)] rfl (Nat.le_of_ble_eq_true rfl) ?_
  have hR0 := hR
  have hV0 := hV
  obtain ⟨⟨L, pg⟩, ⟨laid, op⟩, t, ⟨f, cs⟩, ⟨im, t2, f2, cs2⟩, q, w, b⟩ := S
  obtain ⟨⟨rP, r0, r2⟩, ⟨rM, rG⟩, ⟨rK, rK2⟩, ⟨r1, r17, r18⟩⟩ := hR
  obtain ⟨⟨iL, iP⟩, ⟨iO, iO2⟩, ⟨iT, iF⟩, iK, ⟨iq, iw, ib⟩⟩ := hV
  have hd2 : 1 ≤ d := by omega
  have hn := iT.1
  refine go_blk [(.aload_n 0, 0, 0, 0), (.iload_n 1, 0, 0, 0), (.invokevirtual 167, 128, 1, 8)] (by decide +kernel) ?_
  simp only [e_al_0, e_il_1, e_iv_8_1, e_nil, nol_n, nol_I, nol_R, rsum_0, rsum_I, rsum_R, ps_s, ps_n, true_and, and_true, Nat.reduceAdd, Nat.reduceLeDiff, hd2, bi_0]
  refine okm_sol hn rM.1.1 (by omega) ?_
  refine go_blk [(.ifCond .ne 8, 13, 0, 0)] (by decide +kernel) ?_
  simp only [e_if_ne, e_nil, nol_n, nol_I, nol_R, rsum_0, rsum_I, rsum_R, ps_s, ps_n, true_and, and_true, Nat.reduceAdd, Nat.reduceLeDiff, hd2, bi_0]
  refine ⟨fun c5 => ?_, fun c5 => ?_⟩
  · obtain ⟨a, ha, rfl⟩ := has_of hn c5
    have xa : ix (nI a) = a := nI_ix (by omega)
    refine go_blk [(.iload_n 2, 0, 0, 0), (.iconst 0, 0, 0, 0), (.iconst 5, 0, 0, 0), (.invokestatic 51, 103, 3, 0)] (by decide +kernel) ?_
    simp only [e_il_2, e_ic_0, e_ic_5, e_ivs_3, e_nil, Nat.reduceLT, nol_n, nol_I, nol_R, rsum_0, rsum_I, rsum_R, ps_s, ps_n, true_and, and_true, Nat.reduceAdd, Nat.reduceLeDiff, hd2, bi_0]
    refine okm_within ?_
    refine go_blk [(.ifCond .eq 12, 31, 0, 0)] (by decide +kernel) ?_
    simp only [e_if_eq, e_nil, nol_n, nol_I, nol_R, rsum_0, rsum_I, rsum_R, ps_s, ps_n, true_and, and_true, Nat.reduceAdd, Nat.reduceLeDiff, hd2, bi_0]
    refine ⟨fun c19 => ?_, fun c19 => ?_⟩
    · have e : vAbout (nI a) y ((L, pg), (laid, op), t, (f, cs), (im, t2, f2, cs2), (q, w, b)) = -102 := by
        show (if _ then _ else if _ then _ else if _ then _ else if _ then _ else if _ then _ else if _ then _ else if _ then _ else _) = _
        rw [if_neg c5, if_neg (fun z => by rw [z] at c19; revert c19; decide), if_neg (fun z => by rw [z] at c19; revert c19; decide), if_neg (fun z => by rw [z] at c19; revert c19; decide), if_neg (fun z => by rw [z] at c19; revert c19; decide), if_neg (fun z => by rw [z] at c19; revert c19; decide), if_neg (fun z => by rw [z] at c19; revert c19; decide)]
      rw [e] at h
      refine go_blk [(.bipush (-102), 0, 0, 0), (.ireturn, 0, 0, 0)] (by decide +kernel) ?_
      simp only [e_bp_m102, e_iret0, e_nil, nol_n, nol_I, nol_R, rsum_0, rsum_I, rsum_R, ps_s, ps_n, true_and, and_true, Nat.reduceAdd, Nat.reduceLeDiff, hd2, bi_0]
      exact h μ hR0 (offx_rf μ)
    · have wi := eq_true_of_ne_false c19
      rw [Bool.and_eq_true, Bool.not_eq_true', Bool.not_eq_true', decide_eq_false_iff_not, decide_eq_false_iff_not] at wi
      obtain ⟨v, hv, rfl⟩ := nI_of2 (n := 5) rfl wi.1 (nlt32 wi.2)
      have e : vAbout (nI a) (nI v) ((L, pg), (laid, op), t, (f, cs), (im, t2, f2, cs2), (q, w, b)) = abV op t a v := by
        show (if _ then _ else if nI v = 0 then _ else if nI v = 1 then _ else if nI v = 2 then _ else if nI v = 3 then _ else if nI v = 4 then _ else if nI v = 5 then _ else _) = _
        rw [if_neg c5, xa]
        rcases (show v = 0 ∨ v = 1 ∨ v = 2 ∨ v = 3 ∨ v = 4 ∨ v = 5 by omega) with z | z | z | z | z | z <;> subst z <;> rfl
      rw [e] at h
      refine go_blk [(.aload_n 0, 0, 0, 0), (.iload_n 1, 0, 0, 0), (.iload_n 2, 0, 0, 0), (.invokevirtual 170, 134, 2, 8)] (by decide +kernel) ?_
      simp only [e_al_0, e_il_1, e_il_2, e_iv_8_2, e_nil, nol_n, nol_I, nol_R, rsum_0, rsum_I, rsum_R, ps_s, ps_n, true_and, and_true, Nat.reduceAdd, Nat.reduceLeDiff, hd2, bi_0]
      refine okm_solNow iT rM r2 iO ha (by omega) (by omega) ?_
      refine go_blk [(.goto 5, 33, 0, 0), (.ireturn, 0, 0, 0)] (by decide +kernel) ?_
      simp only [e_goto, e_iret0, e_nil, nol_n, nol_I, nol_R, rsum_0, rsum_I, rsum_R, ps_s, ps_n, true_and, and_true, Nat.reduceAdd, Nat.reduceLeDiff, hd2, bi_0]
      exact h μ hR0 (offx_rf μ)
  · have e : vAbout x y ((L, pg), (laid, op), t, (f, cs), (im, t2, f2, cs2), (q, w, b)) = -101 := by
      show (if _ then _ else if _ then _ else if _ then _ else if _ then _ else if _ then _ else if _ then _ else if _ then _ else _) = _
      rw [if_pos c5]
    rw [e] at h
    refine go_blk [(.bipush (-101), 0, 0, 0), (.goto 23, 33, 0, 0), (.ireturn, 0, 0, 0)] (by decide +kernel) ?_
    simp only [e_bp_m101, e_goto, e_iret0, e_nil, nol_n, nol_I, nol_R, rsum_0, rsum_I, rsum_R, ps_s, ps_n, true_and, and_true, Nat.reduceAdd, Nat.reduceLeDiff, hd2, bi_0]
    exact h μ hR0 (offx_rf μ)
theorem lt4b (x : Int32) : (!decide (x < 0) && !decide ((4 : Int32) < x)) = kdB x := by
  have e : ((4 : Int32) < x) = ((5 : Int32) ≤ x) := by
    apply propext
    rw [Int32.lt_iff_toInt_lt, Int32.le_iff_toInt_le, show (4 : Int32).toInt = 4 from rfl, show (5 : Int32).toInt = 5 from rfl]
    omega
  unfold kdB
  simp only [e]
theorem lt1b (x : Int32) : (!decide (x < 0) && !decide ((1 : Int32) < x)) = sdB x := by
  have e : ((1 : Int32) < x) = ((2 : Int32) ≤ x) := by
    apply propext
    rw [Int32.lt_iff_toInt_lt, Int32.le_iff_toInt_le, show (1 : Int32).toInt = 1 from rfl, show (2 : Int32).toInt = 2 from rfl]
    omega
  unfold sdB
  simp only [e]
theorem xm_as {l : Launch} {K : KK} {d : Nat} {μ : Mm} {P : Option AV → Mm → Prop} {N : Nat} {S : SS} {x y : Int32} (hV : Inv N S) (hR : RM μ S) (hd1 : 14 ≤ d) (h : ∀ μ2, RM μ2 (S) → OffX μ μ2 → P (some (vI (vAs x y S))) μ2) : Ok l K d 136 [vR 8 0 0, vI x, vI y] μ P := by
  refine ok_go 4 (by decide +kernel) [some (vR 8 0 0), some (vI x), some (vI y), none] rfl (Nat.le_of_ble_eq_true rfl) ?_
  have hR0 := hR
  have hV0 := hV
  obtain ⟨⟨L, pg⟩, ⟨laid, op⟩, t, ⟨f, cs⟩, ⟨im, t2, f2, cs2⟩, q, w, b⟩ := S
  obtain ⟨⟨rP, r0, r2⟩, ⟨rM, rG⟩, ⟨rK, rK2⟩, ⟨r1, r17, r18⟩⟩ := hR
  obtain ⟨⟨iL, iP⟩, ⟨iO, iO2⟩, ⟨iT, iF⟩, iK, ⟨iq, iw, ib⟩⟩ := hV
  have hd2 : 1 ≤ d := by omega
  have hn := iT.1
  refine go_blk [(.aload_n 0, 0, 0, 0), (.iload_n 1, 0, 0, 0), (.invokevirtual 167, 128, 1, 8)] (by decide +kernel) ?_
  simp only [e_al_0, e_il_1, e_iv_8_1, e_nil, nol_n, nol_I, nol_R, rsum_0, rsum_I, rsum_R, ps_s, ps_n, true_and, and_true, Nat.reduceAdd, Nat.reduceLeDiff, hd2, bi_0]
  refine okm_sol hn rM.1.1 (by omega) ?_
  refine go_blk [(.ifCond .ne 6, 11, 0, 0)] (by decide +kernel) ?_
  simp only [e_if_ne, e_nil, nol_n, nol_I, nol_R, rsum_0, rsum_I, rsum_R, ps_s, ps_n, true_and, and_true, Nat.reduceAdd, Nat.reduceLeDiff, hd2, bi_0]
  refine ⟨fun c5 => ?_, fun c5 => ?_⟩
  · obtain ⟨a, ha, rfl⟩ := has_of hn c5
    have xa : ix (nI a) = a := nI_ix (by omega)
    have va : vp_in (nI a) 6 := vin (by omega) (by omega)
    have k5 := rM.1.2.1 a ha
    have k3 := (iT.2.1 a ha).1
    refine go_blk [(.iload_n 2, 0, 0, 0), (.iconst 0, 0, 0, 0), (.iconst 4, 0, 0, 0), (.invokestatic 51, 103, 3, 0)] (by decide +kernel) ?_
    simp only [e_il_2, e_ic_0, e_ic_4, e_ivs_3, e_nil, Nat.reduceLT, nol_n, nol_I, nol_R, rsum_0, rsum_I, rsum_R, ps_s, ps_n, true_and, and_true, Nat.reduceAdd, Nat.reduceLeDiff, hd2, bi_0, xa, va, k5]
    refine okm_within ?_
    rw [lt4b]
    refine go_blk [(.ifCond .ne 6, 23, 0, 0)] (by decide +kernel) ?_
    simp only [e_if_ne, e_nil, nol_n, nol_I, nol_R, rsum_0, rsum_I, rsum_R, ps_s, ps_n, true_and, and_true, Nat.reduceAdd, Nat.reduceLeDiff, hd2, bi_0, xa, va, k5]
    refine ⟨fun c17 => ?_, fun c17 => ?_⟩
    · have ky : kdB y = true := eq_true_of_ne_false c17
      have nky : ¬ kdB y = false := by rw [ky]; decide
      obtain ⟨kd, hkd, rfl⟩ := kd_of ky
      have xk : ix (nI kd) = kd := nI_ix (by omega)
      have e31 : (nI kd = 0) = (kd = 0) := propext (nI_eq (b := 0) (by omega) (by omega))
      have e36 : (nI (t 3 a) = nI kd) = (t 3 a = kd) := propext (nI_eq (by omega) (by omega))
      have e41 : (nI kd = 1) = (kd = 1) := propext (nI_eq (b := 1) (by omega) (by omega))
      have e46 : (nI (t 3 a) = 4) = (t 3 a = 4) := propext (nI_eq (b := 4) (by omega) (by omega))
      refine go_blk [(.aload_n 0, 0, 0, 0), (.getfield 7, 8, 4, 0), (.iload_n 1, 0, 0, 0), (.iaload, 0, 0, 0), (.istore_n 3, 0, 0, 0), (.iload_n 2, 0, 0, 0), (.ifCond .eq 18, 49, 0, 0)] (by decide +kernel) ?_
      simp only [e_al_0, e_gf_8_4, e_il_1, e_ia, e_is_3n, e_is_3I, e_is_3R, e_il_2, e_if_eq, rd_8_4, ai_0_4, ai_1_7, ai_2_1, ai_2_2, ai_3_1, ai_4_1, ai_6_3, ai_6_4, ai_6_5, ai_6_6, ai_6_7, ai_6_8, ai_8_5, ai_8_6, ai_8_17, ai_8_21, ai_8_23, ai_8_24, ai_8_27, ai_8_28, ai_8_38, ai_8_39, ai_8_40, e_nil, nol_n, nol_I, nol_R, rsum_0, rsum_I, rsum_R, ps_s, ps_n, true_and, and_true, Nat.reduceAdd, Nat.reduceLeDiff, hd2, bi_0, xa, va, k5, e31, e36, e41, e46]
      refine ⟨fun c31 => ?_, fun c31 => ?_⟩
      · have e : vAs (nI a) (nI kd) ((L, pg), (laid, op), t, (f, cs), (im, t2, f2, cs2), (q, w, b)) = nI a := by
          show (if _ then _ else if _ then _ else if _ then _ else _) = _
          rw [if_neg c5, if_neg nky, if_pos (by rw [xa, xk]; omega)]
        rw [e] at h
        refine go_blk [(.iload_n 1, 0, 0, 0), (.goto 4, 54, 0, 0), (.ireturn, 0, 0, 0)] (by decide +kernel) ?_
        simp only [e_il_1, e_goto, e_iret0, e_nil, nol_n, nol_I, nol_R, rsum_0, rsum_I, rsum_R, ps_s, ps_n, true_and, and_true, Nat.reduceAdd, Nat.reduceLeDiff, hd2, bi_0, xa, va, k5, e31, e36, e41, e46]
        exact h μ hR0 (offx_rf μ)
      · refine go_blk [(.iload_n 3, 0, 0, 0), (.iload_n 2, 0, 0, 0), (.if_icmp .eq 13, 49, 0, 0)] (by decide +kernel) ?_
        simp only [e_il_3, e_il_2, e_icmp_eq, e_nil, nol_n, nol_I, nol_R, rsum_0, rsum_I, rsum_R, ps_s, ps_n, true_and, and_true, Nat.reduceAdd, Nat.reduceLeDiff, hd2, bi_0, xa, va, k5, e31, e36, e41, e46]
        refine ⟨fun c36 => ?_, fun c36 => ?_⟩
        · have e : vAs (nI a) (nI kd) ((L, pg), (laid, op), t, (f, cs), (im, t2, f2, cs2), (q, w, b)) = nI a := by
            show (if _ then _ else if _ then _ else if _ then _ else _) = _
            rw [if_neg c5, if_neg nky, if_pos (by rw [xa, xk]; omega)]
          rw [e] at h
          refine go_blk [(.iload_n 1, 0, 0, 0), (.goto 4, 54, 0, 0), (.ireturn, 0, 0, 0)] (by decide +kernel) ?_
          simp only [e_il_1, e_goto, e_iret0, e_nil, nol_n, nol_I, nol_R, rsum_0, rsum_I, rsum_R, ps_s, ps_n, true_and, and_true, Nat.reduceAdd, Nat.reduceLeDiff, hd2, bi_0, xa, va, k5, e31, e36, e41, e46]
          exact h μ hR0 (offx_rf μ)
        · refine go_blk [(.iload_n 2, 0, 0, 0), (.iconst 1, 0, 0, 0), (.if_icmp .ne 12, 53, 0, 0)] (by decide +kernel) ?_
          simp only [e_il_2, e_ic_1, e_icmp_ne, e_nil, nol_n, nol_I, nol_R, rsum_0, rsum_I, rsum_R, ps_s, ps_n, true_and, and_true, Nat.reduceAdd, Nat.reduceLeDiff, hd2, bi_0, xa, va, k5, e31, e36, e41, e46]
          refine ⟨fun c41 => ?_, fun c41 => ?_⟩
          · have e : vAs (nI a) (nI kd) ((L, pg), (laid, op), t, (f, cs), (im, t2, f2, cs2), (q, w, b)) = -1 := by
              show (if _ then _ else if _ then _ else if _ then _ else _) = _
              rw [if_neg c5, if_neg nky, if_neg (by rw [xa, xk]; omega)]
            rw [e] at h
            refine go_blk [(.iconst (-1), 0, 0, 0), (.ireturn, 0, 0, 0)] (by decide +kernel) ?_
            simp only [e_ic_m1, e_iret0, e_nil, nol_n, nol_I, nol_R, rsum_0, rsum_I, rsum_R, ps_s, ps_n, true_and, and_true, Nat.reduceAdd, Nat.reduceLeDiff, hd2, bi_0, xa, va, k5, e31, e36, e41, e46]
            exact h μ hR0 (offx_rf μ)
          · refine go_blk [(.iload_n 3, 0, 0, 0), (.iconst 4, 0, 0, 0), (.if_icmp .ne 7, 53, 0, 0)] (by decide +kernel) ?_
            simp only [e_il_3, e_ic_4, e_icmp_ne, e_nil, nol_n, nol_I, nol_R, rsum_0, rsum_I, rsum_R, ps_s, ps_n, true_and, and_true, Nat.reduceAdd, Nat.reduceLeDiff, hd2, bi_0, xa, va, k5, e31, e36, e41, e46]
            refine ⟨fun c46 => ?_, fun c46 => ?_⟩
            · have e : vAs (nI a) (nI kd) ((L, pg), (laid, op), t, (f, cs), (im, t2, f2, cs2), (q, w, b)) = -1 := by
                show (if _ then _ else if _ then _ else if _ then _ else _) = _
                rw [if_neg c5, if_neg nky, if_neg (by rw [xa, xk]; omega)]
              rw [e] at h
              refine go_blk [(.iconst (-1), 0, 0, 0), (.ireturn, 0, 0, 0)] (by decide +kernel) ?_
              simp only [e_ic_m1, e_iret0, e_nil, nol_n, nol_I, nol_R, rsum_0, rsum_I, rsum_R, ps_s, ps_n, true_and, and_true, Nat.reduceAdd, Nat.reduceLeDiff, hd2, bi_0, xa, va, k5, e31, e36, e41, e46]
              exact h μ hR0 (offx_rf μ)
            · have e : vAs (nI a) (nI kd) ((L, pg), (laid, op), t, (f, cs), (im, t2, f2, cs2), (q, w, b)) = nI a := by
                show (if _ then _ else if _ then _ else if _ then _ else _) = _
                rw [if_neg c5, if_neg nky, if_pos (by rw [xa, xk]; omega)]
              rw [e] at h
              refine go_blk [(.iload_n 1, 0, 0, 0), (.goto 4, 54, 0, 0), (.ireturn, 0, 0, 0)] (by decide +kernel) ?_
              simp only [e_il_1, e_goto, e_iret0, e_nil, nol_n, nol_I, nol_R, rsum_0, rsum_I, rsum_R, ps_s, ps_n, true_and, and_true, Nat.reduceAdd, Nat.reduceLeDiff, hd2, bi_0, xa, va, k5, e31, e36, e41, e46]
              exact h μ hR0 (offx_rf μ)
    · have e : vAs (nI a) y ((L, pg), (laid, op), t, (f, cs), (im, t2, f2, cs2), (q, w, b)) = -102 := by
        show (if _ then _ else if _ then _ else if _ then _ else _) = _
        rw [if_neg c5, if_pos c17]
      rw [e] at h
      refine go_blk [(.bipush (-102), 0, 0, 0), (.ireturn, 0, 0, 0)] (by decide +kernel) ?_
      simp only [e_bp_m102, e_iret0, e_nil, nol_n, nol_I, nol_R, rsum_0, rsum_I, rsum_R, ps_s, ps_n, true_and, and_true, Nat.reduceAdd, Nat.reduceLeDiff, hd2, bi_0, xa, va, k5]
      exact h μ hR0 (offx_rf μ)
  · have e : vAs x y ((L, pg), (laid, op), t, (f, cs), (im, t2, f2, cs2), (q, w, b)) = -101 := by
      show (if _ then _ else if _ then _ else if _ then _ else _) = _
      rw [if_pos c5]
    rw [e] at h
    refine go_blk [(.bipush (-101), 0, 0, 0), (.ireturn, 0, 0, 0)] (by decide +kernel) ?_
    simp only [e_bp_m101, e_iret0, e_nil, nol_n, nol_I, nol_R, rsum_0, rsum_I, rsum_R, ps_s, ps_n, true_and, and_true, Nat.reduceAdd, Nat.reduceLeDiff, hd2, bi_0]
    exact h μ hR0 (offx_rf μ)
theorem xm_tenths {l : Launch} {K : KK} {d : Nat} {μ : Mm} {P : Option AV → Mm → Prop} {N : Nat} {S : SS} {x y : Int32} (hV : Inv N S) (hR : RM μ S) (hd1 : 14 ≤ d) (h : ∀ μ2, RM μ2 (S) → OffX μ μ2 → P (some (vI (vTenths x y S))) μ2) : Ok l K d 138 [vR 8 0 0, vI x, vI y] μ P := by
  refine ok_go 3 (by decide +kernel) [some (vR 8 0 0), some (vI x), some (vI y)] rfl (Nat.le_of_ble_eq_true rfl) ?_
  have hR0 := hR
  have hV0 := hV
  obtain ⟨⟨L, pg⟩, ⟨laid, op⟩, t, ⟨f, cs⟩, ⟨im, t2, f2, cs2⟩, q, w, b⟩ := S
  obtain ⟨⟨rP, r0, r2⟩, ⟨rM, rG⟩, ⟨rK, rK2⟩, ⟨r1, r17, r18⟩⟩ := hR
  obtain ⟨⟨iL, iP⟩, ⟨iO, iO2⟩, ⟨iT, iF⟩, iK, ⟨iq, iw, ib⟩⟩ := hV
  have hd2 : 1 ≤ d := by omega
  have hn := iT.1
  refine go_blk [(.aload_n 0, 0, 0, 0), (.iload_n 1, 0, 0, 0), (.invokevirtual 167, 128, 1, 8)] (by decide +kernel) ?_
  simp only [e_al_0, e_il_1, e_iv_8_1, e_nil, nol_n, nol_I, nol_R, rsum_0, rsum_I, rsum_R, ps_s, ps_n, true_and, and_true, Nat.reduceAdd, Nat.reduceLeDiff, hd2, bi_0]
  refine okm_sol hn rM.1.1 (by omega) ?_
  refine go_blk [(.ifCond .eq 20, 25, 0, 0)] (by decide +kernel) ?_
  simp only [e_if_eq, e_nil, nol_n, nol_I, nol_R, rsum_0, rsum_I, rsum_R, ps_s, ps_n, true_and, and_true, Nat.reduceAdd, Nat.reduceLeDiff, hd2, bi_0]
  refine ⟨fun c5 => ?_, fun c5 => ?_⟩
  · have e : vTenths x y ((L, pg), (laid, op), t, (f, cs), (im, t2, f2, cs2), (q, w, b)) = -101 := by
      show (if _ then _ else _) = _
      rw [if_pos (by rw [c5]; rfl)]
    rw [e] at h
    refine go_blk [(.bipush (-101), 0, 0, 0), (.ireturn, 0, 0, 0)] (by decide +kernel) ?_
    simp only [e_bp_m101, e_iret0, e_nil, nol_n, nol_I, nol_R, rsum_0, rsum_I, rsum_R, ps_s, ps_n, true_and, and_true, Nat.reduceAdd, Nat.reduceLeDiff, hd2, bi_0]
    exact h μ hR0 (offx_rf μ)
  · obtain ⟨a, ha, rfl⟩ := has_of hn c5
    have xa : ix (nI a) = a := nI_ix (by omega)
    have hx1 := eq_true_of_ne_false c5
    refine go_blk [(.aload_n 0, 0, 0, 0), (.iload_n 2, 0, 0, 0), (.invokevirtual 167, 128, 1, 8)] (by decide +kernel) ?_
    simp only [e_al_0, e_il_2, e_iv_8_1, e_nil, nol_n, nol_I, nol_R, rsum_0, rsum_I, rsum_R, ps_s, ps_n, true_and, and_true, Nat.reduceAdd, Nat.reduceLeDiff, hd2, bi_0]
    refine okm_sol hn rM.1.1 (by omega) ?_
    refine go_blk [(.ifCond .eq 12, 25, 0, 0)] (by decide +kernel) ?_
    simp only [e_if_eq, e_nil, nol_n, nol_I, nol_R, rsum_0, rsum_I, rsum_R, ps_s, ps_n, true_and, and_true, Nat.reduceAdd, Nat.reduceLeDiff, hd2, bi_0]
    refine ⟨fun c13 => ?_, fun c13 => ?_⟩
    · have e : vTenths (nI a) y ((L, pg), (laid, op), t, (f, cs), (im, t2, f2, cs2), (q, w, b)) = -101 := by
        show (if _ then _ else _) = _
        rw [if_pos (by rw [c13, Bool.and_false])]
      rw [e] at h
      refine go_blk [(.bipush (-101), 0, 0, 0), (.ireturn, 0, 0, 0)] (by decide +kernel) ?_
      simp only [e_bp_m101, e_iret0, e_nil, nol_n, nol_I, nol_R, rsum_0, rsum_I, rsum_R, ps_s, ps_n, true_and, and_true, Nat.reduceAdd, Nat.reduceLeDiff, hd2, bi_0]
      exact h μ hR0 (offx_rf μ)
    · obtain ⟨b2, hb, rfl⟩ := has_of hn c13
      have xb2 : ix (nI b2) = b2 := nI_ix (by omega)
      have nb : ¬ (hasI (t 0 1) (nI a) && hasI (t 0 1) (nI b2)) = false := by rw [hx1, eq_true_of_ne_false c13]; decide
      refine go_blk [(.aload_n 0, 0, 0, 0), (.iload_n 1, 0, 0, 0), (.iload_n 2, 0, 0, 0), (.invokevirtual 161, 132, 2, 8)] (by decide +kernel) ?_
      simp only [e_al_0, e_il_1, e_il_2, e_iv_8_2, e_nil, nol_n, nol_I, nol_R, rsum_0, rsum_I, rsum_R, ps_s, ps_n, true_and, and_true, Nat.reduceAdd, Nat.reduceLeDiff, hd2, bi_0]
      refine okm_tenths iT rM r2 iO ha hb (by omega) ?_
      refine go_blk [(.goto 5, 27, 0, 0), (.ireturn, 0, 0, 0)] (by decide +kernel) ?_
      simp only [e_goto, e_iret0, e_nil, nol_n, nol_I, nol_R, rsum_0, rsum_I, rsum_R, ps_s, ps_n, true_and, and_true, Nat.reduceAdd, Nat.reduceLeDiff, hd2, bi_0]
      have e : vTenths (nI a) (nI b2) ((L, pg), (laid, op), t, (f, cs), (im, t2, f2, cs2), (q, w, b)) = nI (chS op t a b2) := by
        show (if _ then _ else _) = _
        rw [if_neg nb, xa, xb2]
      rw [e] at h
      exact h μ hR0 (offx_rf μ)
