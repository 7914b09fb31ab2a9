theorem enl_lo {t : TS} {k s c j : Nat} (h : j < t 0 1) (r : Nat) (hr : 3 ≤ r) : enl t k s c r j = t r j := by
  unfold enl
  rw [if_neg (by omega), if_neg (by omega)]
theorem enl_hi (t : TS) (k s c : Nat) : enl t k s c 0 1 = t 0 1 + 1 ∧ enl t k s c 3 (t 0 1) = k ∧ enl t k s c 4 (t 0 1) = s ∧ enl t k s c 5 (t 0 1) = c ∧ enl t k s c 6 (t 0 1) = 0 ∧ enl t k s c 7 (t 0 1) = 1 := by
  unfold enl
  refine ⟨by simp, ?_, ?_, ?_, ?_, ?_⟩ <;> simp
theorem enl_p (t : TS) (k s c j : Nat) (hj : j < 2) (hn : t 0 1 < 6) : enl t k s c 8 j = t 8 j := by
  unfold enl
  rw [if_neg (by omega)]
  split <;> rfl
theorem enl_st {t : TS} {k s c : Nat} : mSt (enl t k s c) = mSt t ||| 2 ^ t 0 1 := by
  obtain ⟨e0, -, -, -, -, e7⟩ := enl_hi t k s c
  unfold mSt
  rw [e0]
  show mskF (stn (enl t k s c)) (t 0 1) ||| (if stn (enl t k s c) (t 0 1) then 2 ^ t 0 1 else 0) = _
  rw [mskF_eq (g := stn t) (fun j hj => by unfold stn; rw [enl_lo hj 7 (by omega)]), if_pos (by unfold stn; rw [e7]; rfl)]
theorem enl_sd {t : TS} {k s c : Nat} : mSd (enl t k s c) = mSd t ||| (if s = 1 then 2 ^ t 0 1 else 0) := by
  obtain ⟨e0, -, e4, -, -, -⟩ := enl_hi t k s c
  unfold mSd
  rw [e0]
  show mskF (fun j => enl t k s c 4 j == 1) (t 0 1) ||| (if (enl t k s c 4 (t 0 1) == 1) = true then 2 ^ t 0 1 else 0) = _
  rw [mskF_eq (g := fun j => t 4 j == 1) (fun j hj => by rw [enl_lo hj 4 (by omega)]), e4]
  by_cases z : s = 1
  · subst z; rfl
  · rw [if_neg (by simpa using z), if_neg z]
theorem enl_ht {t : TS} {k s c : Nat} : htF (enl t k s c) (enl t k s c 0 1) = htF t (t 0 1) := by
  obtain ⟨e0, -, -, -, e6, -⟩ := enl_hi t k s c
  rw [e0]
  show htF (enl t k s c) (t 0 1) + enl t k s c 6 (t 0 1) * 4 ^ t 0 1 = _
  rw [e6, htF_eq (t := t) (t 0 1) (fun j hj => enl_lo hj 6 (by omega)), Nat.zero_mul, Nat.add_zero]
theorem and_hi {x m k : Nat} (h : x < 2 ^ k) : x ^^^ (x &&& (m * 2 ^ k)) = x := by
  apply Nat.eq_of_testBit_eq
  intro j
  rw [Nat.testBit_xor, Nat.testBit_and, Nat.testBit_mul_two_pow]
  by_cases q : k ≤ j
  · rw [tb_hi h q]; simp
  · simp [q]
theorem xm_soldier {l : Launch} {K : KK} {d : Nat} {μ : Mm} {P : Option AV → Mm → Prop} {N : Nat} {S : SS} {x y z : Int32} (hV : Inv N S) (hR : RM μ S) (hd1 : 14 ≤ d) (h : ∀ μ2, RM μ2 ((aSoldier x y z S).2) → OffX μ μ2 → P (some (vI ((aSoldier x y z S).1))) μ2) : Ok l K d 129 [vR 8 0 0, vI x, vI y, vI z] μ P := by
  refine ok_go 5 (by decide +kernel) [some (vR 8 0 0), some (vI x), some (vI y), some (vI z), none] rfl (Nat.le_of_ble_eq_true rfl) ?_
  have hR0 := hR
  have hV0 := hV
  obtain ⟨⟨L, pg⟩, ⟨laid, op⟩, t, ⟨f, cs⟩, ⟨im, t2, f2, cs2⟩, q, w, b⟩ := S
  obtain ⟨⟨rP, r0, r2⟩, ⟨rM, rG⟩, ⟨rK, rK2⟩, ⟨r1, r17, r18⟩⟩ := hR
  obtain ⟨⟨iL, iP⟩, ⟨iO, iO2⟩, ⟨iT, iF⟩, iK, ⟨iq, iw, ib⟩⟩ := hV
  have hd2 : 1 ≤ d := by omega
  have hn := iT.1
  have m3 := rM.1.1
  have e61 : (nI (t 0 1) = 6) = (t 0 1 = 6) := propext (nI_eq (b := 6) (by omega) (by omega))
  refine go_blk [(.iload_n 1, 0, 0, 0), (.iconst 0, 0, 0, 0), (.iconst 4, 0, 0, 0), (.invokestatic 51, 103, 3, 0)] (by decide +kernel) ?_
  simp only [e_il_1, e_ic_0, e_ic_4, e_ivs_3, e_nil, Nat.reduceLT, nol_n, nol_I, nol_R, rsum_0, rsum_I, rsum_R, ps_s, ps_n, true_and, and_true, Nat.reduceAdd, Nat.reduceLeDiff, hd2, bi_0, r2, m3, e61]
  refine okm_within ?_
  rw [lt4b]
  refine go_blk [(.ifCond .eq 12, 18, 0, 0)] (by decide +kernel) ?_
  simp only [e_if_eq, e_nil, nol_n, nol_I, nol_R, rsum_0, rsum_I, rsum_R, ps_s, ps_n, true_and, and_true, Nat.reduceAdd, Nat.reduceLeDiff, hd2, bi_0, r2, m3, e61]
  refine ⟨fun c6 => ?_, fun c6 => ?_⟩
  · have e : aSoldier x y z ((L, pg), (laid, op), t, (f, cs), (im, t2, f2, cs2), (q, w, b)) = (-102, ((L, pg), (laid, op), t, (f, cs), (im, t2, f2, cs2), (q, w, b))) := by
      show (if _ then _ else if _ then _ else if _ then _ else if _ then _ else _) = _
      rw [if_pos (by rw [show kdB x = false from c6]; rfl)]
    rw [e] at h
    refine go_blk [(.bipush (-102), 0, 0, 0), (.ireturn, 0, 0, 0)] (by decide +kernel) ?_
    simp only [e_bp_m102, e_iret0, e_nil, nol_n, nol_I, nol_R, rsum_0, rsum_I, rsum_R, ps_s, ps_n, true_and, and_true, Nat.reduceAdd, Nat.reduceLeDiff, hd2, bi_0, r2, m3, e61]
    exact h μ hR0 (offx_rf μ)
  · have kx : kdB x = true := eq_true_of_ne_false c6
    refine go_blk [(.iload_n 2, 0, 0, 0), (.iconst 0, 0, 0, 0), (.iconst 1, 0, 0, 0), (.invokestatic 51, 103, 3, 0)] (by decide +kernel) ?_
    simp only [e_il_2, e_ic_0, e_ic_1, e_ivs_3, e_nil, Nat.reduceLT, nol_n, nol_I, nol_R, rsum_0, rsum_I, rsum_R, ps_s, ps_n, true_and, and_true, Nat.reduceAdd, Nat.reduceLeDiff, hd2, bi_0, r2, m3, e61]
    refine okm_within ?_
    rw [lt1b]
    refine go_blk [(.ifCond .ne 6, 21, 0, 0)] (by decide +kernel) ?_
    simp only [e_if_ne, e_nil, nol_n, nol_I, nol_R, rsum_0, rsum_I, rsum_R, ps_s, ps_n, true_and, and_true, Nat.reduceAdd, Nat.reduceLeDiff, hd2, bi_0, r2, m3, e61]
    refine ⟨fun c15 => ?_, fun c15 => ?_⟩
    · have sy : sdB y = true := eq_true_of_ne_false c15
      have ks : ¬ (kdB x && sdB y) = false := by rw [kx, sy]; decide
      refine go_blk [(.aload_n 0, 0, 0, 0), (.iload_n 3, 0, 0, 0), (.invokevirtual 149, 116, 1, 8)] (by decide +kernel) ?_
      simp only [e_al_0, e_il_3, e_iv_8_1, e_nil, nol_n, nol_I, nol_R, rsum_0, rsum_I, rsum_R, ps_s, ps_n, true_and, and_true, Nat.reduceAdd, Nat.reduceLeDiff, hd2, bi_0, r2, m3, e61]
      refine okm_isCell r0 (by omega) ?_
      refine go_blk [(.ifCond .ne 6, 32, 0, 0)] (by decide +kernel) ?_
      simp only [e_if_ne, e_nil, nol_n, nol_I, nol_R, rsum_0, rsum_I, rsum_R, ps_s, ps_n, true_and, and_true, Nat.reduceAdd, Nat.reduceLeDiff, hd2, bi_0, r2, m3, e61]
      refine ⟨fun c26 => ?_, fun c26 => ?_⟩
      · have cz0 : clB laid z = true := eq_true_of_ne_false c26
        have nz : ¬ clB laid z = false := by rw [cz0]; decide
        obtain ⟨hl, c, hc, rfl⟩ := cl_of cz0
        have xc : ix (nI c) = c := nI_ix (by omega)
        refine go_blk [(.aload_n 0, 0, 0, 0), (.getfield 80, 8, 2, 0), (.iload_n 3, 0, 0, 0), (.invokestatic 69, 104, 2, 0)] (by decide +kernel) ?_
        simp only [e_al_0, e_gf_8_2, e_il_3, e_ivs_2, rd_8_2, e_nil, Nat.reduceLT, nol_n, nol_I, nol_R, rsum_0, rsum_I, rsum_R, ps_s, ps_n, true_and, and_true, Nat.reduceAdd, Nat.reduceLeDiff, hd2, bi_0, r2, m3, e61]
        refine okm_has (by omega) (by omega) ?_
        refine go_blk [(.ifCond .eq 12, 52, 0, 0)] (by decide +kernel) ?_
        simp only [e_if_eq, e_nil, nol_n, nol_I, nol_R, rsum_0, rsum_I, rsum_R, ps_s, ps_n, true_and, and_true, Nat.reduceAdd, Nat.reduceLeDiff, hd2, bi_0, r2, m3, e61]
        refine ⟨fun c40 => ?_, fun c40 => ?_⟩
        · have e : aSoldier x y (nI c) ((L, pg), (laid, op), t, (f, cs), (im, t2, f2, cs2), (q, w, b)) = (-103, ((L, pg), (laid, op), t, (f, cs), (im, t2, f2, cs2), (q, w, b))) := by
            show (if _ then _ else if _ then _ else if _ then _ else _) = _
            rw [if_neg ks, if_neg nz, if_pos (by rw [xc, c40]; rfl)]
          rw [e] at h
          refine go_blk [(.bipush (-103), 0, 0, 0), (.ireturn, 0, 0, 0)] (by decide +kernel) ?_
          simp only [e_bp_m103, e_iret0, e_nil, nol_n, nol_I, nol_R, rsum_0, rsum_I, rsum_R, ps_s, ps_n, true_and, and_true, Nat.reduceAdd, Nat.reduceLeDiff, hd2, bi_0, r2, m3, e61]
          exact h μ hR0 (offx_rf μ)
        · refine go_blk [(.aload_n 0, 0, 0, 0), (.iload_n 3, 0, 0, 0), (.invokevirtual 143, 123, 1, 8)] (by decide +kernel) ?_
          simp only [e_al_0, e_il_3, e_iv_8_1, e_nil, nol_n, nol_I, nol_R, rsum_0, rsum_I, rsum_R, ps_s, ps_n, true_and, and_true, Nat.reduceAdd, Nat.reduceLeDiff, hd2, bi_0, r2, m3, e61]
          refine okm_who iT rM hc ?_
          rw [← who_eN iT.1]
          refine go_blk [(.iconst (-1), 0, 0, 0), (.if_icmp .eq 6, 55, 0, 0)] (by decide +kernel) ?_
          simp only [e_ic_m1, e_icmp_eq, e_nil, nol_n, nol_I, nol_R, rsum_0, rsum_I, rsum_R, ps_s, ps_n, true_and, and_true, Nat.reduceAdd, Nat.reduceLeDiff, hd2, bi_0, r2, m3, e61]
          refine ⟨fun c49 => ?_, fun c49 => ?_⟩
          · have fz : ¬ (op.testBit (ix (nI c)) && decide (who t (ix (nI c)) = -1)) = false := by rw [xc, eq_true_of_ne_false c40, decide_eq_true c49]; decide
            refine go_blk [(.aload_n 0, 0, 0, 0), (.getfield 96, 8, 3, 0), (.bipush 6, 0, 0, 0), (.if_icmp .ne 6, 67, 0, 0)] (by decide +kernel) ?_
            simp only [e_al_0, e_gf_8_3, e_bp_6, e_icmp_ne, rd_8_3, e_nil, nol_n, nol_I, nol_R, rsum_0, rsum_I, rsum_R, ps_s, ps_n, true_and, and_true, Nat.reduceAdd, Nat.reduceLeDiff, hd2, bi_0, r2, m3, e61]
            refine ⟨fun c61 => ?_, fun c61 => ?_⟩
            · obtain ⟨kd, hkd, rfl⟩ := kd_of kx
              obtain ⟨sd, hsd, rfl⟩ := sd_of sy
              have e : aSoldier (nI kd) (nI sd) (nI c) ((L, pg), (laid, op), t, (f, cs), (im, t2, f2, cs2), (q, w, b)) = (nI (t 0 1), ((L, pg), (laid, op), enl t kd sd c, (f, cs), (im, t2, f2, cs2), (q, w, b))) := by
                show (if _ then _ else if _ then _ else if _ then _ else if _ then _ else _) = _
                rw [if_neg ks, if_neg nz, if_neg fz, if_neg (by omega), xc, nI_ix (by omega), nI_ix (by omega)]
              rw [e] at h
              have vn : vp_in (nI (t 0 1)) 6 := vin (by omega) (by omega)
              have xn : ix (nI (t 0 1)) = t 0 1 := nI_ix (by omega)
              have m6 : ∀ (v1 v2 : Int32), up (up μ 8 0 5 (t 0 1) v1) 8 0 6 (t 0 1) v2 8 0 0 6 = nI (mSt t) := fun v1 v2 => by rw [up_ne (by omega), up_ne (by omega)]; exact rM.2.1.1
              have m7 : ∀ (v1 v2 v3 : Int32), up (up (up μ 8 0 5 (t 0 1) v1) 8 0 6 (t 0 1) v2) 8 0 0 6 v3 8 0 0 7 = nI (mSd t) := fun v1 v2 v3 => by rw [up_ne (by omega), up_ne (by omega), up_ne (by omega)]; exact rM.2.1.2.1
              have m8 : ∀ (v1 v2 v3 v4 : Int32), up (up (up (up μ 8 0 5 (t 0 1) v1) 8 0 6 (t 0 1) v2) 8 0 0 6 v3) 8 0 0 7 v4 8 0 0 8 = nI (htF t (t 0 1)) := fun v1 v2 v3 v4 => by rw [up_ne (by omega), up_ne (by omega), up_ne (by omega), up_ne (by omega)]; exact rM.2.1.2.2
              have m3' : ∀ (v1 v2 v3 v4 v5 : Int32), up (up (up (up (up μ 8 0 5 (t 0 1) v1) 8 0 6 (t 0 1) v2) 8 0 0 6 v3) 8 0 0 7 v4) 8 0 0 8 v5 8 0 0 3 = nI (t 0 1) := fun v1 v2 v3 v4 v5 => by rw [up_ne (by omega), up_ne (by omega), up_ne (by omega), up_ne (by omega), up_ne (by omega)]; exact m3
              have es := nI_shl (c := t 0 1) (by omega)
              have eo6 := nI_or (mSt t) (2 ^ t 0 1)
              have e105 : (nI sd = 1) = (sd = 1) := propext (nI_eq (b := 1) (by omega) (by omega))
              have e2n : (2 : Int32) * nI (t 0 1) = nI (2 * t 0 1) := pk_mul 2 (t 0 1)
              have p12 : 2 ^ (2 * t 0 1) ≤ 2 ^ 12 := Nat.pow_le_pow_right (by decide) (by omega)
              have e3s : (3 : Int32) <<< (nI (2 * t 0 1) &&& 31) = nI (3 * 2 ^ (2 * t 0 1)) := pk_shlN (n := 3) _ _ (sh_k _ (by omega)) (by omega)
              have eH := nI_andn (htF t (t 0 1)) (3 * 2 ^ (2 * t 0 1))
              have h4 : ∀ j, j < t 0 1 → t 6 j < 4 := fun j hj => by have := (iT.2.1 j hj).2.2.2.1; omega
              rw [and_hi (by rw [p2b]; exact htF_lt t (t 0 1) h4)] at eH
              have e7o := nI_or (mSd t) (2 ^ t 0 1)
              have e7n := nI_andn (mSd t) (2 ^ t 0 1)
              have a7 := and_hi (x := mSd t) (m := 1) (k := t 0 1) (mskF_lt _ _)
              rw [Nat.one_mul] at a7
              rw [a7] at e7n
              have en1 : nI (t 0 1) + 1 = nI (t 0 1 + 1) := nI_1 _
              refine go_blk [(.aload_n 0, 0, 0, 0), (.getfield 96, 8, 3, 0), (.istore 4, 0, 0, 0), (.aload_n 0, 0, 0, 0), (.getfield 7, 8, 4, 0), (.iload 4, 0, 0, 0), (.iload_n 1, 0, 0, 0), (.iastore, 0, 0, 0)] (by decide +kernel) ?_
              simp only [e_al_0, e_gf_8_3, e_isw_4n, e_isw_4I, e_isw_4R, e_gf_8_4, e_ilw_4, e_il_1, e_iast, rd_8_3, rd_8_4, ai_0_4, ai_1_7, ai_2_1, ai_2_2, ai_3_1, ai_4_1, ai_6_3, ai_6_4, ai_6_5, ai_6_6, ai_6_7, ai_6_8, ai_8_5, ai_8_6, ai_8_17, ai_8_21, ai_8_23, ai_8_24, ai_8_27, ai_8_28, ai_8_38, ai_8_39, ai_8_40, e_nil, nol_n, nol_I, nol_R, rsum_0, rsum_I, rsum_R, ps_s, ps_n, true_and, and_true, Nat.reduceAdd, Nat.reduceLeDiff, hd2, bi_0, r2, m3, e61, vn, xn, m6, m7, m8, m3', es, eo6, e105, e2n, e3s, eH, e7o, e7n, en1]
              refine go_blk [(.aload_n 0, 0, 0, 0), (.getfield 13, 8, 5, 0), (.iload 4, 0, 0, 0), (.iload_n 3, 0, 0, 0), (.iastore, 0, 0, 0)] (by decide +kernel) ?_
              simp only [e_al_0, e_gf_8_5, e_ilw_4, e_il_3, e_iast, rd_8_5, ai_0_4, ai_1_7, ai_2_1, ai_2_2, ai_3_1, ai_4_1, ai_6_3, ai_6_4, ai_6_5, ai_6_6, ai_6_7, ai_6_8, ai_8_5, ai_8_6, ai_8_17, ai_8_21, ai_8_23, ai_8_24, ai_8_27, ai_8_28, ai_8_38, ai_8_39, ai_8_40, e_nil, nol_n, nol_I, nol_R, rsum_0, rsum_I, rsum_R, ps_s, ps_n, true_and, and_true, Nat.reduceAdd, Nat.reduceLeDiff, hd2, bi_0, r2, m3, e61, vn, xn, m6, m7, m8, m3', es, eo6, e105, e2n, e3s, eH, e7o, e7n, en1]
              refine go_blk [(.aload_n 0, 0, 0, 0), (.dup, 0, 0, 0), (.getfield 99, 8, 6, 0), (.iconst 1, 0, 0, 0), (.iload 4, 0, 0, 0), (.ishl, 0, 0, 0), (.ior, 0, 0, 0), (.putfield 99, 8, 6, 0)] (by decide +kernel) ?_
              simp only [e_al_0, e_dupI, e_dupR, e_gf_8_6, e_ic_1, e_ilw_4, e_ishl, e_ior, e_pf_8_6, rd_8_6, e_nil, nol_n, nol_I, nol_R, rsum_0, rsum_I, rsum_R, ps_s, ps_n, true_and, and_true, Nat.reduceAdd, Nat.reduceLeDiff, hd2, bi_0, r2, m3, e61, vn, xn, m6, m7, m8, m3', es, eo6, e105, e2n, e3s, eH, e7o, e7n, en1]
              refine go_blk [(.aload_n 0, 0, 0, 0), (.iload_n 2, 0, 0, 0), (.iconst 1, 0, 0, 0), (.if_icmp .ne 15, 120, 0, 0)] (by decide +kernel) ?_
              simp only [e_al_0, e_il_2, e_ic_1, e_icmp_ne, e_nil, nol_n, nol_I, nol_R, rsum_0, rsum_I, rsum_R, ps_s, ps_n, true_and, and_true, Nat.reduceAdd, Nat.reduceLeDiff, hd2, bi_0, r2, m3, e61, vn, xn, m6, m7, m8, m3', es, eo6, e105, e2n, e3s, eH, e7o, e7n, en1]
              refine ⟨fun c105 => ?_, fun c105 => ?_⟩
              · refine go_blk [(.aload_n 0, 0, 0, 0), (.getfield 102, 8, 7, 0), (.iconst 1, 0, 0, 0), (.iload 4, 0, 0, 0), (.ishl, 0, 0, 0), (.iconst (-1), 0, 0, 0), (.ixor, 0, 0, 0), (.iand, 0, 0, 0), (.putfield 102, 8, 7, 0)] (by decide +kernel) ?_
                simp only [e_al_0, e_gf_8_7, e_ic_1, e_ilw_4, e_ishl, e_ic_m1, e_ixor, e_iand, e_pf_8_7, rd_8_7, e_nil, nol_n, nol_I, nol_R, rsum_0, rsum_I, rsum_R, ps_s, ps_n, true_and, and_true, Nat.reduceAdd, Nat.reduceLeDiff, hd2, bi_0, r2, m3, e61, vn, xn, m6, m7, m8, m3', es, eo6, e105, e2n, e3s, eH, e7o, e7n, en1]
                refine go_blk [(.aload_n 0, 0, 0, 0), (.dup, 0, 0, 0), (.getfield 105, 8, 8, 0), (.iconst 3, 0, 0, 0), (.iconst 2, 0, 0, 0), (.iload 4, 0, 0, 0), (.imul, 0, 0, 0), (.ishl, 0, 0, 0), (.iconst (-1), 0, 0, 0), (.ixor, 0, 0, 0), (.iand, 0, 0, 0), (.putfield 105, 8, 8, 0)] (by decide +kernel) ?_
                simp only [e_al_0, e_dupI, e_dupR, e_gf_8_8, e_ic_3, e_ic_2, e_ilw_4, e_imul, e_ishl, e_ic_m1, e_ixor, e_iand, e_pf_8_8, rd_8_8, e_nil, nol_n, nol_I, nol_R, rsum_0, rsum_I, rsum_R, ps_s, ps_n, true_and, and_true, Nat.reduceAdd, Nat.reduceLeDiff, hd2, bi_0, r2, m3, e61, vn, xn, m6, m7, m8, m3', es, eo6, e105, e2n, e3s, eH, e7o, e7n, en1]
                refine go_blk [(.aload_n 0, 0, 0, 0), (.dup, 0, 0, 0), (.getfield 96, 8, 3, 0), (.iconst 1, 0, 0, 0), (.iadd, 0, 0, 0), (.putfield 96, 8, 3, 0)] (by decide +kernel) ?_
                simp only [e_al_0, e_dupI, e_dupR, e_gf_8_3, e_ic_1, e_iadd, e_pf_8_3, rd_8_3, e_nil, nol_n, nol_I, nol_R, rsum_0, rsum_I, rsum_R, ps_s, ps_n, true_and, and_true, Nat.reduceAdd, Nat.reduceLeDiff, hd2, bi_0, r2, m3, e61, vn, xn, m6, m7, m8, m3', es, eo6, e105, e2n, e3s, eH, e7o, e7n, en1]
                refine go_blk [(.iload 4, 0, 0, 0), (.ireturn, 0, 0, 0)] (by decide +kernel) ?_
                simp only [e_ilw_4, e_iret0, e_nil, nol_n, nol_I, nol_R, rsum_0, rsum_I, rsum_R, ps_s, ps_n, true_and, and_true, Nat.reduceAdd, Nat.reduceLeDiff, hd2, bi_0, r2, m3, e61, vn, xn, m6, m7, m8, m3', es, eo6, e105, e2n, e3s, eH, e7o, e7n, en1]
                obtain ⟨e0, e3, e4, e5, -, -⟩ := enl_hi t kd sd c
                have nM : MRep (up (up (up (up (up (up μ 8 0 5 (t 0 1) (nI kd)) 8 0 6 (t 0 1) (nI c)) 8 0 0 6 (nI (mSt t ||| 2 ^ t 0 1))) 8 0 0 7 (nI (mSd t))) 8 0 0 8 (nI (htF t (t 0 1)))) 8 0 0 3 (nI (t 0 1 + 1))) (enl t kd sd c) := by
                  refine ⟨⟨?_, fun j hj => ?_, fun j hj => ?_⟩, ⟨?_, ?_, ?_⟩, ?_, ?_⟩
                  · rw [up_self, e0]
                  · rw [e0] at hj
                    rw [up_ne (by omega), up_ne (by omega), up_ne (by omega), up_ne (by omega), up_ne (by omega)]
                    by_cases zj : j = t 0 1
                    · rw [zj, up_self, e3]
                    · rw [up_ne (by omega), enl_lo (by omega) 3 (by omega)]; exact rM.1.2.1 j (by omega)
                  · rw [e0] at hj
                    rw [up_ne (by omega), up_ne (by omega), up_ne (by omega), up_ne (by omega)]
                    by_cases zj : j = t 0 1
                    · rw [zj, up_self, e5]
                    · rw [up_ne (by omega), up_ne (by omega), enl_lo (by omega) 5 (by omega)]; exact rM.1.2.2 j (by omega)
                  · rw [up_ne (by omega), up_ne (by omega), up_ne (by omega), up_self]; exact congrArg nI enl_st.symm
                  · rw [up_ne (by omega), up_ne (by omega), up_self]; exact congrArg nI (show mSd t = mSd (enl t kd sd c) from by rw [enl_sd, if_neg c105, Nat.or_zero])
                  · rw [up_ne (by omega), up_self]; exact congrArg nI enl_ht.symm
                  · rw [enl_p t kd sd c 0 (by omega) (by omega)]
                    repeat rw [up_ne (by omega)]
                    exact rM.2.2.1
                  · rw [enl_p t kd sd c 1 (by omega) (by omega)]
                    repeat rw [up_ne (by omega)]
                    exact rM.2.2.2
                have z2 := rm_gm (t' := enl t kd sd c) (f' := f) (cs' := cs) hR0 (fun c' i s j hc' => by
                  unfold Scr at hc'
                  rw [up_ne (by omega), up_ne (by omega), up_ne (by omega), up_ne (by omega), up_ne (by omega), up_ne (by omega)]) nM (gm_off rG (fun j h1 h2 => by rw [up_ne (by omega), up_ne (by omega), up_ne (by omega), up_ne (by omega), up_ne (by omega), up_ne (by omega)]) (fun j => by rw [up_ne (by omega), up_ne (by omega), up_ne (by omega), up_ne (by omega), up_ne (by omega), up_ne (by omega)]))
                exact h _ z2.1 z2.2
              · refine go_blk [(.aload_n 0, 0, 0, 0), (.getfield 102, 8, 7, 0), (.iconst 1, 0, 0, 0), (.iload 4, 0, 0, 0), (.ishl, 0, 0, 0), (.ior, 0, 0, 0), (.goto 14, 131, 0, 0), (.putfield 102, 8, 7, 0)] (by decide +kernel) ?_
                simp only [e_al_0, e_gf_8_7, e_ic_1, e_ilw_4, e_ishl, e_ior, e_goto, e_pf_8_7, rd_8_7, e_nil, nol_n, nol_I, nol_R, rsum_0, rsum_I, rsum_R, ps_s, ps_n, true_and, and_true, Nat.reduceAdd, Nat.reduceLeDiff, hd2, bi_0, r2, m3, e61, vn, xn, m6, m7, m8, m3', es, eo6, e105, e2n, e3s, eH, e7o, e7n, en1]
                refine go_blk [(.aload_n 0, 0, 0, 0), (.dup, 0, 0, 0), (.getfield 105, 8, 8, 0), (.iconst 3, 0, 0, 0), (.iconst 2, 0, 0, 0), (.iload 4, 0, 0, 0), (.imul, 0, 0, 0), (.ishl, 0, 0, 0), (.iconst (-1), 0, 0, 0), (.ixor, 0, 0, 0), (.iand, 0, 0, 0), (.putfield 105, 8, 8, 0)] (by decide +kernel) ?_
                simp only [e_al_0, e_dupI, e_dupR, e_gf_8_8, e_ic_3, e_ic_2, e_ilw_4, e_imul, e_ishl, e_ic_m1, e_ixor, e_iand, e_pf_8_8, rd_8_8, e_nil, nol_n, nol_I, nol_R, rsum_0, rsum_I, rsum_R, ps_s, ps_n, true_and, and_true, Nat.reduceAdd, Nat.reduceLeDiff, hd2, bi_0, r2, m3, e61, vn, xn, m6, m7, m8, m3', es, eo6, e105, e2n, e3s, eH, e7o, e7n, en1]
                refine go_blk [(.aload_n 0, 0, 0, 0), (.dup, 0, 0, 0), (.getfield 96, 8, 3, 0), (.iconst 1, 0, 0, 0), (.iadd, 0, 0, 0), (.putfield 96, 8, 3, 0)] (by decide +kernel) ?_
                simp only [e_al_0, e_dupI, e_dupR, e_gf_8_3, e_ic_1, e_iadd, e_pf_8_3, rd_8_3, e_nil, nol_n, nol_I, nol_R, rsum_0, rsum_I, rsum_R, ps_s, ps_n, true_and, and_true, Nat.reduceAdd, Nat.reduceLeDiff, hd2, bi_0, r2, m3, e61, vn, xn, m6, m7, m8, m3', es, eo6, e105, e2n, e3s, eH, e7o, e7n, en1]
                refine go_blk [(.iload 4, 0, 0, 0), (.ireturn, 0, 0, 0)] (by decide +kernel) ?_
                simp only [e_ilw_4, e_iret0, e_nil, nol_n, nol_I, nol_R, rsum_0, rsum_I, rsum_R, ps_s, ps_n, true_and, and_true, Nat.reduceAdd, Nat.reduceLeDiff, hd2, bi_0, r2, m3, e61, vn, xn, m6, m7, m8, m3', es, eo6, e105, e2n, e3s, eH, e7o, e7n, en1]
                obtain ⟨e0, e3, e4, e5, -, -⟩ := enl_hi t kd sd c
                have nM : MRep (up (up (up (up (up (up μ 8 0 5 (t 0 1) (nI kd)) 8 0 6 (t 0 1) (nI c)) 8 0 0 6 (nI (mSt t ||| 2 ^ t 0 1))) 8 0 0 7 (nI (mSd t ||| 2 ^ t 0 1))) 8 0 0 8 (nI (htF t (t 0 1)))) 8 0 0 3 (nI (t 0 1 + 1))) (enl t kd sd c) := by
                  refine ⟨⟨?_, fun j hj => ?_, fun j hj => ?_⟩, ⟨?_, ?_, ?_⟩, ?_, ?_⟩
                  · rw [up_self, e0]
                  · rw [e0] at hj
                    rw [up_ne (by omega), up_ne (by omega), up_ne (by omega), up_ne (by omega), up_ne (by omega)]
                    by_cases zj : j = t 0 1
                    · rw [zj, up_self, e3]
                    · rw [up_ne (by omega), enl_lo (by omega) 3 (by omega)]; exact rM.1.2.1 j (by omega)
                  · rw [e0] at hj
                    rw [up_ne (by omega), up_ne (by omega), up_ne (by omega), up_ne (by omega)]
                    by_cases zj : j = t 0 1
                    · rw [zj, up_self, e5]
                    · rw [up_ne (by omega), up_ne (by omega), enl_lo (by omega) 5 (by omega)]; exact rM.1.2.2 j (by omega)
                  · rw [up_ne (by omega), up_ne (by omega), up_ne (by omega), up_self]; exact congrArg nI enl_st.symm
                  · rw [up_ne (by omega), up_ne (by omega), up_self]; exact congrArg nI (show mSd t ||| 2 ^ t 0 1 = mSd (enl t kd sd c) from by rw [enl_sd, if_pos c105])
                  · rw [up_ne (by omega), up_self]; exact congrArg nI enl_ht.symm
                  · rw [enl_p t kd sd c 0 (by omega) (by omega)]
                    repeat rw [up_ne (by omega)]
                    exact rM.2.2.1
                  · rw [enl_p t kd sd c 1 (by omega) (by omega)]
                    repeat rw [up_ne (by omega)]
                    exact rM.2.2.2
                have z2 := rm_gm (t' := enl t kd sd c) (f' := f) (cs' := cs) hR0 (fun c' i s j hc' => by
                  unfold Scr at hc'
                  rw [up_ne (by omega), up_ne (by omega), up_ne (by omega), up_ne (by omega), up_ne (by omega), up_ne (by omega)]) nM (gm_off rG (fun j h1 h2 => by rw [up_ne (by omega), up_ne (by omega), up_ne (by omega), up_ne (by omega), up_ne (by omega), up_ne (by omega)]) (fun j => by rw [up_ne (by omega), up_ne (by omega), up_ne (by omega), up_ne (by omega), up_ne (by omega), up_ne (by omega)]))
                exact h _ z2.1 z2.2
            · have e : aSoldier x y (nI c) ((L, pg), (laid, op), t, (f, cs), (im, t2, f2, cs2), (q, w, b)) = (-104, ((L, pg), (laid, op), t, (f, cs), (im, t2, f2, cs2), (q, w, b))) := by
                show (if _ then _ else if _ then _ else if _ then _ else if _ then _ else _) = _
                rw [if_neg ks, if_neg nz, if_neg fz, if_pos (by omega)]
              rw [e] at h
              refine go_blk [(.bipush (-104), 0, 0, 0), (.ireturn, 0, 0, 0)] (by decide +kernel) ?_
              simp only [e_bp_m104, e_iret0, e_nil, nol_n, nol_I, nol_R, rsum_0, rsum_I, rsum_R, ps_s, ps_n, true_and, and_true, Nat.reduceAdd, Nat.reduceLeDiff, hd2, bi_0, r2, m3, e61]
              exact h μ hR0 (offx_rf μ)
          · have e : aSoldier x y (nI c) ((L, pg), (laid, op), t, (f, cs), (im, t2, f2, cs2), (q, w, b)) = (-103, ((L, pg), (laid, op), t, (f, cs), (im, t2, f2, cs2), (q, w, b))) := by
              show (if _ then _ else if _ then _ else if _ then _ else _) = _
              rw [if_neg ks, if_neg nz, if_pos (by rw [xc, decide_eq_false c49, Bool.and_false])]
            rw [e] at h
            refine go_blk [(.bipush (-103), 0, 0, 0), (.ireturn, 0, 0, 0)] (by decide +kernel) ?_
            simp only [e_bp_m103, e_iret0, e_nil, nol_n, nol_I, nol_R, rsum_0, rsum_I, rsum_R, ps_s, ps_n, true_and, and_true, Nat.reduceAdd, Nat.reduceLeDiff, hd2, bi_0, r2, m3, e61]
            exact h μ hR0 (offx_rf μ)
      · have e : aSoldier x y z ((L, pg), (laid, op), t, (f, cs), (im, t2, f2, cs2), (q, w, b)) = (-101, ((L, pg), (laid, op), t, (f, cs), (im, t2, f2, cs2), (q, w, b))) := by
          show (if _ then _ else if _ then _ else if _ then _ else _) = _
          rw [if_neg ks, if_pos (show clB laid z = false from c26)]
        rw [e] at h
        refine go_blk [(.bipush (-101), 0, 0, 0), (.ireturn, 0, 0, 0)] (by decide +kernel) ?_
        simp only [e_bp_m101, e_iret0, e_nil, nol_n, nol_I, nol_R, rsum_0, rsum_I, rsum_R, ps_s, ps_n, true_and, and_true, Nat.reduceAdd, Nat.reduceLeDiff, hd2, bi_0, r2, m3, e61]
        exact h μ hR0 (offx_rf μ)
    · have e : aSoldier x y z ((L, pg), (laid, op), t, (f, cs), (im, t2, f2, cs2), (q, w, b)) = (-102, ((L, pg), (laid, op), t, (f, cs), (im, t2, f2, cs2), (q, w, b))) := by
        show (if _ then _ else if _ then _ else if _ then _ else if _ then _ else _) = _
        rw [if_pos (by rw [kx, show sdB y = false from c15]; rfl)]
      rw [e] at h
      refine go_blk [(.bipush (-102), 0, 0, 0), (.ireturn, 0, 0, 0)] (by decide +kernel) ?_
      simp only [e_bp_m102, e_iret0, e_nil, nol_n, nol_I, nol_R, rsum_0, rsum_I, rsum_R, ps_s, ps_n, true_and, and_true, Nat.reduceAdd, Nat.reduceLeDiff, hd2, bi_0, r2, m3, e61]
      exact h μ hR0 (offx_rf μ)
theorem xm_move {l : Launch} {K : KK} {d : Nat} {μ : Mm} {P : Option AV → Mm → Prop} {N : Nat} {S : SS} {x y : Int32} (hV : Inv N S) (hR : RM μ S) (hd1 : 14 ≤ d) (h : ∀ μ2, RM μ2 ((aMove x y S).2) → OffX μ μ2 → P (some (vI ((aMove x y S).1))) μ2) : Ok l K d 137 [vR 8 0 0, vI x, vI y] μ P := by
  refine ok_go 4 (by decide +kernel) [some (vR 8 0 0), some (vI x), some (vI y), none] rfl (Nat.le_of_ble_eq_true rfl) ?_
  have hR0 := hR
  have hV0 := hV
  obtain ⟨⟨L, pg⟩, ⟨laid, op⟩, t, ⟨f, cs⟩, ⟨im, t2, f2, cs2⟩, q, w, b⟩ := S
  obtain ⟨⟨rP, r0, r2⟩, ⟨rM, rG⟩, ⟨rK, rK2⟩, ⟨r1, r17, r18⟩⟩ := hR
  obtain ⟨⟨iL, iP⟩, ⟨iO, iO2⟩, ⟨iT, iF⟩, iK, ⟨iq, iw, ib⟩⟩ := hV
  have hd2 : 1 ≤ d := by omega
  have hn := iT.1
  refine go_blk [(.aload_n 0, 0, 0, 0), (.iload_n 1, 0, 0, 0), (.invokevirtual 167, 128, 1, 8)] (by decide +kernel) ?_
  simp only [e_al_0, e_il_1, e_iv_8_1, e_nil, nol_n, nol_I, nol_R, rsum_0, rsum_I, rsum_R, ps_s, ps_n, true_and, and_true, Nat.reduceAdd, Nat.reduceLeDiff, hd2, bi_0, r2]
  refine okm_sol hn rM.1.1 (by omega) ?_
  refine go_blk [(.ifCond .eq 11, 16, 0, 0)] (by decide +kernel) ?_
  simp only [e_if_eq, e_nil, nol_n, nol_I, nol_R, rsum_0, rsum_I, rsum_R, ps_s, ps_n, true_and, and_true, Nat.reduceAdd, Nat.reduceLeDiff, hd2, bi_0, r2]
  refine ⟨fun c5 => ?_, fun c5 => ?_⟩
  · have e : aMove x y ((L, pg), (laid, op), t, (f, cs), (im, t2, f2, cs2), (q, w, b)) = (-101, ((L, pg), (laid, op), t, (f, cs), (im, t2, f2, cs2), (q, w, b))) := by
      show (if _ then _ else if _ then _ else _) = _
      rw [if_pos (by rw [c5]; rfl)]
    rw [e] at h
    refine go_blk [(.bipush (-101), 0, 0, 0), (.ireturn, 0, 0, 0)] (by decide +kernel) ?_
    simp only [e_bp_m101, e_iret0, e_nil, nol_n, nol_I, nol_R, rsum_0, rsum_I, rsum_R, ps_s, ps_n, true_and, and_true, Nat.reduceAdd, Nat.reduceLeDiff, hd2, bi_0, r2]
    exact h μ hR0 (offx_rf μ)
  · obtain ⟨a, ha, rfl⟩ := has_of hn c5
    have xa : ix (nI a) = a := nI_ix (by omega)
    have va : vp_in (nI a) 6 := vin (by omega) (by omega)
    have a5 := rM.1.2.2 a ha
    have hx1 := eq_true_of_ne_false c5
    refine go_blk [(.aload_n 0, 0, 0, 0), (.iload_n 2, 0, 0, 0), (.invokevirtual 149, 116, 1, 8)] (by decide +kernel) ?_
    simp only [e_al_0, e_il_2, e_iv_8_1, e_nil, nol_n, nol_I, nol_R, rsum_0, rsum_I, rsum_R, ps_s, ps_n, true_and, and_true, Nat.reduceAdd, Nat.reduceLeDiff, hd2, bi_0, r2, xa, va, a5]
    refine okm_isCell r0 (by omega) ?_
    refine go_blk [(.ifCond .ne 6, 19, 0, 0)] (by decide +kernel) ?_
    simp only [e_if_ne, e_nil, nol_n, nol_I, nol_R, rsum_0, rsum_I, rsum_R, ps_s, ps_n, true_and, and_true, Nat.reduceAdd, Nat.reduceLeDiff, hd2, bi_0, r2, xa, va, a5]
    refine ⟨fun c13 => ?_, fun c13 => ?_⟩
    · have cz0 : clB laid y = true := eq_true_of_ne_false c13
      obtain ⟨hl, c, hc, rfl⟩ := cl_of cz0
      have xc : ix (nI c) = c := nI_ix (by omega)
      have nb : ¬ (hasI (t 0 1) (nI a) && clB laid (nI c)) = false := by rw [hx1, cz0]; decide
      refine go_blk [(.aload_n 0, 0, 0, 0), (.getfield 80, 8, 2, 0), (.iload_n 2, 0, 0, 0), (.invokestatic 69, 104, 2, 0)] (by decide +kernel) ?_
      simp only [e_al_0, e_gf_8_2, e_il_2, e_ivs_2, rd_8_2, e_nil, Nat.reduceLT, nol_n, nol_I, nol_R, rsum_0, rsum_I, rsum_R, ps_s, ps_n, true_and, and_true, Nat.reduceAdd, Nat.reduceLeDiff, hd2, bi_0, r2, xa, va, a5]
      refine okm_has (by omega) (by omega) ?_
      refine go_blk [(.ifCond .eq 12, 39, 0, 0)] (by decide +kernel) ?_
      simp only [e_if_eq, e_nil, nol_n, nol_I, nol_R, rsum_0, rsum_I, rsum_R, ps_s, ps_n, true_and, and_true, Nat.reduceAdd, Nat.reduceLeDiff, hd2, bi_0, r2, xa, va, a5]
      refine ⟨fun c27 => ?_, fun c27 => ?_⟩
      · have e : aMove (nI a) (nI c) ((L, pg), (laid, op), t, (f, cs), (im, t2, f2, cs2), (q, w, b)) = (-103, ((L, pg), (laid, op), t, (f, cs), (im, t2, f2, cs2), (q, w, b))) := by
          show (if _ then _ else if _ then _ else _) = _
          rw [if_neg nb, if_pos (by rw [xc, c27]; rfl)]
        rw [e] at h
        refine go_blk [(.bipush (-103), 0, 0, 0), (.ireturn, 0, 0, 0)] (by decide +kernel) ?_
        simp only [e_bp_m103, e_iret0, e_nil, nol_n, nol_I, nol_R, rsum_0, rsum_I, rsum_R, ps_s, ps_n, true_and, and_true, Nat.reduceAdd, Nat.reduceLeDiff, hd2, bi_0, r2, xa, va, a5]
        exact h μ hR0 (offx_rf μ)
      · refine go_blk [(.aload_n 0, 0, 0, 0), (.iload_n 2, 0, 0, 0), (.invokevirtual 143, 123, 1, 8)] (by decide +kernel) ?_
        simp only [e_al_0, e_il_2, e_iv_8_1, e_nil, nol_n, nol_I, nol_R, rsum_0, rsum_I, rsum_R, ps_s, ps_n, true_and, and_true, Nat.reduceAdd, Nat.reduceLeDiff, hd2, bi_0, r2, xa, va, a5]
        refine okm_who iT rM hc ?_
        rw [← who_eN iT.1]
        refine go_blk [(.iconst (-1), 0, 0, 0), (.if_icmp .eq 6, 42, 0, 0)] (by decide +kernel) ?_
        simp only [e_ic_m1, e_icmp_eq, e_nil, nol_n, nol_I, nol_R, rsum_0, rsum_I, rsum_R, ps_s, ps_n, true_and, and_true, Nat.reduceAdd, Nat.reduceLeDiff, hd2, bi_0, r2, xa, va, a5]
        refine ⟨fun c36 => ?_, fun c36 => ?_⟩
        · have e : aMove (nI a) (nI c) ((L, pg), (laid, op), t, (f, cs), (im, t2, f2, cs2), (q, w, b)) = (nI (t 5 a), ((L, pg), (laid, op), tu t 5 a c, (f, cs), (im, t2, f2, cs2), (q, w, b))) := by
            show (if _ then _ else if _ then _ else _) = _
            rw [if_neg nb, if_neg (by rw [xc, eq_true_of_ne_false c27, decide_eq_true c36]; decide), xa, xc]
          rw [e] at h
          refine go_blk [(.aload_n 0, 0, 0, 0), (.getfield 13, 8, 5, 0), (.iload_n 1, 0, 0, 0), (.iaload, 0, 0, 0), (.istore_n 3, 0, 0, 0), (.aload_n 0, 0, 0, 0), (.getfield 13, 8, 5, 0), (.iload_n 1, 0, 0, 0), (.iload_n 2, 0, 0, 0), (.iastore, 0, 0, 0)] (by decide +kernel) ?_
          simp only [e_al_0, e_gf_8_5, e_il_1, e_ia, e_is_3n, e_is_3I, e_is_3R, e_il_2, e_iast, rd_8_5, ai_0_4, ai_1_7, ai_2_1, ai_2_2, ai_3_1, ai_4_1, ai_6_3, ai_6_4, ai_6_5, ai_6_6, ai_6_7, ai_6_8, ai_8_5, ai_8_6, ai_8_17, ai_8_21, ai_8_23, ai_8_24, ai_8_27, ai_8_28, ai_8_38, ai_8_39, ai_8_40, e_nil, nol_n, nol_I, nol_R, rsum_0, rsum_I, rsum_R, ps_s, ps_n, true_and, and_true, Nat.reduceAdd, Nat.reduceLeDiff, hd2, bi_0, r2, xa, va, a5]
          refine go_blk [(.iload_n 3, 0, 0, 0), (.ireturn, 0, 0, 0)] (by decide +kernel) ?_
          simp only [e_il_3, e_iret0, e_nil, nol_n, nol_I, nol_R, rsum_0, rsum_I, rsum_R, ps_s, ps_n, true_and, and_true, Nat.reduceAdd, Nat.reduceLeDiff, hd2, bi_0, r2, xa, va, a5]
          have n1 : tu t 5 a c 0 1 = t 0 1 := tu_ne (by omega)
          have nM : MRep (up μ 8 0 6 a (nI c)) (tu t 5 a c) := by
            refine ⟨⟨?_, fun j hj => ?_, fun j hj => ?_⟩, ⟨?_, ?_, ?_⟩, ?_, ?_⟩
            · rw [up_ne (by omega), n1]; exact rM.1.1
            · rw [n1] at hj; rw [up_ne (by omega), tu_ne (by omega)]; exact rM.1.2.1 j hj
            · rw [n1] at hj
              by_cases zj : j = a
              · rw [zj, up_self, tu_self]
              · rw [up_ne (by omega), tu_ne (by omega)]; exact rM.1.2.2 j hj
            · rw [up_ne (by omega), n1, mskF_eq (g := stn t) (fun j _ => by unfold stn; rw [tu_ne (by omega)])]; exact rM.2.1.1
            · rw [up_ne (by omega), n1, mskF_eq (g := fun j => t 4 j == 1) (fun j _ => by rw [tu_ne (by omega)])]; exact rM.2.1.2.1
            · rw [up_ne (by omega), n1, htF_eq (t := t) _ (fun j _ => tu_ne (by omega))]; exact rM.2.1.2.2
            · rw [up_ne (by omega), tu_ne (by omega)]; exact rM.2.2.1
            · rw [up_ne (by omega), tu_ne (by omega)]; exact rM.2.2.2
          have z2 := rm_gm (t' := tu t 5 a c) (f' := f) (cs' := cs) hR0 (fun c' i s j hc' => by unfold Scr at hc'; rw [up_ne (by omega)]) nM (gm_off rG (fun j h1 h2 => up_ne (by omega)) (fun j => up_ne (by omega)))
          exact h _ z2.1 z2.2
        · have e : aMove (nI a) (nI c) ((L, pg), (laid, op), t, (f, cs), (im, t2, f2, cs2), (q, w, b)) = (-103, ((L, pg), (laid, op), t, (f, cs), (im, t2, f2, cs2), (q, w, b))) := by
            show (if _ then _ else if _ then _ else _) = _
            rw [if_neg nb, if_pos (by rw [xc, decide_eq_false c36, Bool.and_false])]
          rw [e] at h
          refine go_blk [(.bipush (-103), 0, 0, 0), (.ireturn, 0, 0, 0)] (by decide +kernel) ?_
          simp only [e_bp_m103, e_iret0, e_nil, nol_n, nol_I, nol_R, rsum_0, rsum_I, rsum_R, ps_s, ps_n, true_and, and_true, Nat.reduceAdd, Nat.reduceLeDiff, hd2, bi_0, r2, xa, va, a5]
          exact h μ hR0 (offx_rf μ)
    · have e : aMove (nI a) y ((L, pg), (laid, op), t, (f, cs), (im, t2, f2, cs2), (q, w, b)) = (-101, ((L, pg), (laid, op), t, (f, cs), (im, t2, f2, cs2), (q, w, b))) := by
        show (if _ then _ else if _ then _ else _) = _
        rw [if_pos (by rw [show clB laid y = false from c13, Bool.and_false])]
      rw [e] at h
      refine go_blk [(.bipush (-101), 0, 0, 0), (.ireturn, 0, 0, 0)] (by decide +kernel) ?_
      simp only [e_bp_m101, e_iret0, e_nil, nol_n, nol_I, nol_R, rsum_0, rsum_I, rsum_R, ps_s, ps_n, true_and, and_true, Nat.reduceAdd, Nat.reduceLeDiff, hd2, bi_0, r2, xa, va, a5]
      exact h μ hR0 (offx_rf μ)
