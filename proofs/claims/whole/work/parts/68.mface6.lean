theorem din_m {op : Nat} {t : TS} (hI : TInv op t) : mSt (dinT t) = 2 ^ t 0 1 - 1 ∧ mSd (dinT t) = mSd t ∧ htF (dinT t) (t 0 1) = 0 ∧ dinT t 0 1 = t 0 1 := by
  have n1 : dinT t 0 1 = t 0 1 := by simp [dinT]
  refine ⟨?_, ?_, ?_, n1⟩
  · unfold mSt
    rw [n1]
    apply Nat.eq_of_testBit_eq
    intro j
    rw [mskF_bit, Nat.testBit_two_pow_sub_one]
    have : stn (dinT t) j = true := by simp [stn, dinT]
    rw [this, Bool.and_true]
  · unfold mSd
    rw [n1]
    exact mskF_eq (fun j _ => by simp [dinT])
  · have : ∀ k, htF (dinT t) k = 0 := fun k => by
      induction k with
      | zero => rfl
      | succ k ih =>
        show htF (dinT t) k + dinT t 6 k * 4 ^ k = 0
        rw [ih]
        simp [dinT]
    exact this _
theorem din_cnt (t : TS) : t 0 1 = cntB (stn t) (t 0 1) 0 + dinN t := by
  have e : cntB (fun _ => true) (t 0 1) 0 = cntB (stn t) (t 0 1) 0 + dinN t := by
    unfold dinN
    apply cnt_two
    intro i _ _
    cases stn t i
    · left; exact ⟨rfl, Or.inr ⟨rfl, rfl⟩⟩
    · left; exact ⟨rfl, Or.inl ⟨rfl, rfl⟩⟩
  have : ∀ k j, cntB (fun _ => true) k j = k := fun k => by
    induction k with
    | zero => intro j; rfl
    | succ k ih =>
      intro j
      show 1 + cntB (fun _ => true) k (j + 1) = k + 1
      rw [ih]; omega
  rw [this] at e
  exact e
theorem xm_dinner {l : Launch} {K : KK} {d : Nat} {μ : Mm} {P : Option AV → Mm → Prop} {N : Nat} {S : SS} (hV : Inv N S) (hR : RM μ S) (hd1 : 14 ≤ d) (h : ∀ μ2, RM μ2 ((aDinner S).2) → OffX μ μ2 → P (some (vI ((aDinner S).1))) μ2) : Ok l K d 145 [vR 8 0 0] μ P := by
  refine ok_go 2 (by decide +kernel) [some (vR 8 0 0), none] rfl (Nat.le_of_ble_eq_true rfl) ?_
  have hR0 := hR
  have hV0 := hV
  obtain ⟨⟨L, pg⟩, ⟨laid, op⟩, t, ⟨f, cs⟩, ⟨im, t2, f2, cs2⟩, q, w, b⟩ := S
  obtain ⟨⟨rP, r0, r2⟩, ⟨rM, rG⟩, ⟨rK, rK2⟩, ⟨r1, r17, r18⟩⟩ := hR
  obtain ⟨⟨iL, iP⟩, ⟨iO, iO2⟩, ⟨iT, iF⟩, iK, ⟨iq, iw, ib⟩⟩ := hV
  have hd2 : 1 ≤ d := by omega
  have hn := iT.1
  have m3 := rM.1.1
  have m6 : μ 8 0 0 6 = nI (mSt t) := rM.2.1.1
  have l6 := mSt_lt hn
  obtain ⟨d1, d2, d3, d4⟩ := din_m iT
  have dc := din_cnt t
  have ep : pop (mSt t) = cntB (stn t) (t 0 1) 0 := pop_msk _ (by omega)
  have es : nI (t 0 1) - nI (pop (mSt t)) = nI (dinN t) := by rw [ep, pk_sub (by omega)]; exact congrArg nI (by omega)
  have sh := nI_shl (c := t 0 1) (by omega)
  have s1 : nI (2 ^ t 0 1) - 1 = nI (2 ^ t 0 1 - 1) := sub1 (Nat.two_pow_pos _)
  refine go_blk [(.aload_n 0, 0, 0, 0), (.getfield 96, 8, 3, 0), (.aload_n 0, 0, 0, 0), (.getfield 99, 8, 6, 0), (.invokestatic 117, 105, 1, 0)] (by decide +kernel) ?_
  simp only [e_al_0, e_gf_8_3, e_gf_8_6, e_ivs_1, rd_8_3, rd_8_6, e_nil, Nat.reduceLT, nol_n, nol_I, nol_R, rsum_0, rsum_I, rsum_R, ps_s, ps_n, true_and, and_true, Nat.reduceAdd, Nat.reduceLeDiff, hd2, m3, m6, es, sh, s1]
  refine okm_size (by omega) ?_
  refine go_blk [(.isub, 0, 0, 0), (.istore_n 1, 0, 0, 0), (.aload_n 0, 0, 0, 0), (.iconst 1, 0, 0, 0), (.aload_n 0, 0, 0, 0), (.getfield 96, 8, 3, 0), (.ishl, 0, 0, 0), (.iconst 1, 0, 0, 0), (.isub, 0, 0, 0), (.putfield 99, 8, 6, 0)] (by decide +kernel) ?_
  simp only [e_isub, e_is_1n, e_is_1I, e_is_1R, e_al_0, e_ic_1, e_gf_8_3, e_ishl, e_pf_8_6, rd_8_3, e_nil, nol_n, nol_I, nol_R, rsum_0, rsum_I, rsum_R, ps_s, ps_n, true_and, and_true, Nat.reduceAdd, Nat.reduceLeDiff, hd2, m3, m6, es, sh, s1]
  refine go_blk [(.aload_n 0, 0, 0, 0), (.iconst 0, 0, 0, 0), (.putfield 105, 8, 8, 0)] (by decide +kernel) ?_
  simp only [e_al_0, e_ic_0, e_pf_8_8, e_nil, nol_n, nol_I, nol_R, rsum_0, rsum_I, rsum_R, ps_s, ps_n, true_and, and_true, Nat.reduceAdd, Nat.reduceLeDiff, hd2, m3, m6, es, sh, s1]
  refine go_blk [(.iload_n 1, 0, 0, 0), (.ireturn, 0, 0, 0)] (by decide +kernel) ?_
  simp only [e_il_1, e_iret0, e_nil, nol_n, nol_I, nol_R, rsum_0, rsum_I, rsum_R, ps_s, ps_n, true_and, and_true, Nat.reduceAdd, Nat.reduceLeDiff, hd2, m3, m6, es, sh, s1]
  have oO : OffM μ (up (up μ 8 0 0 6 (nI (2 ^ t 0 1 - 1))) 8 0 0 8 0) := offm_up (offm_up (offm_rf μ) (j := 6) (by omega) (by omega) _) (j := 8) (by omega) (by omega) _
  have nM : MRep (up (up μ 8 0 0 6 (nI (2 ^ t 0 1 - 1))) 8 0 0 8 0) (dinT t) := by
    refine mr_of oO rM d4 (fun j => ⟨by simp [dinT], by simp [dinT]⟩) ?_ ?_ ?_ ?_ ?_
    · rw [up_ne (by omega), up_self, d1]
    · rw [up_ne (by omega), up_ne (by omega), d2]; exact rM.2.1.2.1
    · rw [up_self, d3]; rfl
    · rw [up_ne (by omega), up_ne (by omega), show dinT t 8 0 = t 8 0 by simp [dinT]]; exact rM.2.2.1
    · rw [up_ne (by omega), up_ne (by omega), show dinT t 8 1 = t 8 1 by simp [dinT]]; exact rM.2.2.2
  have z2 := rm_gm (t' := dinT t) (f' := f) (cs' := cs) hR0 (fun c' i s j hc' => by unfold Scr at hc'; exact oO c' i s j (by omega)) nM (gm_off rG (fun j h1 h2 => oO 8 0 0 j (by omega)) (fun j => oO 8 0 17 j (by omega)))
  exact h _ z2.1 z2.2
theorem xm_shoot {l : Launch} {K : KK} {d : Nat} {μ : Mm} {P : Option AV → Mm → Prop} {N : Nat} {S : SS} {x y : Int32} {hit : Bool} (hV : Inv N S) (hR : RM μ S) (hd1 : 14 ≤ d) (h : ∀ μ2, RM μ2 ((aShoot x y hit S).2) → OffX μ μ2 → P (some (vI ((aShoot x y hit S).1))) μ2) : Ok l K d 144 [vR 8 0 0, vI x, vI y, vI (bi hit)] μ P := by
  refine ok_go 4 (by decide +kernel) [some (vR 8 0 0), some (vI x), some (vI y), some (vI (bi hit))] rfl (Nat.le_of_ble_eq_true rfl) ?_
  have hR0 := hR
  have hV0 := hV
  obtain ⟨⟨L, pg⟩, ⟨laid, op⟩, t, ⟨f, cs⟩, ⟨im, t2, f2, cs2⟩, q, w, b⟩ := S
  obtain ⟨⟨rP, r0, r2⟩, ⟨rM, rG⟩, ⟨rK, rK2⟩, ⟨r1, r17, r18⟩⟩ := hR
  obtain ⟨⟨iL, iP⟩, ⟨iO, iO2⟩, ⟨iT, iF⟩, iK, ⟨iq, iw, ib⟩⟩ := hV
  have hd2 : 1 ≤ d := by omega
  have hn := iT.1
  obtain ⟨⟨g11, g12, g13, g14, g15⟩, g17⟩ := rG
  refine go_blk [(.aload_n 0, 0, 0, 0), (.iload_n 1, 0, 0, 0), (.invokevirtual 167, 128, 1, 8)] (by decide +kernel) ?_
  simp only [e_al_0, e_il_1, e_iv_8_1, e_nil, nol_n, nol_I, nol_R, rsum_0, rsum_I, rsum_R, ps_s, ps_n, true_and, and_true, Nat.reduceAdd, Nat.reduceLeDiff, hd2, bi_0, g11, Classical.not_not]
  refine okm_sol hn rM.1.1 (by omega) ?_
  refine go_blk [(.ifCond .eq 11, 16, 0, 0)] (by decide +kernel) ?_
  simp only [e_if_eq, e_nil, nol_n, nol_I, nol_R, rsum_0, rsum_I, rsum_R, ps_s, ps_n, true_and, and_true, Nat.reduceAdd, Nat.reduceLeDiff, hd2, bi_0, g11, Classical.not_not]
  refine ⟨fun c5 => ?_, fun c5 => ?_⟩
  · have e : aShoot x y hit ((L, pg), (laid, op), t, (f, cs), (im, t2, f2, cs2), (q, w, b)) = (-101, ((L, pg), (laid, op), t, (f, cs), (im, t2, f2, cs2), (q, w, b))) := by
      show (if _ then _ else if _ then _ else _) = _
      rw [if_pos (by rw [c5]; rfl)]
    rw [e] at h
    refine go_blk [(.bipush (-101), 0, 0, 0), (.ireturn, 0, 0, 0)] (by decide +kernel) ?_
    simp only [e_bp_m101, e_iret0, e_nil, nol_n, nol_I, nol_R, rsum_0, rsum_I, rsum_R, ps_s, ps_n, true_and, and_true, Nat.reduceAdd, Nat.reduceLeDiff, hd2, bi_0, g11, Classical.not_not]
    exact h μ hR0 (offx_rf μ)
  · obtain ⟨a, ha, rfl⟩ := has_of hn c5
    have xa : ix (nI a) = a := nI_ix (by omega)
    have hx1 := eq_true_of_ne_false c5
    refine go_blk [(.aload_n 0, 0, 0, 0), (.iload_n 2, 0, 0, 0), (.invokevirtual 167, 128, 1, 8)] (by decide +kernel) ?_
    simp only [e_al_0, e_il_2, e_iv_8_1, e_nil, nol_n, nol_I, nol_R, rsum_0, rsum_I, rsum_R, ps_s, ps_n, true_and, and_true, Nat.reduceAdd, Nat.reduceLeDiff, hd2, bi_0, g11, Classical.not_not]
    refine okm_sol hn rM.1.1 (by omega) ?_
    refine go_blk [(.ifCond .ne 6, 19, 0, 0)] (by decide +kernel) ?_
    simp only [e_if_ne, e_nil, nol_n, nol_I, nol_R, rsum_0, rsum_I, rsum_R, ps_s, ps_n, true_and, and_true, Nat.reduceAdd, Nat.reduceLeDiff, hd2, bi_0, g11, Classical.not_not]
    refine ⟨fun c13 => ?_, fun c13 => ?_⟩
    · obtain ⟨b2, hb, rfl⟩ := has_of hn c13
      have xb2 : ix (nI b2) = b2 := nI_ix (by omega)
      have nb : ¬ (hasI (t 0 1) (nI a) && hasI (t 0 1) (nI b2)) = false := by rw [hx1, eq_true_of_ne_false c13]; decide
      refine go_blk [(.aload_n 0, 0, 0, 0), (.iload_n 1, 0, 0, 0), (.iload_n 2, 0, 0, 0), (.invokevirtual 161, 132, 2, 8)] (by decide +kernel) ?_
      simp only [e_al_0, e_il_1, e_il_2, e_iv_8_2, e_nil, nol_n, nol_I, nol_R, rsum_0, rsum_I, rsum_R, ps_s, ps_n, true_and, and_true, Nat.reduceAdd, Nat.reduceLeDiff, hd2, bi_0, g11, Classical.not_not]
      refine okm_tenths iT rM r2 iO ha hb (by omega) ?_
      have cl2 := chS_le op t a b2
      have e25 : (nI (chS op t a b2) = 0) = (chS op t a b2 = 0) := propext (nI_eq (b := 0) (by omega) (by omega))
      refine go_blk [(.ifCond .ne 6, 31, 0, 0)] (by decide +kernel) ?_
      simp only [e_if_ne, e_nil, nol_n, nol_I, nol_R, rsum_0, rsum_I, rsum_R, ps_s, ps_n, true_and, and_true, Nat.reduceAdd, Nat.reduceLeDiff, hd2, bi_0, g11, Classical.not_not, e25]
      refine ⟨fun c25 => ?_, fun c25 => ?_⟩
      · have e : aShoot (nI a) (nI b2) hit ((L, pg), (laid, op), t, (f, cs), (im, t2, f2, cs2), (q, w, b)) = (nI (fireS op t a b2 hit).2, ((L, pg), (laid, op), (fireS op t a b2 hit).1, (plf f (ix (f 3)) t a b2, cs), (im, t2, f2, cs2), (q, w, b))) := by
          show (if _ then _ else if _ then _ else _) = _
          rw [if_neg nb, xa, xb2, if_neg c25]
        rw [e] at h
        obtain ⟨ca, cb, cs0, cs3, -, cp, cl⟩ := chS_pos c25
        have q5 : ∀ j, pea t a 5 j = t 5 j := fun j => tu_ne (by omega)
        have q7 : stn (pea t a) b2 = true := by unfold stn pea; rw [tu_ne (by omega)]; exact cs3
        have l7 := mSd_lt hn
        have ra := (iT.2.1 a ha).2.1
        have u14 : up μ 8 0 0 11 (f 1 + 1) 8 0 0 14 = f 4 := (up_ne (by omega)).trans g14
        have u11 : up μ 8 0 0 11 (f 1 + 1) 8 0 0 11 = f 1 + 1 := up_self _ _ _ _ _ _
        have u7 : ∀ v, up (up μ 8 0 0 11 (f 1 + 1)) 8 0 0 14 v 8 0 0 7 = nI (mSd t) := fun v => by rw [up_ne (by omega), up_ne (by omega)]; exact rM.2.1.2.1
        have e7 : (nI (mSd t) >>> (nI a &&& 31)) &&& 1 = nI (t 4 a) := by
          rw [nI_bitb (by omega) (by omega), mSd_bit ha]
          rcases (show t 4 a = 0 ∨ t 4 a = 1 by omega) with z | z <;> rw [z] <;> rfl
        refine go_blk [(.aload_n 0, 0, 0, 0), (.dup, 0, 0, 0), (.getfield 108, 8, 11, 0), (.iconst 1, 0, 0, 0), (.iadd, 0, 0, 0), (.putfield 108, 8, 11, 0)] (by decide +kernel) ?_
        simp only [e_al_0, e_dupI, e_dupR, e_gf_8_11, e_ic_1, e_iadd, e_pf_8_11, rd_8_11, e_nil, nol_n, nol_I, nol_R, rsum_0, rsum_I, rsum_R, ps_s, ps_n, true_and, and_true, Nat.reduceAdd, Nat.reduceLeDiff, hd2, bi_0, g11, Classical.not_not, e25, u14, u11, u7, e7]
        refine go_blk [(.aload_n 0, 0, 0, 0), (.aload_n 0, 0, 0, 0), (.getfield 20, 8, 14, 0), (.iconst (-1), 0, 0, 0), (.if_icmp .ne 19, 66, 0, 0)] (by decide +kernel) ?_
        simp only [e_al_0, e_gf_8_14, e_ic_m1, e_icmp_ne, rd_8_14, e_nil, nol_n, nol_I, nol_R, rsum_0, rsum_I, rsum_R, ps_s, ps_n, true_and, and_true, Nat.reduceAdd, Nat.reduceLeDiff, hd2, bi_0, g11, Classical.not_not, e25, u14, u11, u7, e7]
        refine ⟨fun c47 => ?_, fun c47 => ?_⟩
        · refine go_blk [(.aload_n 0, 0, 0, 0), (.getfield 20, 8, 14, 0), (.putfield 20, 8, 14, 0)] (by decide +kernel) ?_
          simp only [e_al_0, e_gf_8_14, e_pf_8_14, rd_8_14, e_nil, nol_n, nol_I, nol_R, rsum_0, rsum_I, rsum_R, ps_s, ps_n, true_and, and_true, Nat.reduceAdd, Nat.reduceLeDiff, hd2, bi_0, g11, Classical.not_not, e25, u14, u11, u7, e7]
          refine go_blk [(.aload_n 0, 0, 0, 0), (.aload_n 0, 0, 0, 0), (.getfield 102, 8, 7, 0), (.iload_n 1, 0, 0, 0), (.ishr, 0, 0, 0), (.iconst 1, 0, 0, 0), (.iand, 0, 0, 0), (.putfield 16, 8, 12, 0)] (by decide +kernel) ?_
          simp only [e_al_0, e_gf_8_7, e_il_1, e_ishr, e_ic_1, e_iand, e_pf_8_12, rd_8_7, e_nil, nol_n, nol_I, nol_R, rsum_0, rsum_I, rsum_R, ps_s, ps_n, true_and, and_true, Nat.reduceAdd, Nat.reduceLeDiff, hd2, bi_0, g11, Classical.not_not, e25, u14, u11, u7, e7]
          refine go_blk [(.aload_n 0, 0, 0, 0), (.iload_n 1, 0, 0, 0), (.invokevirtual 182, 141, 1, 8)] (by decide +kernel) ?_
          simp only [e_al_0, e_il_1, e_iv_8_1, e_nil, nol_n, nol_I, nol_R, rsum_0, rsum_I, rsum_R, ps_s, ps_n, true_and, and_true, Nat.reduceAdd, Nat.reduceLeDiff, hd2, bi_0, g11, Classical.not_not, e25, u14, u11, u7, e7]
          have oA : ∀ c' i s j, ¬ (c' = 8 ∧ i = 0 ∧ s = 0 ∧ (j = 11 ∨ j = 12 ∨ j = 14)) → (up (up (up μ 8 0 0 11 (f 1 + 1)) 8 0 0 14 (f 4)) 8 0 0 12 (nI (t 4 a))) c' i s j = μ c' i s j := fun c' i s j hc' => by rw [up_ne (by omega), up_ne (by omega), up_ne (by omega)]
          have mA := mr_off rM (μ2 := up (up (up μ 8 0 0 11 (f 1 + 1)) 8 0 0 14 (f 4)) 8 0 0 12 (nI (t 4 a))) (fun s j hs => oA 8 0 s j (by omega))
          have gA : GmR (up (up (up μ 8 0 0 11 (f 1 + 1)) 8 0 0 14 (f 4)) 8 0 0 12 (nI (t 4 a))) (plf f (ix (f 3)) t a b2) cs := by
            refine ⟨⟨?_, ?_, ?_, ?_, ?_⟩, fun j hj => (oA 8 0 17 j (by omega)).trans (g17 j hj)⟩
            · rw [up_ne (by omega), up_ne (by omega), up_self]; rfl
            · rw [up_self]; rfl
            · exact (oA 8 0 0 13 (by omega)).trans g13
            · rw [up_ne (by omega), up_self]; show f 4 = (if f 4 = -1 ∧ fbd (ix (f 3)) t (f 2) a b2 = true then f 1 + 1 else f 4); rw [if_neg (fun z => c47 z.1)]
            · exact (oA 8 0 0 15 (by omega)).trans g15
          refine okm_pea iT mA ca cp (by omega) (fun μ1 pM pO => ?_)
          refine go_blk [(.iload_n 3, 0, 0, 0), (.ifCond .eq 12, 103, 0, 0)] (by decide +kernel) ?_
          simp only [e_il_3, e_if_eq, e_nil, nol_n, nol_I, nol_R, rsum_0, rsum_I, rsum_R, ps_s, ps_n, true_and, and_true, Nat.reduceAdd, Nat.reduceLeDiff, hd2, bi_0, g11, Classical.not_not, e25, u14, u11, u7, e7]
          refine ⟨fun c91 => ?_, fun c91 => ?_⟩
          · subst c91
            rw [fire_0] at h
            refine go_blk [(.iconst 0, 0, 0, 0), (.ireturn, 0, 0, 0)] (by decide +kernel) ?_
            simp only [e_ic_0, e_iret0, e_nil, nol_n, nol_I, nol_R, rsum_0, rsum_I, rsum_R, ps_s, ps_n, true_and, and_true, Nat.reduceAdd, Nat.reduceLeDiff, hd2, bi_0, g11, Classical.not_not, e25, u14, u11, u7, e7]
            have z2 := rm_gm (t' := pea t a) (f' := plf f (ix (f 3)) t a b2) (cs' := cs) hR0 (fun c' i s j hc' => by unfold Scr at hc'; rw [pO c' i s j (by omega)]; exact oA c' i s j (by omega)) pM (gm_off gA (fun j h1 h2 => pO 8 0 0 j (by omega)) (fun j => pO 8 0 17 j (by omega)))
            exact h _ z2.1 z2.2
          · have eh := eq_true_of_ne_false c91
            subst eh
            refine go_blk [(.aload_n 0, 0, 0, 0), (.iload_n 1, 0, 0, 0), (.iload_n 2, 0, 0, 0), (.invokevirtual 186, 142, 2, 8)] (by decide +kernel) ?_
            simp only [e_al_0, e_il_1, e_il_2, e_iv_8_2, e_nil, nol_n, nol_I, nol_R, rsum_0, rsum_I, rsum_R, ps_s, ps_n, true_and, and_true, Nat.reduceAdd, Nat.reduceLeDiff, hd2, bi_0, g11, Classical.not_not, e25, u14, u11, u7, e7]
            refine okm_hitOn (pea_inv iT) pM (by rw [pO 8 0 0 2 (by omega), oA 8 0 0 2 (by omega)]; exact r2) iO (by rw [pea_n]; exact ca) (by rw [pea_n]; exact cb) q7 (by rw [q5, q5]; exact cl) (by omega) (fun μ3 fM fO => ?_)
            rw [q5, q5] at fM ⊢
            refine go_blk [(.goto 4, 104, 0, 0), (.ireturn, 0, 0, 0)] (by decide +kernel) ?_
            simp only [e_goto, e_iret0, e_nil, nol_n, nol_I, nol_R, rsum_0, rsum_I, rsum_R, ps_s, ps_n, true_and, and_true, Nat.reduceAdd, Nat.reduceLeDiff, hd2, bi_0, g11, Classical.not_not, e25, u14, u11, u7, e7]
            have z2 := rm_gm (t' := (fireS op t a b2 true).1) (f' := plf f (ix (f 3)) t a b2) (cs' := cs) hR0 (fun c' i s j hc' => by unfold Scr at hc'; rw [fO c' i s j (by omega), pO c' i s j (by omega)]; exact oA c' i s j (by omega)) fM (gm_off gA (fun j h1 h2 => (fO 8 0 0 j (by omega)).trans (pO 8 0 0 j (by omega))) (fun j => (fO 8 0 17 j (by omega)).trans (pO 8 0 17 j (by omega))))
            exact h _ z2.1 z2.2
        · refine go_blk [(.aload_n 0, 0, 0, 0), (.iload_n 1, 0, 0, 0), (.iload_n 2, 0, 0, 0), (.invokevirtual 179, 143, 2, 8)] (by decide +kernel) ?_
          simp only [e_al_0, e_il_1, e_il_2, e_iv_8_2, e_nil, nol_n, nol_I, nol_R, rsum_0, rsum_I, rsum_R, ps_s, ps_n, true_and, and_true, Nat.reduceAdd, Nat.reduceLeDiff, hd2, bi_0, g11, Classical.not_not, e25, u14, u11, u7, e7]
          refine okm_forb (bn := ix (f 3)) (la := f 2) iT (mr_off rM (fun s j hs => up_ne (by omega))) ha hb cl ((up_ne (by omega)).trans g12) ((up_ne (by omega)).trans (g13.trans iF.1.2)) iF.1.1 (by omega) ?_
          refine go_blk [(.ifCond .eq 10, 66, 0, 0)] (by decide +kernel) ?_
          simp only [e_if_eq, e_nil, nol_n, nol_I, nol_R, rsum_0, rsum_I, rsum_R, ps_s, ps_n, true_and, and_true, Nat.reduceAdd, Nat.reduceLeDiff, hd2, bi_0, g11, Classical.not_not, e25, u14, u11, u7, e7]
          refine ⟨fun c56 => ?_, fun c56 => ?_⟩
          · refine go_blk [(.aload_n 0, 0, 0, 0), (.getfield 20, 8, 14, 0), (.putfield 20, 8, 14, 0)] (by decide +kernel) ?_
            simp only [e_al_0, e_gf_8_14, e_pf_8_14, rd_8_14, e_nil, nol_n, nol_I, nol_R, rsum_0, rsum_I, rsum_R, ps_s, ps_n, true_and, and_true, Nat.reduceAdd, Nat.reduceLeDiff, hd2, bi_0, g11, Classical.not_not, e25, u14, u11, u7, e7]
            refine go_blk [(.aload_n 0, 0, 0, 0), (.aload_n 0, 0, 0, 0), (.getfield 102, 8, 7, 0), (.iload_n 1, 0, 0, 0), (.ishr, 0, 0, 0), (.iconst 1, 0, 0, 0), (.iand, 0, 0, 0), (.putfield 16, 8, 12, 0)] (by decide +kernel) ?_
            simp only [e_al_0, e_gf_8_7, e_il_1, e_ishr, e_ic_1, e_iand, e_pf_8_12, rd_8_7, e_nil, nol_n, nol_I, nol_R, rsum_0, rsum_I, rsum_R, ps_s, ps_n, true_and, and_true, Nat.reduceAdd, Nat.reduceLeDiff, hd2, bi_0, g11, Classical.not_not, e25, u14, u11, u7, e7]
            refine go_blk [(.aload_n 0, 0, 0, 0), (.iload_n 1, 0, 0, 0), (.invokevirtual 182, 141, 1, 8)] (by decide +kernel) ?_
            simp only [e_al_0, e_il_1, e_iv_8_1, e_nil, nol_n, nol_I, nol_R, rsum_0, rsum_I, rsum_R, ps_s, ps_n, true_and, and_true, Nat.reduceAdd, Nat.reduceLeDiff, hd2, bi_0, g11, Classical.not_not, e25, u14, u11, u7, e7]
            have oA : ∀ c' i s j, ¬ (c' = 8 ∧ i = 0 ∧ s = 0 ∧ (j = 11 ∨ j = 12 ∨ j = 14)) → (up (up (up μ 8 0 0 11 (f 1 + 1)) 8 0 0 14 (f 4)) 8 0 0 12 (nI (t 4 a))) c' i s j = μ c' i s j := fun c' i s j hc' => by rw [up_ne (by omega), up_ne (by omega), up_ne (by omega)]
            have mA := mr_off rM (μ2 := up (up (up μ 8 0 0 11 (f 1 + 1)) 8 0 0 14 (f 4)) 8 0 0 12 (nI (t 4 a))) (fun s j hs => oA 8 0 s j (by omega))
            have gA : GmR (up (up (up μ 8 0 0 11 (f 1 + 1)) 8 0 0 14 (f 4)) 8 0 0 12 (nI (t 4 a))) (plf f (ix (f 3)) t a b2) cs := by
              refine ⟨⟨?_, ?_, ?_, ?_, ?_⟩, fun j hj => (oA 8 0 17 j (by omega)).trans (g17 j hj)⟩
              · rw [up_ne (by omega), up_ne (by omega), up_self]; rfl
              · rw [up_self]; rfl
              · exact (oA 8 0 0 13 (by omega)).trans g13
              · rw [up_ne (by omega), up_self]; show f 4 = (if f 4 = -1 ∧ fbd (ix (f 3)) t (f 2) a b2 = true then f 1 + 1 else f 4); rw [if_neg (fun z => absurd (c56.symm.trans z.2) (by decide))]
              · exact (oA 8 0 0 15 (by omega)).trans g15
            refine okm_pea iT mA ca cp (by omega) (fun μ1 pM pO => ?_)
            refine go_blk [(.iload_n 3, 0, 0, 0), (.ifCond .eq 12, 103, 0, 0)] (by decide +kernel) ?_
            simp only [e_il_3, e_if_eq, e_nil, nol_n, nol_I, nol_R, rsum_0, rsum_I, rsum_R, ps_s, ps_n, true_and, and_true, Nat.reduceAdd, Nat.reduceLeDiff, hd2, bi_0, g11, Classical.not_not, e25, u14, u11, u7, e7]
            refine ⟨fun c91 => ?_, fun c91 => ?_⟩
            · subst c91
              rw [fire_0] at h
              refine go_blk [(.iconst 0, 0, 0, 0), (.ireturn, 0, 0, 0)] (by decide +kernel) ?_
              simp only [e_ic_0, e_iret0, e_nil, nol_n, nol_I, nol_R, rsum_0, rsum_I, rsum_R, ps_s, ps_n, true_and, and_true, Nat.reduceAdd, Nat.reduceLeDiff, hd2, bi_0, g11, Classical.not_not, e25, u14, u11, u7, e7]
              have z2 := rm_gm (t' := pea t a) (f' := plf f (ix (f 3)) t a b2) (cs' := cs) hR0 (fun c' i s j hc' => by unfold Scr at hc'; rw [pO c' i s j (by omega)]; exact oA c' i s j (by omega)) pM (gm_off gA (fun j h1 h2 => pO 8 0 0 j (by omega)) (fun j => pO 8 0 17 j (by omega)))
              exact h _ z2.1 z2.2
            · have eh := eq_true_of_ne_false c91
              subst eh
              refine go_blk [(.aload_n 0, 0, 0, 0), (.iload_n 1, 0, 0, 0), (.iload_n 2, 0, 0, 0), (.invokevirtual 186, 142, 2, 8)] (by decide +kernel) ?_
              simp only [e_al_0, e_il_1, e_il_2, e_iv_8_2, e_nil, nol_n, nol_I, nol_R, rsum_0, rsum_I, rsum_R, ps_s, ps_n, true_and, and_true, Nat.reduceAdd, Nat.reduceLeDiff, hd2, bi_0, g11, Classical.not_not, e25, u14, u11, u7, e7]
              refine okm_hitOn (pea_inv iT) pM (by rw [pO 8 0 0 2 (by omega), oA 8 0 0 2 (by omega)]; exact r2) iO (by rw [pea_n]; exact ca) (by rw [pea_n]; exact cb) q7 (by rw [q5, q5]; exact cl) (by omega) (fun μ3 fM fO => ?_)
              rw [q5, q5] at fM ⊢
              refine go_blk [(.goto 4, 104, 0, 0), (.ireturn, 0, 0, 0)] (by decide +kernel) ?_
              simp only [e_goto, e_iret0, e_nil, nol_n, nol_I, nol_R, rsum_0, rsum_I, rsum_R, ps_s, ps_n, true_and, and_true, Nat.reduceAdd, Nat.reduceLeDiff, hd2, bi_0, g11, Classical.not_not, e25, u14, u11, u7, e7]
              have z2 := rm_gm (t' := (fireS op t a b2 true).1) (f' := plf f (ix (f 3)) t a b2) (cs' := cs) hR0 (fun c' i s j hc' => by unfold Scr at hc'; rw [fO c' i s j (by omega), pO c' i s j (by omega)]; exact oA c' i s j (by omega)) fM (gm_off gA (fun j h1 h2 => (fO 8 0 0 j (by omega)).trans (pO 8 0 0 j (by omega))) (fun j => (fO 8 0 17 j (by omega)).trans (pO 8 0 17 j (by omega))))
              exact h _ z2.1 z2.2
          · refine go_blk [(.aload_n 0, 0, 0, 0), (.getfield 108, 8, 11, 0), (.goto 7, 70, 0, 0), (.putfield 20, 8, 14, 0)] (by decide +kernel) ?_
            simp only [e_al_0, e_gf_8_11, e_goto, e_pf_8_14, rd_8_11, e_nil, nol_n, nol_I, nol_R, rsum_0, rsum_I, rsum_R, ps_s, ps_n, true_and, and_true, Nat.reduceAdd, Nat.reduceLeDiff, hd2, bi_0, g11, Classical.not_not, e25, u14, u11, u7, e7]
            refine go_blk [(.aload_n 0, 0, 0, 0), (.aload_n 0, 0, 0, 0), (.getfield 102, 8, 7, 0), (.iload_n 1, 0, 0, 0), (.ishr, 0, 0, 0), (.iconst 1, 0, 0, 0), (.iand, 0, 0, 0), (.putfield 16, 8, 12, 0)] (by decide +kernel) ?_
            simp only [e_al_0, e_gf_8_7, e_il_1, e_ishr, e_ic_1, e_iand, e_pf_8_12, rd_8_7, e_nil, nol_n, nol_I, nol_R, rsum_0, rsum_I, rsum_R, ps_s, ps_n, true_and, and_true, Nat.reduceAdd, Nat.reduceLeDiff, hd2, bi_0, g11, Classical.not_not, e25, u14, u11, u7, e7]
            refine go_blk [(.aload_n 0, 0, 0, 0), (.iload_n 1, 0, 0, 0), (.invokevirtual 182, 141, 1, 8)] (by decide +kernel) ?_
            simp only [e_al_0, e_il_1, e_iv_8_1, e_nil, nol_n, nol_I, nol_R, rsum_0, rsum_I, rsum_R, ps_s, ps_n, true_and, and_true, Nat.reduceAdd, Nat.reduceLeDiff, hd2, bi_0, g11, Classical.not_not, e25, u14, u11, u7, e7]
            have oA : ∀ c' i s j, ¬ (c' = 8 ∧ i = 0 ∧ s = 0 ∧ (j = 11 ∨ j = 12 ∨ j = 14)) → (up (up (up μ 8 0 0 11 (f 1 + 1)) 8 0 0 14 (f 1 + 1)) 8 0 0 12 (nI (t 4 a))) c' i s j = μ c' i s j := fun c' i s j hc' => by rw [up_ne (by omega), up_ne (by omega), up_ne (by omega)]
            have mA := mr_off rM (μ2 := up (up (up μ 8 0 0 11 (f 1 + 1)) 8 0 0 14 (f 1 + 1)) 8 0 0 12 (nI (t 4 a))) (fun s j hs => oA 8 0 s j (by omega))
            have gA : GmR (up (up (up μ 8 0 0 11 (f 1 + 1)) 8 0 0 14 (f 1 + 1)) 8 0 0 12 (nI (t 4 a))) (plf f (ix (f 3)) t a b2) cs := by
              refine ⟨⟨?_, ?_, ?_, ?_, ?_⟩, fun j hj => (oA 8 0 17 j (by omega)).trans (g17 j hj)⟩
              · rw [up_ne (by omega), up_ne (by omega), up_self]; rfl
              · rw [up_self]; rfl
              · exact (oA 8 0 0 13 (by omega)).trans g13
              · rw [up_ne (by omega), up_self]; show f 1 + 1 = (if f 4 = -1 ∧ fbd (ix (f 3)) t (f 2) a b2 = true then f 1 + 1 else f 4); rw [if_pos ⟨c47, eq_true_of_ne_false c56⟩]
              · exact (oA 8 0 0 15 (by omega)).trans g15
            refine okm_pea iT mA ca cp (by omega) (fun μ1 pM pO => ?_)
            refine go_blk [(.iload_n 3, 0, 0, 0), (.ifCond .eq 12, 103, 0, 0)] (by decide +kernel) ?_
            simp only [e_il_3, e_if_eq, e_nil, nol_n, nol_I, nol_R, rsum_0, rsum_I, rsum_R, ps_s, ps_n, true_and, and_true, Nat.reduceAdd, Nat.reduceLeDiff, hd2, bi_0, g11, Classical.not_not, e25, u14, u11, u7, e7]
            refine ⟨fun c91 => ?_, fun c91 => ?_⟩
            · subst c91
              rw [fire_0] at h
              refine go_blk [(.iconst 0, 0, 0, 0), (.ireturn, 0, 0, 0)] (by decide +kernel) ?_
              simp only [e_ic_0, e_iret0, e_nil, nol_n, nol_I, nol_R, rsum_0, rsum_I, rsum_R, ps_s, ps_n, true_and, and_true, Nat.reduceAdd, Nat.reduceLeDiff, hd2, bi_0, g11, Classical.not_not, e25, u14, u11, u7, e7]
              have z2 := rm_gm (t' := pea t a) (f' := plf f (ix (f 3)) t a b2) (cs' := cs) hR0 (fun c' i s j hc' => by unfold Scr at hc'; rw [pO c' i s j (by omega)]; exact oA c' i s j (by omega)) pM (gm_off gA (fun j h1 h2 => pO 8 0 0 j (by omega)) (fun j => pO 8 0 17 j (by omega)))
              exact h _ z2.1 z2.2
            · have eh := eq_true_of_ne_false c91
              subst eh
              refine go_blk [(.aload_n 0, 0, 0, 0), (.iload_n 1, 0, 0, 0), (.iload_n 2, 0, 0, 0), (.invokevirtual 186, 142, 2, 8)] (by decide +kernel) ?_
              simp only [e_al_0, e_il_1, e_il_2, e_iv_8_2, e_nil, nol_n, nol_I, nol_R, rsum_0, rsum_I, rsum_R, ps_s, ps_n, true_and, and_true, Nat.reduceAdd, Nat.reduceLeDiff, hd2, bi_0, g11, Classical.not_not, e25, u14, u11, u7, e7]
              refine okm_hitOn (pea_inv iT) pM (by rw [pO 8 0 0 2 (by omega), oA 8 0 0 2 (by omega)]; exact r2) iO (by rw [pea_n]; exact ca) (by rw [pea_n]; exact cb) q7 (by rw [q5, q5]; exact cl) (by omega) (fun μ3 fM fO => ?_)
              rw [q5, q5] at fM ⊢
              refine go_blk [(.goto 4, 104, 0, 0), (.ireturn, 0, 0, 0)] (by decide +kernel) ?_
              simp only [e_goto, e_iret0, e_nil, nol_n, nol_I, nol_R, rsum_0, rsum_I, rsum_R, ps_s, ps_n, true_and, and_true, Nat.reduceAdd, Nat.reduceLeDiff, hd2, bi_0, g11, Classical.not_not, e25, u14, u11, u7, e7]
              have z2 := rm_gm (t' := (fireS op t a b2 true).1) (f' := plf f (ix (f 3)) t a b2) (cs' := cs) hR0 (fun c' i s j hc' => by unfold Scr at hc'; rw [fO c' i s j (by omega), pO c' i s j (by omega)]; exact oA c' i s j (by omega)) fM (gm_off gA (fun j h1 h2 => (fO 8 0 0 j (by omega)).trans (pO 8 0 0 j (by omega))) (fun j => (fO 8 0 17 j (by omega)).trans (pO 8 0 17 j (by omega))))
              exact h _ z2.1 z2.2
      · have e : aShoot (nI a) (nI b2) hit ((L, pg), (laid, op), t, (f, cs), (im, t2, f2, cs2), (q, w, b)) = (-103, ((L, pg), (laid, op), t, (f, cs), (im, t2, f2, cs2), (q, w, b))) := by
          show (if _ then _ else if _ then _ else _) = _
          rw [if_neg nb, xa, xb2, if_pos c25]
        rw [e] at h
        refine go_blk [(.bipush (-103), 0, 0, 0), (.ireturn, 0, 0, 0)] (by decide +kernel) ?_
        simp only [e_bp_m103, e_iret0, e_nil, nol_n, nol_I, nol_R, rsum_0, rsum_I, rsum_R, ps_s, ps_n, true_and, and_true, Nat.reduceAdd, Nat.reduceLeDiff, hd2, bi_0, g11, Classical.not_not, e25]
        exact h μ hR0 (offx_rf μ)
    · have e : aShoot (nI a) y hit ((L, pg), (laid, op), t, (f, cs), (im, t2, f2, cs2), (q, w, b)) = (-101, ((L, pg), (laid, op), t, (f, cs), (im, t2, f2, cs2), (q, w, b))) := by
        show (if _ then _ else if _ then _ else _) = _
        rw [if_pos (by rw [c13, Bool.and_false])]
      rw [e] at h
      refine go_blk [(.bipush (-101), 0, 0, 0), (.ireturn, 0, 0, 0)] (by decide +kernel) ?_
      simp only [e_bp_m101, e_iret0, e_nil, nol_n, nol_I, nol_R, rsum_0, rsum_I, rsum_R, ps_s, ps_n, true_and, and_true, Nat.reduceAdd, Nat.reduceLeDiff, hd2, bi_0, g11, Classical.not_not]
      exact h μ hR0 (offx_rf μ)
