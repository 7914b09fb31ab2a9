theorem xm_tally {l : Launch} {K : KK} {d : Nat} {μ : Mm} {P : Option AV → Mm → Prop} {N : Nat} {S : SS} {x : Int32} (hV : Inv N S) (hR : RM μ S) (hd1 : 14 ≤ d) (h : ∀ μ2, RM μ2 ((aTally x S).2) → OffX μ μ2 → P (some (vI ((aTally x S).1))) μ2) : Ok l K d 159 [vR 8 0 0, vI x] μ P := by
  refine ok_go 2 (by decide +kernel) [some (vR 8 0 0), some (vI x)] rfl (Nat.le_of_ble_eq_true rfl) ?_
  have hR0 := hR
  have hV0 := hV
  obtain ⟨⟨L, pg⟩, ⟨laid, op⟩, t, ⟨f, cs⟩, ⟨im, t2, f2, cs2⟩, q, w, b⟩ := S
  obtain ⟨⟨rP, r0, r2⟩, ⟨rM, rG⟩, ⟨rK, rK2⟩, ⟨r1, r17, r18⟩⟩ := hR
  obtain ⟨⟨iL, iP⟩, ⟨iO, iO2⟩, ⟨iT, iF⟩, iK, ⟨iq, iw, ib⟩⟩ := hV
  have hd2 : 1 ≤ d := by omega
  obtain ⟨⟨g11, g12, g13, g14, g15⟩, g17⟩ := id rG
  have h15 : μ 8 0 0 15 = nI (ix (f 5)) := g15.trans iF.2.2
  have m6 := iF.2.1
  have e19 : (nI (ix (f 5)) = 6) = (ix (f 5) = 6) := propext (nI_eq (b := 6) (by omega) (by omega))
  refine go_blk [(.iload_n 1, 0, 0, 0), (.iconst 0, 0, 0, 0), (.bipush 6, 0, 0, 0), (.invokestatic 51, 103, 3, 0)] (by decide +kernel) ?_
  simp only [e_il_1, e_ic_0, e_bp_6, e_ivs_3, e_nil, Nat.reduceLT, nol_n, nol_I, nol_R, rsum_0, rsum_I, rsum_R, ps_s, ps_n, true_and, and_true, Nat.reduceAdd, Nat.reduceLeDiff, hd2, bi_0, h15, e19]
  refine okm_within ?_
  refine go_blk [(.ifCond .ne 6, 13, 0, 0)] (by decide +kernel) ?_
  simp only [e_if_ne, e_nil, nol_n, nol_I, nol_R, rsum_0, rsum_I, rsum_R, ps_s, ps_n, true_and, and_true, Nat.reduceAdd, Nat.reduceLeDiff, hd2, bi_0, h15, e19]
  refine ⟨fun c7 => ?_, fun c7 => ?_⟩
  · have wi := eq_true_of_ne_false c7
    rw [Bool.and_eq_true, Bool.not_eq_true', Bool.not_eq_true', decide_eq_false_iff_not, decide_eq_false_iff_not] at wi
    have nx : ¬ (x < 0 ∨ 6 < x) := fun z => z.elim wi.1 wi.2
    refine go_blk [(.aload_n 0, 0, 0, 0), (.getfield 114, 8, 15, 0), (.bipush 6, 0, 0, 0), (.if_icmp .ne 6, 25, 0, 0)] (by decide +kernel) ?_
    simp only [e_al_0, e_gf_8_15, e_bp_6, e_icmp_ne, rd_8_15, e_nil, nol_n, nol_I, nol_R, rsum_0, rsum_I, rsum_R, ps_s, ps_n, true_and, and_true, Nat.reduceAdd, Nat.reduceLeDiff, hd2, bi_0, h15, e19]
    refine ⟨fun c19 => ?_, fun c19 => ?_⟩
    · have e : aTally x ((L, pg), (laid, op), t, (f, cs), (im, t2, f2, cs2), (q, w, b)) = (nI (ix (f 5) + 1), ((L, pg), (laid, op), t, (fu f 5 (nI (ix (f 5) + 1)), fu cs (ix (f 5)) x), (im, t2, f2, cs2), (q, w, b))) := by
        show (if _ then _ else if _ then _ else _) = _
        rw [if_neg nx, if_neg (by omega)]
      rw [e] at h
      generalize hm : ix (f 5) = m at *
      have v1 : vp_in (nI m) 6 := vin (by omega) (by omega)
      have x1 : ix (nI m) = m := nI_ix (by omega)
      have u15 : up μ 8 0 17 m x 8 0 0 15 = nI m := (up_ne (by omega)).trans h15
      have em : nI m + 1 = nI (m + 1) := nI_1 m
      have us : ∀ mm, up mm 8 0 0 15 (nI (m + 1)) 8 0 0 15 = nI (m + 1) := fun mm => up_self _ _ _ _ _ _
      refine go_blk [(.aload_n 0, 0, 0, 0), (.getfield 23, 8, 16, 0), (.aload_n 0, 0, 0, 0), (.getfield 114, 8, 15, 0), (.iload_n 1, 0, 0, 0), (.iastore, 0, 0, 0)] (by decide +kernel) ?_
      simp only [e_al_0, e_gf_8_16, e_gf_8_15, e_il_1, e_iast, rd_8_16, rd_8_15, ai_0_4, ai_1_7, ai_2_1, ai_2_2, ai_3_1, ai_4_1, ai_6_3, ai_6_4, ai_6_5, ai_6_6, ai_6_7, ai_6_8, ai_8_5, ai_8_6, ai_8_17, ai_8_21, ai_8_23, ai_8_24, ai_8_27, ai_8_28, ai_8_38, ai_8_39, ai_8_40, e_nil, nol_n, nol_I, nol_R, rsum_0, rsum_I, rsum_R, ps_s, ps_n, true_and, and_true, Nat.reduceAdd, Nat.reduceLeDiff, hd2, bi_0, h15, e19, v1, x1, u15, em, us]
      refine go_blk [(.aload_n 0, 0, 0, 0), (.dup, 0, 0, 0), (.getfield 114, 8, 15, 0), (.iconst 1, 0, 0, 0), (.iadd, 0, 0, 0), (.putfield 114, 8, 15, 0)] (by decide +kernel) ?_
      simp only [e_al_0, e_dupI, e_dupR, e_gf_8_15, e_ic_1, e_iadd, e_pf_8_15, rd_8_15, e_nil, nol_n, nol_I, nol_R, rsum_0, rsum_I, rsum_R, ps_s, ps_n, true_and, and_true, Nat.reduceAdd, Nat.reduceLeDiff, hd2, bi_0, h15, e19, v1, x1, u15, em, us]
      refine go_blk [(.aload_n 0, 0, 0, 0), (.getfield 114, 8, 15, 0), (.ireturn, 0, 0, 0)] (by decide +kernel) ?_
      simp only [e_al_0, e_gf_8_15, e_iret0, rd_8_15, e_nil, nol_n, nol_I, nol_R, rsum_0, rsum_I, rsum_R, ps_s, ps_n, true_and, and_true, Nat.reduceAdd, Nat.reduceLeDiff, hd2, bi_0, h15, e19, v1, x1, u15, em, us]
      have z2 := rm_gm (μ2 := up (up μ 8 0 17 m x) 8 0 0 15 (nI (m + 1))) (t' := t) (f' := fu f 5 (nI (m + 1))) (cs' := fu cs m x) hR0 (fun c i s j hc => by unfold Scr at hc; rw [up_ne (by omega), up_ne (by omega)]) (mr_off rM (fun s j hs => by rw [up_ne (by omega), up_ne (by omega)])) ⟨⟨by rw [up_ne (by omega), up_ne (by omega), fu_ne (by omega)]; exact g11, by rw [up_ne (by omega), up_ne (by omega), fu_ne (by omega)]; exact g12, by rw [up_ne (by omega), up_ne (by omega), fu_ne (by omega)]; exact g13, by rw [up_ne (by omega), up_ne (by omega), fu_ne (by omega)]; exact g14, by rw [up_self, fu_self]⟩, fun j hj => by
        rw [up_ne (by omega)]
        by_cases z : j = m
        · rw [z, up_self, fu_self]
        · rw [up_ne (by omega), fu_ne z]; exact g17 j hj⟩
      exact h _ z2.1 z2.2
    · have e : aTally x ((L, pg), (laid, op), t, (f, cs), (im, t2, f2, cs2), (q, w, b)) = (-104, ((L, pg), (laid, op), t, (f, cs), (im, t2, f2, cs2), (q, w, b))) := by
        show (if _ then _ else if _ then _ else _) = _
        rw [if_neg nx, if_pos (by omega)]
      rw [e] at h
      refine go_blk [(.bipush (-104), 0, 0, 0), (.ireturn, 0, 0, 0)] (by decide +kernel) ?_
      simp only [e_bp_m104, e_iret0, e_nil, nol_n, nol_I, nol_R, rsum_0, rsum_I, rsum_R, ps_s, ps_n, true_and, and_true, Nat.reduceAdd, Nat.reduceLeDiff, hd2, bi_0, h15, e19]
      exact h μ hR0 (offx_rf μ)
  · have e : aTally x ((L, pg), (laid, op), t, (f, cs), (im, t2, f2, cs2), (q, w, b)) = (-102, ((L, pg), (laid, op), t, (f, cs), (im, t2, f2, cs2), (q, w, b))) := by
      show (if _ then _ else if _ then _ else _) = _
      rw [if_pos (by
        by_cases a1 : x < 0
        · exact Or.inl a1
        · by_cases a2 : 6 < x
          · exact Or.inr a2
          · rw [decide_eq_false a1, decide_eq_false a2] at c7; cases c7)]
    rw [e] at h
    refine go_blk [(.bipush (-102), 0, 0, 0), (.ireturn, 0, 0, 0)] (by decide +kernel) ?_
    simp only [e_bp_m102, e_iret0, e_nil, nol_n, nol_I, nol_R, rsum_0, rsum_I, rsum_R, ps_s, ps_n, true_and, and_true, Nat.reduceAdd, Nat.reduceLeDiff, hd2, bi_0, h15, e19]
    exact h μ hR0 (offx_rf μ)
theorem xm_forget {l : Launch} {K : KK} {d : Nat} {μ : Mm} {P : Option AV → Mm → Prop} {N : Nat} {S : SS} (hV : Inv N S) (hR : RM μ S) (hd1 : 14 ≤ d) (h : ∀ μ2, RM μ2 ((aForget S).2) → OffX μ μ2 → P (some (vI ((aForget S).1))) μ2) : Ok l K d 160 [vR 8 0 0] μ P := by
  refine ok_go 2 (by decide +kernel) [some (vR 8 0 0), none] rfl (Nat.le_of_ble_eq_true rfl) ?_
  have hR0 := hR
  have hV0 := hV
  obtain ⟨⟨L, pg⟩, ⟨laid, op⟩, t, ⟨f, cs⟩, ⟨im, t2, f2, cs2⟩, q, w, b⟩ := S
  obtain ⟨⟨rP, r0, r2⟩, ⟨rM, rG⟩, ⟨rK, rK2⟩, ⟨r1, r17, r18⟩⟩ := hR
  obtain ⟨⟨iL, iP⟩, ⟨iO, iO2⟩, ⟨iT, iF⟩, iK, ⟨iq, iw, ib⟩⟩ := hV
  have hd2 : 1 ≤ d := by omega
  obtain ⟨⟨g11, g12, g13, g14, g15⟩, g17⟩ := id rG
  refine go_blk [(.aload_n 0, 0, 0, 0), (.getfield 114, 8, 15, 0), (.istore_n 1, 0, 0, 0), (.aload_n 0, 0, 0, 0), (.iconst 0, 0, 0, 0), (.putfield 114, 8, 15, 0)] (by decide +kernel) ?_
  simp only [e_al_0, e_gf_8_15, e_is_1n, e_is_1I, e_is_1R, e_ic_0, e_pf_8_15, rd_8_15, e_nil, nol_n, nol_I, nol_R, rsum_0, rsum_I, rsum_R, ps_s, ps_n, true_and, and_true, Nat.reduceAdd, Nat.reduceLeDiff, g15]
  refine go_blk [(.iload_n 1, 0, 0, 0), (.ireturn, 0, 0, 0)] (by decide +kernel) ?_
  simp only [e_il_1, e_iret0, e_nil, nol_n, nol_I, nol_R, rsum_0, rsum_I, rsum_R, ps_s, ps_n, true_and, and_true, Nat.reduceAdd, Nat.reduceLeDiff, g15]
  have z2 := rm_gm (μ2 := up μ 8 0 0 15 0) (t' := t) (f' := fu f 5 0) (cs' := cs) hR0 (fun c i s j hc => by unfold Scr at hc; rw [up_ne (by omega)]) (mr_off rM (fun s j hs => by rw [up_ne (by omega)])) ⟨⟨by rw [up_ne (by omega), fu_ne (by omega)]; exact g11, by rw [up_ne (by omega), fu_ne (by omega)]; exact g12, by rw [up_ne (by omega), fu_ne (by omega)]; exact g13, by rw [up_ne (by omega), fu_ne (by omega)]; exact g14, by rw [up_self, fu_self]⟩, fun j hj => (up_ne (by omega)).trans (g17 j hj)⟩
  exact h _ z2.1 z2.2
theorem okm_fitsNow {l : Launch} {K : KK} {d : Nat} {μ : Mm} {P : Option AV → Mm → Prop} {op m : Nat} {t : TS} {cs : Nat → Int32} (hI : TInv op t) (hM : MRep μ t) (hm : m ≤ 6) (h15 : μ 8 0 0 15 = nI m) (hc : ∀ j, j < 6 → μ 8 0 17 j = cs j) (hd1 : 4 ≤ d) (h : ∀ μ2, OffW μ μ2 → P (some (vI (fitV t m cs))) μ2) : Ok l K d 165 [vR 8 0 0] μ P := by
  refine ok_go 1 (by decide +kernel) [some (vR 8 0 0)] rfl (Nat.le_of_ble_eq_true rfl) ?_
  have hd2 : 1 ≤ d := by omega
  have e4 : (nI m = 0) = (m = 0) := propext (nI_eq (b := 0) (by omega) (by omega))
  refine go_blk [(.aload_n 0, 0, 0, 0), (.getfield 114, 8, 15, 0), (.ifCond .ne 7, 11, 0, 0)] (by decide +kernel) ?_
  simp only [e_al_0, e_gf_8_15, e_if_ne, rd_8_15, e_nil, nol_n, nol_I, nol_R, rsum_0, rsum_I, rsum_R, ps_s, ps_n, true_and, and_true, Nat.reduceAdd, Nat.reduceLeDiff, hd2, h15, e4]
  refine ⟨fun c4 => ?_, fun c4 => ?_⟩
  · obtain ⟨m', rfl⟩ : ∃ z, m = z + 1 := ⟨m - 1, by omega⟩
    have e : fitV t (m' + 1) cs = nI (smN (mwy t cs (m' + 1)) 64) := by
      unfold fitV
      rw [if_neg (by omega), mwy_tot hI m']
    rw [e] at h
    refine go_blk [(.aload_n 0, 0, 0, 0), (.invokevirtual 248, 164, 0, 8)] (by decide +kernel) ?_
    simp only [e_al_0, e_iv_8_0, e_nil, nol_n, nol_I, nol_R, rsum_0, rsum_I, rsum_R, ps_s, ps_n, true_and, and_true, Nat.reduceAdd, Nat.reduceLeDiff, hd2, h15, e4]
    refine okm_layWays hI hM (by omega) h15 hc (by omega) (fun μ1 o1 a1 => ?_)
    refine go_blk [(.ireturn, 0, 0, 0)] (by decide +kernel) ?_
    simp only [e_iret0, e_nil, nol_n, nol_I, nol_R, rsum_0, rsum_I, rsum_R, ps_s, ps_n, true_and, and_true, Nat.reduceAdd, Nat.reduceLeDiff, hd2, h15, e4]
    exact h μ1 o1
  · have e : fitV t m cs = 1 := by unfold fitV; rw [if_pos c4]; rfl
    rw [e] at h
    refine go_blk [(.iconst 1, 0, 0, 0), (.goto 7, 15, 0, 0), (.ireturn, 0, 0, 0)] (by decide +kernel) ?_
    simp only [e_ic_1, e_goto, e_iret0, e_nil, nol_n, nol_I, nol_R, rsum_0, rsum_I, rsum_R, ps_s, ps_n, true_and, and_true, Nat.reduceAdd, Nat.reduceLeDiff, hd2, h15, e4]
    exact h μ (offw_rf μ)
theorem xm_fits {l : Launch} {K : KK} {d : Nat} {μ : Mm} {P : Option AV → Mm → Prop} {N : Nat} {S : SS} (hV : Inv N S) (hR : RM μ S) (hd1 : 14 ≤ d) (h : ∀ μ2, RM μ2 (S) → OffX μ μ2 → P (some (vI (vFits S))) μ2) : Ok l K d 166 [vR 8 0 0] μ P := by
  refine ok_go 1 (by decide +kernel) [some (vR 8 0 0)] rfl (Nat.le_of_ble_eq_true rfl) ?_
  have hR0 := hR
  have hV0 := hV
  obtain ⟨⟨L, pg⟩, ⟨laid, op⟩, t, ⟨f, cs⟩, ⟨im, t2, f2, cs2⟩, q, w, b⟩ := S
  obtain ⟨⟨rP, r0, r2⟩, ⟨rM, rG⟩, ⟨rK, rK2⟩, ⟨r1, r17, r18⟩⟩ := hR
  obtain ⟨⟨iL, iP⟩, ⟨iO, iO2⟩, ⟨iT, iF⟩, iK, ⟨iq, iw, ib⟩⟩ := hV
  have hd2 : 1 ≤ d := by omega
  refine go_blk [(.aload_n 0, 0, 0, 0), (.getfield 89, 8, 0, 0), (.ifCond .eq 10, 14, 0, 0)] (by decide +kernel) ?_
  simp only [e_al_0, e_gf_8_0, e_if_eq, rd_8_0, e_nil, nol_n, nol_I, nol_R, rsum_0, rsum_I, rsum_R, ps_s, ps_n, true_and, and_true, Nat.reduceAdd, Nat.reduceLeDiff, hd2, bi_0, r0]
  refine ⟨fun c4 => ?_, fun c4 => ?_⟩
  · have e : vFits ((L, pg), (laid, op), t, (f, cs), (im, t2, f2, cs2), (q, w, b)) = -103 := if_pos c4
    rw [e] at h
    refine go_blk [(.bipush (-103), 0, 0, 0), (.ireturn, 0, 0, 0)] (by decide +kernel) ?_
    simp only [e_bp_m103, e_iret0, e_nil, nol_n, nol_I, nol_R, rsum_0, rsum_I, rsum_R, ps_s, ps_n, true_and, and_true, Nat.reduceAdd, Nat.reduceLeDiff, hd2, bi_0, r0]
    exact h μ hR0 (offx_rf μ)
  · have e : vFits ((L, pg), (laid, op), t, (f, cs), (im, t2, f2, cs2), (q, w, b)) = fitV t (ix (f 5)) cs := if_neg c4
    rw [e] at h
    refine go_blk [(.aload_n 0, 0, 0, 0), (.invokevirtual 251, 165, 0, 8)] (by decide +kernel) ?_
    simp only [e_al_0, e_iv_8_0, e_nil, nol_n, nol_I, nol_R, rsum_0, rsum_I, rsum_R, ps_s, ps_n, true_and, and_true, Nat.reduceAdd, Nat.reduceLeDiff, hd2, bi_0, r0]
    refine okm_fitsNow iT rM iF.2.1 (rG.1.2.2.2.2.trans iF.2.2) rG.2 (by omega) (fun μ1 o1 => ?_)
    refine go_blk [(.goto 5, 16, 0, 0), (.ireturn, 0, 0, 0)] (by decide +kernel) ?_
    simp only [e_goto, e_iret0, e_nil, nol_n, nol_I, nol_R, rsum_0, rsum_I, rsum_R, ps_s, ps_n, true_and, and_true, Nat.reduceAdd, Nat.reduceLeDiff, hd2, bi_0, r0]
    have z2 := rm_scr hR0 (fun c i s j hc => o1 c i s j (fun z => hc ⟨z.1, z.2.1, by unfold Scr; omega⟩)) (mr_w rM o1)
    exact h μ1 z2.1 z2.2
theorem xm_last {l : Launch} {K : KK} {d : Nat} {μ : Mm} {P : Option AV → Mm → Prop} {N : Nat} {S : SS} {x : Int32} (hV : Inv N S) (hR : RM μ S) (hd1 : 14 ≤ d) (h : ∀ μ2, RM μ2 (S) → OffX μ μ2 → P (some (vI (vLast x S))) μ2) : Ok l K d 168 [vR 8 0 0, vI x] μ P := by
  refine ok_go 2 (by decide +kernel) [some (vR 8 0 0), some (vI x)] rfl (Nat.le_of_ble_eq_true rfl) ?_
  have hR0 := hR
  have hV0 := hV
  obtain ⟨⟨L, pg⟩, ⟨laid, op⟩, t, ⟨f, cs⟩, ⟨im, t2, f2, cs2⟩, q, w, b⟩ := S
  obtain ⟨⟨rP, r0, r2⟩, ⟨rM, rG⟩, ⟨rK, rK2⟩, ⟨r1, r17, r18⟩⟩ := hR
  obtain ⟨⟨iL, iP⟩, ⟨iO, iO2⟩, ⟨iT, iF⟩, iK, ⟨iq, iw, ib⟩⟩ := hV
  have hd2 : 1 ≤ d := by omega
  have hn := iT.1
  have m6 : μ 8 0 0 6 = nI (mSt t) := rM.2.1.1
  have l6 := mSt_lt hn
  refine go_blk [(.aload_n 0, 0, 0, 0), (.iload_n 1, 0, 0, 0), (.invokevirtual 167, 128, 1, 8)] (by decide +kernel) ?_
  simp only [e_al_0, e_il_1, e_iv_8_1, e_nil, nol_n, nol_I, nol_R, rsum_0, rsum_I, rsum_R, ps_s, ps_n, true_and, and_true, Nat.reduceAdd, Nat.reduceLeDiff, hd2, bi_0, m6]
  refine okm_sol hn rM.1.1 (by omega) ?_
  refine go_blk [(.ifCond .ne 6, 11, 0, 0)] (by decide +kernel) ?_
  simp only [e_if_ne, e_nil, nol_n, nol_I, nol_R, rsum_0, rsum_I, rsum_R, ps_s, ps_n, true_and, and_true, Nat.reduceAdd, Nat.reduceLeDiff, hd2, bi_0, m6]
  refine ⟨fun c5 => ?_, fun c5 => ?_⟩
  · obtain ⟨a, ha, rfl⟩ := has_of hn c5
    have xa : ix (nI a) = a := nI_ix (by omega)
    have sb := mSt_bit ha
    refine go_blk [(.aload_n 0, 0, 0, 0), (.getfield 99, 8, 6, 0), (.iload_n 1, 0, 0, 0), (.invokestatic 69, 104, 2, 0)] (by decide +kernel) ?_
    simp only [e_al_0, e_gf_8_6, e_il_1, e_ivs_2, rd_8_6, e_nil, Nat.reduceLT, nol_n, nol_I, nol_R, rsum_0, rsum_I, rsum_R, ps_s, ps_n, true_and, and_true, Nat.reduceAdd, Nat.reduceLeDiff, hd2, bi_0, m6]
    refine okm_has (by omega) (by omega) ?_
    rw [sb]
    refine go_blk [(.ifCond .eq 11, 30, 0, 0)] (by decide +kernel) ?_
    simp only [e_if_eq, e_nil, nol_n, nol_I, nol_R, rsum_0, rsum_I, rsum_R, ps_s, ps_n, true_and, and_true, Nat.reduceAdd, Nat.reduceLeDiff, hd2, bi_0, m6]
    refine ⟨fun c19 => ?_, fun c19 => ?_⟩
    · have t7 : ¬ t 7 a = 1 := fun z => by unfold stn at c19; rw [z] at c19; cases c19
      have e : vLast (nI a) ((L, pg), (laid, op), t, (f, cs), (im, t2, f2, cs2), (q, w, b)) = -103 := by
        show (if _ then _ else if _ then _ else if _ then _ else _) = _
        rw [if_neg c5, xa, if_pos t7]
      rw [e] at h
      refine go_blk [(.bipush (-103), 0, 0, 0), (.ireturn, 0, 0, 0)] (by decide +kernel) ?_
      simp only [e_bp_m103, e_iret0, e_nil, nol_n, nol_I, nol_R, rsum_0, rsum_I, rsum_R, ps_s, ps_n, true_and, and_true, Nat.reduceAdd, Nat.reduceLeDiff, hd2, bi_0, m6]
      exact h μ hR0 (offx_rf μ)
    · have t7 : t 7 a = 1 := by
        have := eq_true_of_ne_false c19
        unfold stn at this
        exact eq_of_beq this
      have e : vLast (nI a) ((L, pg), (laid, op), t, (f, cs), (im, t2, f2, cs2), (q, w, b)) = (if ix (f 5) = 0 then -1 else laV t cs (ix (f 5)) a) := by
        show (if _ then _ else if _ then _ else if _ then _ else _) = _
        rw [if_neg c5, xa, if_neg (fun z => z t7)]
      rw [e] at h
      refine go_blk [(.aload_n 0, 0, 0, 0), (.iload_n 1, 0, 0, 0), (.invokevirtual 254, 167, 1, 8)] (by decide +kernel) ?_
      simp only [e_al_0, e_il_1, e_iv_8_1, e_nil, nol_n, nol_I, nol_R, rsum_0, rsum_I, rsum_R, ps_s, ps_n, true_and, and_true, Nat.reduceAdd, Nat.reduceLeDiff, hd2, bi_0, m6]
      refine okm_lastOf iT rM ha iF.2.1 (rG.1.2.2.2.2.trans iF.2.2) rG.2 (by omega) (fun μ1 o1 => ?_)
      refine go_blk [(.goto 5, 32, 0, 0), (.ireturn, 0, 0, 0)] (by decide +kernel) ?_
      simp only [e_goto, e_iret0, e_nil, nol_n, nol_I, nol_R, rsum_0, rsum_I, rsum_R, ps_s, ps_n, true_and, and_true, Nat.reduceAdd, Nat.reduceLeDiff, hd2, bi_0, m6]
      have z2 := rm_scr hR0 (fun c i s j hc => o1 c i s j (fun z => hc ⟨z.1, z.2.1, by unfold Scr; omega⟩)) (mr_w rM o1)
      exact h μ1 z2.1 z2.2
  · have e : vLast x ((L, pg), (laid, op), t, (f, cs), (im, t2, f2, cs2), (q, w, b)) = -101 := by
      show (if _ then _ else if _ then _ else if _ then _ else _) = _
      rw [if_pos c5]
    rw [e] at h
    refine go_blk [(.bipush (-101), 0, 0, 0), (.ireturn, 0, 0, 0)] (by decide +kernel) ?_
    simp only [e_bp_m101, e_iret0, e_nil, nol_n, nol_I, nol_R, rsum_0, rsum_I, rsum_R, ps_s, ps_n, true_and, and_true, Nat.reduceAdd, Nat.reduceLeDiff, hd2, bi_0, m6]
    exact h μ hR0 (offx_rf μ)
theorem xm_after {l : Launch} {K : KK} {d : Nat} {μ : Mm} {P : Option AV → Mm → Prop} {N : Nat} {S : SS} {x y z : Int32} (hV : Inv N S) (hR : RM μ S) (hd1 : 14 ≤ d) (h : ∀ μ2, RM μ2 (S) → OffX μ μ2 → P (some (vI (vAfter x y z S))) μ2) : Ok l K d 171 [vR 8 0 0, vI x, vI y, vI z] μ P := by
  refine ok_go 4 (by decide +kernel) [some (vR 8 0 0), some (vI x), some (vI y), some (vI z)] rfl (Nat.le_of_ble_eq_true rfl) ?_
  have hR0 := hR
  have hV0 := hV
  obtain ⟨⟨L, pg⟩, ⟨laid, op⟩, t, ⟨f, cs⟩, ⟨im, t2, f2, cs2⟩, q, w, b⟩ := S
  obtain ⟨⟨rP, r0, r2⟩, ⟨rM, rG⟩, ⟨rK, rK2⟩, ⟨r1, r17, r18⟩⟩ := hR
  obtain ⟨⟨iL, iP⟩, ⟨iO, iO2⟩, ⟨iT, iF⟩, iK, ⟨iq, iw, ib⟩⟩ := hV
  have hd2 : 1 ≤ d := by omega
  have hn := iT.1
  have m3 := rM.1.1
  have e30 : (nI (t 0 1) = 0) = (t 0 1 = 0) := propext (nI_eq (b := 0) (by omega) (by omega))
  refine go_blk [(.iload_n 1, 0, 0, 0), (.iconst 1, 0, 0, 0), (.bipush 60, 0, 0, 0), (.invokestatic 51, 103, 3, 0)] (by decide +kernel) ?_
  simp only [e_il_1, e_ic_1, e_bp_60, e_ivs_3, e_nil, Nat.reduceLT, nol_n, nol_I, nol_R, rsum_0, rsum_I, rsum_R, ps_s, ps_n, true_and, and_true, Nat.reduceAdd, Nat.reduceLeDiff, hd2, bi_0, m3, e30]
  refine okm_within ?_
  refine go_blk [(.ifCond .eq 16, 23, 0, 0)] (by decide +kernel) ?_
  simp only [e_if_eq, e_nil, nol_n, nol_I, nol_R, rsum_0, rsum_I, rsum_R, ps_s, ps_n, true_and, and_true, Nat.reduceAdd, Nat.reduceLeDiff, hd2, bi_0, m3, e30]
  refine ⟨fun c7 => ?_, fun c7 => ?_⟩
  · have e : vAfter x y z ((L, pg), (laid, op), t, (f, cs), (im, t2, f2, cs2), (q, w, b)) = -102 := by
      show (if _ then _ else if _ then _ else _) = _
      rw [if_pos (by unfold afB; rw [c7]; rfl)]
    rw [e] at h
    refine go_blk [(.bipush (-102), 0, 0, 0), (.ireturn, 0, 0, 0)] (by decide +kernel) ?_
    simp only [e_bp_m102, e_iret0, e_nil, nol_n, nol_I, nol_R, rsum_0, rsum_I, rsum_R, ps_s, ps_n, true_and, and_true, Nat.reduceAdd, Nat.reduceLeDiff, hd2, bi_0, m3, e30]
    exact h μ hR0 (offx_rf μ)
  · refine go_blk [(.iload_n 2, 0, 0, 0), (.ifCond .lt 12, 23, 0, 0)] (by decide +kernel) ?_
    simp only [e_il_2, e_if_lt, e_nil, nol_n, nol_I, nol_R, rsum_0, rsum_I, rsum_R, ps_s, ps_n, true_and, and_true, Nat.reduceAdd, Nat.reduceLeDiff, hd2, bi_0, m3, e30]
    refine ⟨fun c11 => ?_, fun c11 => ?_⟩
    · have e : vAfter x y z ((L, pg), (laid, op), t, (f, cs), (im, t2, f2, cs2), (q, w, b)) = -102 := by
        show (if _ then _ else if _ then _ else _) = _
        rw [if_pos (by unfold afB; rw [decide_eq_true c11]; simp)]
      rw [e] at h
      refine go_blk [(.bipush (-102), 0, 0, 0), (.ireturn, 0, 0, 0)] (by decide +kernel) ?_
      simp only [e_bp_m102, e_iret0, e_nil, nol_n, nol_I, nol_R, rsum_0, rsum_I, rsum_R, ps_s, ps_n, true_and, and_true, Nat.reduceAdd, Nat.reduceLeDiff, hd2, bi_0, m3, e30]
      exact h μ hR0 (offx_rf μ)
    · refine go_blk [(.iload_n 3, 0, 0, 0), (.iconst 0, 0, 0, 0), (.iconst 2, 0, 0, 0), (.invokestatic 51, 103, 3, 0)] (by decide +kernel) ?_
      simp only [e_il_3, e_ic_0, e_ic_2, e_ivs_3, e_nil, Nat.reduceLT, nol_n, nol_I, nol_R, rsum_0, rsum_I, rsum_R, ps_s, ps_n, true_and, and_true, Nat.reduceAdd, Nat.reduceLeDiff, hd2, bi_0, m3, e30]
      refine okm_within ?_
      refine go_blk [(.ifCond .ne 6, 26, 0, 0)] (by decide +kernel) ?_
      simp only [e_if_ne, e_nil, nol_n, nol_I, nol_R, rsum_0, rsum_I, rsum_R, ps_s, ps_n, true_and, and_true, Nat.reduceAdd, Nat.reduceLeDiff, hd2, bi_0, m3, e30]
      refine ⟨fun c20 => ?_, fun c20 => ?_⟩
      · have hb1 : afB x y z = true := by
          unfold afB
          rw [eq_true_of_ne_false c7, decide_eq_false c11, Bool.and_assoc, eq_true_of_ne_false c20]
          rfl
        have nb : ¬ afB x y z = false := by rw [hb1]; decide
        obtain ⟨⟨T, hT1, hT2, rfl⟩, ⟨q0, hq0, rfl⟩, ⟨c, hc, rfl⟩⟩ := af_of hb1
        have xs : ix (nI T) = T := nI_ix (by omega)
        have xk : ix (nI q0) = q0 := nI_ix hq0
        have xc : ix (nI c) = c := nI_ix (by omega)
        refine go_blk [(.aload_n 0, 0, 0, 0), (.getfield 96, 8, 3, 0), (.ifCond .ne 8, 38, 0, 0)] (by decide +kernel) ?_
        simp only [e_al_0, e_gf_8_3, e_if_ne, rd_8_3, e_nil, nol_n, nol_I, nol_R, rsum_0, rsum_I, rsum_R, ps_s, ps_n, true_and, and_true, Nat.reduceAdd, Nat.reduceLeDiff, hd2, bi_0, m3, e30]
        refine ⟨fun c30 => ?_, fun c30 => ?_⟩
        · have e : vAfter (nI T) (nI q0) (nI c) ((L, pg), (laid, op), t, (f, cs), (im, t2, f2, cs2), (q, w, b)) = aftV (trF op T t q0 0) c := by
            show (if _ then _ else if _ then _ else _) = _
            rw [if_neg nb, if_neg c30, xs, xk, xc]
          rw [e] at h
          refine go_blk [(.aload_n 0, 0, 0, 0), (.iload_n 1, 0, 0, 0), (.iload_n 2, 0, 0, 0), (.iload_n 3, 0, 0, 0), (.invokevirtual 272, 170, 3, 8)] (by decide +kernel) ?_
          simp only [e_al_0, e_il_1, e_il_2, e_il_3, e_iv_8_3, e_nil, nol_n, nol_I, nol_R, rsum_0, rsum_I, rsum_R, ps_s, ps_n, true_and, and_true, Nat.reduceAdd, Nat.reduceLeDiff, hd2, bi_0, m3, e30]
          refine okm_after (by omega) hq0 hc iT rM (by omega) r2 iO (by omega) (fun μ1 nM o1 => ?_)
          refine go_blk [(.ireturn, 0, 0, 0)] (by decide +kernel) ?_
          simp only [e_iret0, e_nil, nol_n, nol_I, nol_R, rsum_0, rsum_I, rsum_R, ps_s, ps_n, true_and, and_true, Nat.reduceAdd, Nat.reduceLeDiff, hd2, bi_0, m3, e30]
          have z2 := rm_scr hR0 (fun c i s j hc => o1 c i s j (fun z => hc ⟨z.1, z.2.1, by unfold Scr; omega⟩) (fun z => hc ⟨z.1, z.2.1, by unfold Scr; omega⟩) (fun z => hc ⟨z.1, z.2.1, by unfold Scr; omega⟩)) nM
          exact h μ1 z2.1 z2.2
        · have e : vAfter (nI T) (nI q0) (nI c) ((L, pg), (laid, op), t, (f, cs), (im, t2, f2, cs2), (q, w, b)) = -103 := by
            show (if _ then _ else if _ then _ else _) = _
            rw [if_neg nb, if_pos c30]
          rw [e] at h
          refine go_blk [(.bipush (-103), 0, 0, 0), (.goto 10, 45, 0, 0), (.ireturn, 0, 0, 0)] (by decide +kernel) ?_
          simp only [e_bp_m103, e_goto, e_iret0, e_nil, nol_n, nol_I, nol_R, rsum_0, rsum_I, rsum_R, ps_s, ps_n, true_and, and_true, Nat.reduceAdd, Nat.reduceLeDiff, hd2, bi_0, m3, e30]
          exact h μ hR0 (offx_rf μ)
      · have e : vAfter x y z ((L, pg), (laid, op), t, (f, cs), (im, t2, f2, cs2), (q, w, b)) = -102 := by
          show (if _ then _ else if _ then _ else _) = _
          rw [if_pos (by unfold afB; rw [Bool.and_assoc, c20, Bool.and_false])]
        rw [e] at h
        refine go_blk [(.bipush (-102), 0, 0, 0), (.ireturn, 0, 0, 0)] (by decide +kernel) ?_
        simp only [e_bp_m102, e_iret0, e_nil, nol_n, nol_I, nol_R, rsum_0, rsum_I, rsum_R, ps_s, ps_n, true_and, and_true, Nat.reduceAdd, Nat.reduceLeDiff, hd2, bi_0, m3, e30]
        exact h μ hR0 (offx_rf μ)
theorem xm_howMany {l : Launch} {K : KK} {d : Nat} {μ : Mm} {P : Option AV → Mm → Prop} {N : Nat} {S : SS} {x : Int32} (hV : Inv N S) (hR : RM μ S) (hd1 : 13 ≤ d) (h : ∀ μ2, RM μ2 (S) → OffX μ μ2 → P (some (vI (vCount x S))) μ2) : Ok l K d 174 [vR 8 0 0, vI x] μ P := by
  refine ok_go 2 (by decide +kernel) [some (vR 8 0 0), some (vI x)] rfl (Nat.le_of_ble_eq_true rfl) ?_
  have hR0 := hR
  have hV0 := hV
  obtain ⟨⟨L, pg⟩, ⟨laid, op⟩, t, ⟨f, cs⟩, ⟨im, t2, f2, cs2⟩, q, w, b⟩ := S
  obtain ⟨⟨rP, r0, r2⟩, ⟨rM, rG⟩, ⟨rK, rK2⟩, ⟨r1, r17, r18⟩⟩ := hR
  obtain ⟨⟨iL, iP⟩, ⟨iO, iO2⟩, ⟨iT, iF⟩, iK, ⟨iq, iw, ib⟩⟩ := hV
  have hd2 : 1 ≤ d := by omega
  have hn := iT.1
  have m3 := rM.1.1
  have m6 : μ 8 0 0 6 = nI (mSt t) := rM.2.1.1
  have m7 : μ 8 0 0 7 = nI (mSd t) := rM.2.1.2.1
  have m9 := rM.2.2.1
  have m10 := rM.2.2.2
  have l6 := mSt_lt hn
  obtain ⟨⟨g11, g12, g13, g14, g15⟩, g17⟩ := id rG
  have g13' : μ 8 0 0 13 = nI (ix (f 3)) := g13.trans iF.1.2
  have b3 := iF.1.1
  have rL := rP.1
  have ea : nI (mSt t) &&& nI (mSd t) = nI (mS1 t) := by rw [nI_and, mS1_eq]
  have l1 : mS1 t < 2 ^ 6 := mskF_lt15 _ hn
  have e0 := nI_andn (mSt t) (mSd t)
  rw [mS0_eq iT] at e0
  have l0 : mskF (fun j => stn t j && t 4 j == 0) (t 0 1) < 2 ^ 6 := mskF_lt15 _ hn
  have s0 : pop (mskF (fun j => stn t j && t 4 j == 0) (t 0 1)) = std t 0 := pop_msk _ (by omega)
  refine go_blk [(.iload_n 1, 0, 0, 0), (.tableswitch 165 0 13 #[71, 79, 84, 89, 94, 109, 122, 127, 135, 140, 145, 150, 155, 160], 0, 0, 0)] (by decide +kernel) ?_
  simp only [e_il_1, e_tsw, e_nil, nol_n, nol_I, nol_R, rsum_0, rsum_I, rsum_R, ps_s, ps_n, true_and, and_true, Nat.reduceAdd, Nat.reduceLeDiff, hd2, m3, m6, m7, m9, m10, g11, g13', g14, g15, rL, ea, e0, r1, r2, r17, r18]
  rcases sw13 x with yy | yy | yy | yy | yy | yy | yy | yy | yy | yy | yy | yy | yy | yy | yy
  · subst yy
    have e : vCount 0 ((L, pg), (laid, op), t, (f, cs), (im, t2, f2, cs2), (q, w, b)) = nI (pop op) := by
      unfold vCount
      rw [if_pos (by decide), show ix (0 : Int32) = 0 from nI_ix (j := 0) (by omega)]
      rfl
    rw [e] at h
    refine ⟨72, by decide, ?_⟩
    refine go_blk [(.aload_n 0, 0, 0, 0), (.getfield 80, 8, 2, 0), (.invokestatic 117, 105, 1, 0)] (by decide +kernel) ?_
    simp only [e_al_0, e_gf_8_2, e_ivs_1, rd_8_2, e_nil, Nat.reduceLT, nol_n, nol_I, nol_R, rsum_0, rsum_I, rsum_R, ps_s, ps_n, true_and, and_true, Nat.reduceAdd, Nat.reduceLeDiff, hd2, m3, m6, m7, m9, m10, g11, g13', g14, g15, rL, ea, e0, r1, r2, r17, r18]
    refine okm_size iO ?_
    refine go_blk [(.ireturn, 0, 0, 0)] (by decide +kernel) ?_
    simp only [e_iret0, e_nil, nol_n, nol_I, nol_R, rsum_0, rsum_I, rsum_R, ps_s, ps_n, true_and, and_true, Nat.reduceAdd, Nat.reduceLeDiff, hd2, m3, m6, m7, m9, m10, g11, g13', g14, g15, rL, ea, e0, r1, r2, r17, r18]
    exact h μ hR0 (offx_rf μ)
  · subst yy
    have e : vCount 1 ((L, pg), (laid, op), t, (f, cs), (im, t2, f2, cs2), (q, w, b)) = nI (t 8 0) := by
      unfold vCount
      rw [if_pos (by decide), show ix (1 : Int32) = 1 from nI_ix (j := 1) (by omega)]
      rfl
    rw [e] at h
    refine ⟨80, by decide, ?_⟩
    refine go_blk [(.aload_n 0, 0, 0, 0), (.getfield 83, 8, 9, 0), (.ireturn, 0, 0, 0)] (by decide +kernel) ?_
    simp only [e_al_0, e_gf_8_9, e_iret0, rd_8_9, e_nil, nol_n, nol_I, nol_R, rsum_0, rsum_I, rsum_R, ps_s, ps_n, true_and, and_true, Nat.reduceAdd, Nat.reduceLeDiff, hd2, m3, m6, m7, m9, m10, g11, g13', g14, g15, rL, ea, e0, r1, r2, r17, r18]
    exact h μ hR0 (offx_rf μ)
  · subst yy
    have e : vCount 2 ((L, pg), (laid, op), t, (f, cs), (im, t2, f2, cs2), (q, w, b)) = nI (t 8 1) := by
      unfold vCount
      rw [if_pos (by decide), show ix (2 : Int32) = 2 from nI_ix (j := 2) (by omega)]
      rfl
    rw [e] at h
    refine ⟨85, by decide, ?_⟩
    refine go_blk [(.aload_n 0, 0, 0, 0), (.getfield 86, 8, 10, 0), (.ireturn, 0, 0, 0)] (by decide +kernel) ?_
    simp only [e_al_0, e_gf_8_10, e_iret0, rd_8_10, e_nil, nol_n, nol_I, nol_R, rsum_0, rsum_I, rsum_R, ps_s, ps_n, true_and, and_true, Nat.reduceAdd, Nat.reduceLeDiff, hd2, m3, m6, m7, m9, m10, g11, g13', g14, g15, rL, ea, e0, r1, r2, r17, r18]
    exact h μ hR0 (offx_rf μ)
  · subst yy
    have e : vCount 3 ((L, pg), (laid, op), t, (f, cs), (im, t2, f2, cs2), (q, w, b)) = nI (t 0 1) := by
      unfold vCount
      rw [if_pos (by decide), show ix (3 : Int32) = 3 from nI_ix (j := 3) (by omega)]
      rfl
    rw [e] at h
    refine ⟨90, by decide, ?_⟩
    refine go_blk [(.aload_n 0, 0, 0, 0), (.getfield 96, 8, 3, 0), (.ireturn, 0, 0, 0)] (by decide +kernel) ?_
    simp only [e_al_0, e_gf_8_3, e_iret0, rd_8_3, e_nil, nol_n, nol_I, nol_R, rsum_0, rsum_I, rsum_R, ps_s, ps_n, true_and, and_true, Nat.reduceAdd, Nat.reduceLeDiff, hd2, m3, m6, m7, m9, m10, g11, g13', g14, g15, rL, ea, e0, r1, r2, r17, r18]
    exact h μ hR0 (offx_rf μ)
  · subst yy
    have e : vCount 4 ((L, pg), (laid, op), t, (f, cs), (im, t2, f2, cs2), (q, w, b)) = nI (std t 0) := by
      unfold vCount
      rw [if_pos (by decide), show ix (4 : Int32) = 4 from nI_ix (j := 4) (by omega)]
      rfl
    rw [e] at h
    refine ⟨95, by decide, ?_⟩
    refine go_blk [(.aload_n 0, 0, 0, 0), (.getfield 99, 8, 6, 0), (.aload_n 0, 0, 0, 0), (.getfield 102, 8, 7, 0), (.iconst (-1), 0, 0, 0), (.ixor, 0, 0, 0), (.iand, 0, 0, 0), (.invokestatic 117, 105, 1, 0)] (by decide +kernel) ?_
    simp only [e_al_0, e_gf_8_6, e_gf_8_7, e_ic_m1, e_ixor, e_iand, e_ivs_1, rd_8_6, rd_8_7, e_nil, Nat.reduceLT, nol_n, nol_I, nol_R, rsum_0, rsum_I, rsum_R, ps_s, ps_n, true_and, and_true, Nat.reduceAdd, Nat.reduceLeDiff, hd2, m3, m6, m7, m9, m10, g11, g13', g14, g15, rL, ea, e0, r1, r2, r17, r18]
    refine okm_size (by omega) ?_
    rw [s0]
    refine go_blk [(.ireturn, 0, 0, 0)] (by decide +kernel) ?_
    simp only [e_iret0, e_nil, nol_n, nol_I, nol_R, rsum_0, rsum_I, rsum_R, ps_s, ps_n, true_and, and_true, Nat.reduceAdd, Nat.reduceLeDiff, hd2, m3, m6, m7, m9, m10, g11, g13', g14, g15, rL, ea, e0, r1, r2, r17, r18]
    exact h μ hR0 (offx_rf μ)
  · subst yy
    have e : vCount 5 ((L, pg), (laid, op), t, (f, cs), (im, t2, f2, cs2), (q, w, b)) = nI (std t 1) := by
      unfold vCount
      rw [if_pos (by decide), show ix (5 : Int32) = 5 from nI_ix (j := 5) (by omega)]
      rfl
    rw [e] at h
    refine ⟨110, by decide, ?_⟩
    refine go_blk [(.aload_n 0, 0, 0, 0), (.getfield 99, 8, 6, 0), (.aload_n 0, 0, 0, 0), (.getfield 102, 8, 7, 0), (.iand, 0, 0, 0), (.invokestatic 117, 105, 1, 0)] (by decide +kernel) ?_
    simp only [e_al_0, e_gf_8_6, e_gf_8_7, e_iand, e_ivs_1, rd_8_6, rd_8_7, e_nil, Nat.reduceLT, nol_n, nol_I, nol_R, rsum_0, rsum_I, rsum_R, ps_s, ps_n, true_and, and_true, Nat.reduceAdd, Nat.reduceLeDiff, hd2, m3, m6, m7, m9, m10, g11, g13', g14, g15, rL, ea, e0, r1, r2, r17, r18]
    refine okm_size (by omega) ?_
    rw [pop_S1 hn]
    refine go_blk [(.ireturn, 0, 0, 0)] (by decide +kernel) ?_
    simp only [e_iret0, e_nil, nol_n, nol_I, nol_R, rsum_0, rsum_I, rsum_R, ps_s, ps_n, true_and, and_true, Nat.reduceAdd, Nat.reduceLeDiff, hd2, m3, m6, m7, m9, m10, g11, g13', g14, g15, rL, ea, e0, r1, r2, r17, r18]
    exact h μ hR0 (offx_rf μ)
  · subst yy
    have e : vCount 6 ((L, pg), (laid, op), t, (f, cs), (im, t2, f2, cs2), (q, w, b)) = f 1 := by
      unfold vCount
      rw [if_pos (by decide), show ix (6 : Int32) = 6 from nI_ix (j := 6) (by omega)]
      rfl
    rw [e] at h
    refine ⟨123, by decide, ?_⟩
    refine go_blk [(.aload_n 0, 0, 0, 0), (.getfield 108, 8, 11, 0), (.ireturn, 0, 0, 0)] (by decide +kernel) ?_
    simp only [e_al_0, e_gf_8_11, e_iret0, rd_8_11, e_nil, nol_n, nol_I, nol_R, rsum_0, rsum_I, rsum_R, ps_s, ps_n, true_and, and_true, Nat.reduceAdd, Nat.reduceLeDiff, hd2, m3, m6, m7, m9, m10, g11, g13', g14, g15, rL, ea, e0, r1, r2, r17, r18]
    exact h μ hR0 (offx_rf μ)
  · subst yy
    have e : vCount 7 ((L, pg), (laid, op), t, (f, cs), (im, t2, f2, cs2), (q, w, b)) = nI (pop (ix (f 3))) := by
      unfold vCount
      rw [if_pos (by decide), show ix (7 : Int32) = 7 from nI_ix (j := 7) (by omega)]
      rfl
    rw [e] at h
    refine ⟨128, by decide, ?_⟩
    refine go_blk [(.aload_n 0, 0, 0, 0), (.getfield 111, 8, 13, 0), (.invokestatic 117, 105, 1, 0)] (by decide +kernel) ?_
    simp only [e_al_0, e_gf_8_13, e_ivs_1, rd_8_13, e_nil, Nat.reduceLT, nol_n, nol_I, nol_R, rsum_0, rsum_I, rsum_R, ps_s, ps_n, true_and, and_true, Nat.reduceAdd, Nat.reduceLeDiff, hd2, m3, m6, m7, m9, m10, g11, g13', g14, g15, rL, ea, e0, r1, r2, r17, r18]
    refine okm_size (by omega) ?_
    refine go_blk [(.ireturn, 0, 0, 0)] (by decide +kernel) ?_
    simp only [e_iret0, e_nil, nol_n, nol_I, nol_R, rsum_0, rsum_I, rsum_R, ps_s, ps_n, true_and, and_true, Nat.reduceAdd, Nat.reduceLeDiff, hd2, m3, m6, m7, m9, m10, g11, g13', g14, g15, rL, ea, e0, r1, r2, r17, r18]
    exact h μ hR0 (offx_rf μ)
  · subst yy
    have e : vCount 8 ((L, pg), (laid, op), t, (f, cs), (im, t2, f2, cs2), (q, w, b)) = f 4 := by
      unfold vCount
      rw [if_pos (by decide), show ix (8 : Int32) = 8 from nI_ix (j := 8) (by omega)]
      rfl
    rw [e] at h
    refine ⟨136, by decide, ?_⟩
    refine go_blk [(.aload_n 0, 0, 0, 0), (.getfield 20, 8, 14, 0), (.ireturn, 0, 0, 0)] (by decide +kernel) ?_
    simp only [e_al_0, e_gf_8_14, e_iret0, rd_8_14, e_nil, nol_n, nol_I, nol_R, rsum_0, rsum_I, rsum_R, ps_s, ps_n, true_and, and_true, Nat.reduceAdd, Nat.reduceLeDiff, hd2, m3, m6, m7, m9, m10, g11, g13', g14, g15, rL, ea, e0, r1, r2, r17, r18]
    exact h μ hR0 (offx_rf μ)
  · subst yy
    have e : vCount 9 ((L, pg), (laid, op), t, (f, cs), (im, t2, f2, cs2), (q, w, b)) = f 5 := by
      unfold vCount
      rw [if_pos (by decide), show ix (9 : Int32) = 9 from nI_ix (j := 9) (by omega)]
      rfl
    rw [e] at h
    refine ⟨141, by decide, ?_⟩
    refine go_blk [(.aload_n 0, 0, 0, 0), (.getfield 114, 8, 15, 0), (.ireturn, 0, 0, 0)] (by decide +kernel) ?_
    simp only [e_al_0, e_gf_8_15, e_iret0, rd_8_15, e_nil, nol_n, nol_I, nol_R, rsum_0, rsum_I, rsum_R, ps_s, ps_n, true_and, and_true, Nat.reduceAdd, Nat.reduceLeDiff, hd2, m3, m6, m7, m9, m10, g11, g13', g14, g15, rL, ea, e0, r1, r2, r17, r18]
    exact h μ hR0 (offx_rf μ)
  · subst yy
    have e : vCount 10 ((L, pg), (laid, op), t, (f, cs), (im, t2, f2, cs2), (q, w, b)) = nI L := by
      unfold vCount
      rw [if_pos (by decide), show ix (10 : Int32) = 10 from nI_ix (j := 10) (by omega)]
      rfl
    rw [e] at h
    refine ⟨146, by decide, ?_⟩
    refine go_blk [(.aload_n 0, 0, 0, 0), (.getfield 55, 8, 19, 0), (.ireturn, 0, 0, 0)] (by decide +kernel) ?_
    simp only [e_al_0, e_gf_8_19, e_iret0, rd_8_19, e_nil, nol_n, nol_I, nol_R, rsum_0, rsum_I, rsum_R, ps_s, ps_n, true_and, and_true, Nat.reduceAdd, Nat.reduceLeDiff, hd2, m3, m6, m7, m9, m10, g11, g13', g14, g15, rL, ea, e0, r1, r2, r17, r18]
    exact h μ hR0 (offx_rf μ)
  · subst yy
    have e : vCount 11 ((L, pg), (laid, op), t, (f, cs), (im, t2, f2, cs2), (q, w, b)) = nI q := by
      unfold vCount
      rw [if_pos (by decide), show ix (11 : Int32) = 11 from nI_ix (j := 11) (by omega)]
      rfl
    rw [e] at h
    refine ⟨151, by decide, ?_⟩
    refine go_blk [(.aload_n 0, 0, 0, 0), (.getfield 93, 8, 1, 0), (.ireturn, 0, 0, 0)] (by decide +kernel) ?_
    simp only [e_al_0, e_gf_8_1, e_iret0, rd_8_1, e_nil, nol_n, nol_I, nol_R, rsum_0, rsum_I, rsum_R, ps_s, ps_n, true_and, and_true, Nat.reduceAdd, Nat.reduceLeDiff, hd2, m3, m6, m7, m9, m10, g11, g13', g14, g15, rL, ea, e0, r1, r2, r17, r18]
    exact h μ hR0 (offx_rf μ)
  · subst yy
    have e : vCount 12 ((L, pg), (laid, op), t, (f, cs), (im, t2, f2, cs2), (q, w, b)) = nI w := by
      unfold vCount
      rw [if_pos (by decide), show ix (12 : Int32) = 12 from nI_ix (j := 12) (by omega)]
      rfl
    rw [e] at h
    refine ⟨156, by decide, ?_⟩
    refine go_blk [(.aload_n 0, 0, 0, 0), (.getfield 190, 8, 17, 0), (.ireturn, 0, 0, 0)] (by decide +kernel) ?_
    simp only [e_al_0, e_gf_8_17, e_iret0, rd_8_17, e_nil, nol_n, nol_I, nol_R, rsum_0, rsum_I, rsum_R, ps_s, ps_n, true_and, and_true, Nat.reduceAdd, Nat.reduceLeDiff, hd2, m3, m6, m7, m9, m10, g11, g13', g14, g15, rL, ea, e0, r1, r2, r17, r18]
    exact h μ hR0 (offx_rf μ)
  · subst yy
    have e : vCount 13 ((L, pg), (laid, op), t, (f, cs), (im, t2, f2, cs2), (q, w, b)) = nI b := by
      unfold vCount
      rw [if_pos (by decide), show ix (13 : Int32) = 13 from nI_ix (j := 13) (by omega)]
      rfl
    rw [e] at h
    refine ⟨161, by decide, ?_⟩
    refine go_blk [(.aload_n 0, 0, 0, 0), (.getfield 230, 8, 18, 0), (.ireturn, 0, 0, 0)] (by decide +kernel) ?_
    simp only [e_al_0, e_gf_8_18, e_iret0, rd_8_18, e_nil, nol_n, nol_I, nol_R, rsum_0, rsum_I, rsum_R, ps_s, ps_n, true_and, and_true, Nat.reduceAdd, Nat.reduceLeDiff, hd2, m3, m6, m7, m9, m10, g11, g13', g14, g15, rL, ea, e0, r1, r2, r17, r18]
    exact h μ hR0 (offx_rf μ)
  · have e : vCount x ((L, pg), (laid, op), t, (f, cs), (im, t2, f2, cs2), (q, w, b)) = -102 := by
      unfold vCount
      refine if_neg (fun z => ?_)
      obtain ⟨j, hj, hx⟩ := in_of (n := 14) (by omega) z
      exact yy j (by omega) (by omega) (by rw [hx, nI_toInt (by omega)])
    rw [e] at h
    refine ⟨166, sw_df (n := 13) (sw_out yy) (by decide), ?_⟩
    refine go_blk [(.bipush (-102), 0, 0, 0), (.ireturn, 0, 0, 0)] (by decide +kernel) ?_
    simp only [e_bp_m102, e_iret0, e_nil, nol_n, nol_I, nol_R, rsum_0, rsum_I, rsum_R, ps_s, ps_n, true_and, and_true, Nat.reduceAdd, Nat.reduceLeDiff, hd2, m3, m6, m7, m9, m10, g11, g13', g14, g15, rL, ea, e0, r1, r2, r17, r18]
    exact h μ hR0 (offx_rf μ)
theorem xm_count {l : Launch} {K : KK} {d : Nat} {μ : Mm} {P : Option AV → Mm → Prop} {N : Nat} {S : SS} {x : Int32} (hV : Inv N S) (hR : RM μ S) (hd1 : 14 ≤ d) (h : ∀ μ2, RM μ2 (S) → OffX μ μ2 → P (some (vI (vCount x S))) μ2) : Ok l K d 175 [vR 8 0 0, vI x] μ P := by
  refine ok_go 2 (by decide +kernel) [some (vR 8 0 0), some (vI x)] rfl (Nat.le_of_ble_eq_true rfl) ?_
  have hR0 := hR
  have hV0 := hV
  obtain ⟨⟨L, pg⟩, ⟨laid, op⟩, t, ⟨f, cs⟩, ⟨im, t2, f2, cs2⟩, q, w, b⟩ := S
  obtain ⟨⟨rP, r0, r2⟩, ⟨rM, rG⟩, ⟨rK, rK2⟩, ⟨r1, r17, r18⟩⟩ := hR
  obtain ⟨⟨iL, iP⟩, ⟨iO, iO2⟩, ⟨iT, iF⟩, iK, ⟨iq, iw, ib⟩⟩ := hV
  have hd2 : 1 ≤ d := by omega
  refine go_blk [(.aload_n 0, 0, 0, 0), (.iload_n 1, 0, 0, 0), (.invokevirtual 299, 174, 1, 8)] (by decide +kernel) ?_
  simp only [e_al_0, e_il_1, e_iv_8_1, e_nil, nol_n, nol_I, nol_R, rsum_0, rsum_I, rsum_R, ps_s, ps_n, true_and, and_true, Nat.reduceAdd, Nat.reduceLeDiff, hd2]
  refine xm_howMany hV0 hR0 (by omega) (fun μ1 z1 z2 => ?_)
  refine go_blk [(.ireturn, 0, 0, 0)] (by decide +kernel) ?_
  simp only [e_iret0, e_nil, nol_n, nol_I, nol_R, rsum_0, rsum_I, rsum_R, ps_s, ps_n, true_and, and_true, Nat.reduceAdd, Nat.reduceLeDiff, hd2]
  exact h μ1 z1 z2
