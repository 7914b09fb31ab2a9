theorem xc_carpet {l : Launch} {K : KK} {d : Nat} {μ : Mm} {P : Option AV → Mm → Prop} {N : Nat} {S : SS} (hV : Inv N S) (hR : RC μ S) (hd1 : 14 ≤ d) (h : ∀ μ2, RC μ2 ((aCarpet S).2) → Off8 μ μ2 → P (some (vI ((aCarpet S).1))) μ2) : Ok l K d 77 [vR 7 0 0] μ P := by
  refine ok_go 1 (by decide +kernel) [some (vR 7 0 0)] rfl (Nat.le_of_ble_eq_true rfl) ?_
  have hR0 := hR
  have hV0 := hV
  obtain ⟨⟨L, pg⟩, ⟨laid, op⟩, t, ⟨f, cs⟩, ⟨im, t2, f2, cs2⟩, q, w, b⟩ := S
  obtain ⟨⟨rP, rC, rW⟩, ⟨rT, rG⟩, ⟨r7, rK⟩, ⟨r8, r9, r10⟩, rN⟩ := hR
  obtain ⟨⟨iL, iP⟩, ⟨iO, iO2⟩, ⟨iT, iF⟩, iK, ⟨iq, iw, ib⟩⟩ := hV
  have hd2 : 1 ≤ d := by omega
  refine go_blk [(.aload_n 0, 0, 0, 0), (.getfield 12, 7, 0, 0), (.invokevirtual 84, 43, 0, 3)] (by decide +kernel) ?_
  simp only [e_al_0, e_gf_7_0, e_iv_3_0, rd_7_0, e_nil, nol_n, nol_I, nol_R, rsum_0, rsum_I, rsum_R, ps_s, ps_n, true_and, and_true, Nat.reduceAdd, Nat.reduceLeDiff, hd2, bi_0, or_true, true_or, Nat.reduceLT]
  refine ok_isCarpet rP (by omega) ?_
  refine go_blk [(.ifCond .ne 6, 13, 0, 0)] (by decide +kernel) ?_
  simp only [e_if_ne, e_nil, nol_n, nol_I, nol_R, rsum_0, rsum_I, rsum_R, ps_s, ps_n, true_and, and_true, Nat.reduceAdd, Nat.reduceLeDiff, hd2, bi_0, or_true, true_or, Nat.reduceLT]
  refine ⟨fun c7 => ?_, fun c7 => ?_⟩
  · obtain ⟨h20, hff⟩ : L = 20 ∧ fsF (fun k => cOK k (pg k)) L 0 = L := by
      have z := eq_true_of_ne_false c7
      rw [Bool.and_eq_true, decide_eq_true_eq, decide_eq_true_eq] at z
      exact z
    have e : aCarpet ((L, pg), (laid, op), t, (f, cs), (im, t2, f2, cs2), (q, w, b)) = (nI (pop (opF pg 15)), ((0, pg), (true, opF pg 15), clr (pg 18 - 48) (pg 19 - 48), (gf0, cs), (false, t2, f2, cs2), (q + 1, w, b))) := by
      show (if _ then _ else _) = _
      rw [if_pos ⟨h20, hff⟩]
    rw [e] at h
    subst h20
    have dg : ∀ j, 18 ≤ j → j < 20 → 48 ≤ pg j ∧ pg j ≤ 57 := fun j h1 h2 => by
      have z := fsF_ok _ 20 0 j (by omega) (by rw [hff]; exact h2)
      have z2 : cOK j (pg j) = true := z
      unfold cOK at z2
      rw [if_neg (by omega)] at z2
      simp only [Bool.and_eq_true, decide_eq_true_eq] at z2
      exact z2.2
    have d18 : nI (pg 18) - 48 = nI (pg 18 - 48) := pk_sub (b := 48) (dg 18 (by omega) (by omega)).1
    have d19 : nI (pg 19) - 48 = nI (pg 19 - 48) := pk_sub (b := 48) (dg 19 (by omega) (by omega)).1
    refine go_blk [(.aload_n 0, 0, 0, 0), (.getfield 19, 7, 1, 0), (.aload_n 0, 0, 0, 0), (.getfield 12, 7, 0, 0), (.invokevirtual 88, 1, 1, 0)] (by decide +kernel) ?_
    simp only [e_al_0, e_gf_7_1, e_gf_7_0, e_iv_0_1, rd_7_1, rd_7_0, e_nil, nol_n, nol_I, nol_R, rsum_0, rsum_I, rsum_R, ps_s, ps_n, true_and, and_true, Nat.reduceAdd, Nat.reduceLeDiff, hd2, bi_0, or_true, true_or, Nat.reduceLT, d18, d19]
    refine ok_lay rP (by omega) (fun μ1 o1 c1 w1 => ?_)
    have p1 := rP.off (o1 3 (by omega))
    have g1 := rG.off (μ' := μ1) (by rw [o1 1 (by omega)])
    refine go_blk [(.aload_n 0, 0, 0, 0), (.getfield 28, 7, 2, 0), (.aload_n 0, 0, 0, 0), (.getfield 12, 7, 0, 0), (.bipush 18, 0, 0, 0), (.invokevirtual 92, 42, 1, 3)] (by decide +kernel) ?_
    simp only [e_al_0, e_gf_7_2, e_gf_7_0, e_bp_18, e_iv_3_1, rd_7_2, rd_7_0, e_nil, nol_n, nol_I, nol_R, rsum_0, rsum_I, rsum_R, ps_s, ps_n, true_and, and_true, Nat.reduceAdd, Nat.reduceLeDiff, hd2, bi_0, or_true, true_or, Nat.reduceLT, d18, d19]
    refine ok_digitAt (j := 18) p1 (by omega) ?_
    refine go_blk [(.aload_n 0, 0, 0, 0), (.getfield 12, 7, 0, 0), (.bipush 19, 0, 0, 0), (.invokevirtual 92, 42, 1, 3)] (by decide +kernel) ?_
    simp only [e_al_0, e_gf_7_0, e_bp_19, e_iv_3_1, rd_7_0, e_nil, nol_n, nol_I, nol_R, rsum_0, rsum_I, rsum_R, ps_s, ps_n, true_and, and_true, Nat.reduceAdd, Nat.reduceLeDiff, hd2, bi_0, or_true, true_or, Nat.reduceLT, d18, d19]
    refine ok_digitAt (j := 19) p1 (by omega) ?_
    refine go_blk [(.invokevirtual 95, 14, 2, 1)] (by decide +kernel) ?_
    simp only [e_iv_1_2, e_nil, nol_n, nol_I, nol_R, rsum_0, rsum_I, rsum_R, ps_s, ps_n, true_and, and_true, Nat.reduceAdd, Nat.reduceLeDiff, hd2, bi_0, or_true, true_or, Nat.reduceLT, d18, d19]
    refine ok_g_clear (g := 0) (by omega) g1 (by omega) (fun μ2 tT tG tO => ?_)
    have o2 : ∀ c, ¬ c = 1 → ¬ c = 6 → μ2 c = μ1 c := fun c a1 a6 => by funext i; exact tO c i (by omega) (by omega)
    have u7' : up μ2 7 0 0 7 0 7 0 0 8 = nI q := by rw [up_ne (by omega), o2 7 (by omega) (by omega), o1 7 (by omega)]; exact r8
    have eq1 : nI q + 1 = nI (q + 1) := nI_1 q
    refine go_blk [(.aload_n 0, 0, 0, 0), (.iconst 0, 0, 0, 0), (.putfield 56, 7, 7, 0)] (by decide +kernel) ?_
    simp only [e_al_0, e_ic_0, e_pf_7_7, e_nil, nol_n, nol_I, nol_R, rsum_0, rsum_I, rsum_R, ps_s, ps_n, true_and, and_true, Nat.reduceAdd, Nat.reduceLeDiff, hd2, bi_0, or_true, true_or, Nat.reduceLT, d18, d19, u7', eq1]
    refine go_blk [(.aload_n 0, 0, 0, 0), (.dup, 0, 0, 0), (.getfield 60, 7, 8, 0), (.iconst 1, 0, 0, 0), (.iadd, 0, 0, 0), (.putfield 60, 7, 8, 0)] (by decide +kernel) ?_
    simp only [e_al_0, e_dupI, e_dupR, e_gf_7_8, e_ic_1, e_iadd, e_pf_7_8, rd_7_8, e_nil, nol_n, nol_I, nol_R, rsum_0, rsum_I, rsum_R, ps_s, ps_n, true_and, and_true, Nat.reduceAdd, Nat.reduceLeDiff, hd2, bi_0, or_true, true_or, Nat.reduceLT, d18, d19, u7', eq1]
    refine go_blk [(.aload_n 0, 0, 0, 0), (.getfield 12, 7, 0, 0), (.invokevirtual 77, 41, 0, 3)] (by decide +kernel) ?_
    simp only [e_al_0, e_gf_7_0, e_iv_3_0, rd_7_0, e_nil, nol_n, nol_I, nol_R, rsum_0, rsum_I, rsum_R, ps_s, ps_n, true_and, and_true, Nat.reduceAdd, Nat.reduceLeDiff, hd2, bi_0, or_true, true_or, Nat.reduceLT, d18, d19, u7', eq1]
    have o3 : ∀ c, ¬ c = 7 → (up (up μ2 7 0 0 7 0) 7 0 0 8 (nI (q + 1))) c = μ2 c := fun c hc => by funext i s j; rw [up_ne (by omega), up_ne (by omega)]
    refine ok_empty (L := 20) (by rw [o3 3 (by omega), o2 3 (by omega) (by omega)]; exact p1.1) ?_
    have o4 : ∀ c, ¬ c = 3 → ¬ c = 7 → (up (up (up μ2 7 0 0 7 0) 7 0 0 8 (nI (q + 1))) 3 0 0 1 0) c = μ2 c := fun c h3 h7 => by rw [← o3 c h7]; funext i s j; rw [up_ne (by omega)]
    have c4 : CRep (up (up (up μ2 7 0 0 7 0) 7 0 0 8 (nI (q + 1))) 3 0 0 1 0) true (opF pg 15) := c1.off (by rw [o4 0 (by omega) (by omega), o2 0 (by omega) (by omega)])
    refine go_blk [(.pop, 0, 0, 0), (.aload_n 0, 0, 0, 0), (.getfield 19, 7, 1, 0), (.invokevirtual 99, 4, 0, 0)] (by decide +kernel) ?_
    simp only [e_pop, e_al_0, e_gf_7_1, e_iv_0_0, rd_7_1, e_nil, nol_n, nol_I, nol_R, rsum_0, rsum_I, rsum_R, ps_s, ps_n, true_and, and_true, Nat.reduceAdd, Nat.reduceLeDiff, hd2, bi_0, or_true, true_or, Nat.reduceLT, d18, d19, u7', eq1]
    refine ok_openCells c4.2.1 c4.2.2.1 (by omega) ?_
    refine go_blk [(.ireturn, 0, 0, 0)] (by decide +kernel) ?_
    simp only [e_iret0, e_nil, nol_n, nol_I, nol_R, rsum_0, rsum_I, rsum_R, ps_s, ps_n, true_and, and_true, Nat.reduceAdd, Nat.reduceLeDiff, hd2, bi_0, or_true, true_or, Nat.reduceLT, d18, d19, u7', eq1]
    refine h _ ⟨⟨pr_0 (L := 20) 0 rfl, c4, fun _ => Or.inl (by rw [o4 0 (by omega) (by omega), o2 0 (by omega) (by omega)]; exact w1)⟩, ⟨tT.off (by rw [o4 6 (by omega) (by omega)]), tG.off (by rw [o4 1 (by omega) (by omega)])⟩, ⟨by rw [up_ne (by omega), up_ne (by omega), up_self]; rfl, fun z => by cases z⟩, ⟨by rw [up_ne (by omega), up_self], by rw [up_ne (by omega), up_ne (by omega), up_ne (by omega), o2 7 (by omega) (by omega), o1 7 (by omega)]; exact r9, by rw [up_ne (by omega), up_ne (by omega), up_ne (by omega), o2 7 (by omega) (by omega), o1 7 (by omega)]; exact r10⟩, by unfold NtR; rw [o4 2 (by omega) (by omega), o2 2 (by omega) (by omega), o1 2 (by omega)]; exact rN⟩ (by unfold Off8; rw [o4 8 (by omega) (by omega), o2 8 (by omega) (by omega), o1 8 (by omega)])
  · have e : aCarpet ((L, pg), (laid, op), t, (f, cs), (im, t2, f2, cs2), (q, w, b)) = (-103, ((L, pg), (laid, op), t, (f, cs), (im, t2, f2, cs2), (q, w, b))) := by
      show (if _ then _ else _) = _
      rw [if_neg (fun z => by rw [decide_eq_true z.1, decide_eq_true z.2] at c7; cases c7)]
    rw [e] at h
    refine go_blk [(.bipush (-103), 0, 0, 0), (.ireturn, 0, 0, 0)] (by decide +kernel) ?_
    simp only [e_bp_m103, e_iret0, e_nil, nol_n, nol_I, nol_R, rsum_0, rsum_I, rsum_R, ps_s, ps_n, true_and, and_true, Nat.reduceAdd, Nat.reduceLeDiff, hd2, bi_0, or_true, true_or, Nat.reduceLT]
    exact h μ hR0 rfl
theorem xc_treaty {l : Launch} {K : KK} {d : Nat} {μ : Mm} {P : Option AV → Mm → Prop} {N : Nat} {S : SS} (hV : Inv N S) (hR : RC μ S) (hd1 : 14 ≤ d) (h : ∀ μ2, RC μ2 ((aTreaty S).2) → Off8 μ μ2 → P (some (vI ((aTreaty S).1))) μ2) : Ok l K d 78 [vR 7 0 0] μ P := by
  refine ok_go 1 (by decide +kernel) [some (vR 7 0 0)] rfl (Nat.le_of_ble_eq_true rfl) ?_
  have hR0 := hR
  have hV0 := hV
  obtain ⟨⟨L, pg⟩, ⟨laid, op⟩, t, ⟨f, cs⟩, ⟨im, t2, f2, cs2⟩, q, w, b⟩ := S
  obtain ⟨⟨rP, rC, rW⟩, ⟨rT, rG⟩, ⟨r7, rK⟩, ⟨r8, r9, r10⟩, rN⟩ := hR
  obtain ⟨⟨iL, iP⟩, ⟨iO, iO2⟩, ⟨iT, iF⟩, iK, ⟨iq, iw, ib⟩⟩ := hV
  have hd2 : 1 ≤ d := by omega
  have rL0 := rC.1
  have el := bi_0 laid
  refine go_blk [(.aload_n 0, 0, 0, 0), (.getfield 12, 7, 0, 0), (.invokevirtual 102, 44, 0, 3)] (by decide +kernel) ?_
  simp only [e_al_0, e_gf_7_0, e_iv_3_0, rd_7_0, e_nil, nol_n, nol_I, nol_R, rsum_0, rsum_I, rsum_R, ps_s, ps_n, true_and, and_true, Nat.reduceAdd, Nat.reduceLeDiff, hd2, bi_0, rL0, el, Nat.reduceLT]
  refine ok_isTreaty rP (by omega) ?_
  refine go_blk [(.ifCond .eq 13, 20, 0, 0)] (by decide +kernel) ?_
  simp only [e_if_eq, e_nil, nol_n, nol_I, nol_R, rsum_0, rsum_I, rsum_R, ps_s, ps_n, true_and, and_true, Nat.reduceAdd, Nat.reduceLeDiff, hd2, bi_0, rL0, el, Nat.reduceLT]
  refine ⟨fun c7 => ?_, fun c7 => ?_⟩
  · have e : aTreaty ((L, pg), (laid, op), t, (f, cs), (im, t2, f2, cs2), (q, w, b)) = (-103, ((L, pg), (laid, op), t, (f, cs), (im, t2, f2, cs2), (q, w, b))) := by
      show (if _ then _ else _) = _
      rw [if_neg (fun z => by rw [decide_eq_true z.1.1, decide_eq_true z.1.2] at c7; cases c7)]
    rw [e] at h
    refine go_blk [(.bipush (-103), 0, 0, 0), (.ireturn, 0, 0, 0)] (by decide +kernel) ?_
    simp only [e_bp_m103, e_iret0, e_nil, nol_n, nol_I, nol_R, rsum_0, rsum_I, rsum_R, ps_s, ps_n, true_and, and_true, Nat.reduceAdd, Nat.reduceLeDiff, hd2, bi_0, rL0, el, Nat.reduceLT]
    exact h μ hR0 rfl
  · have zt : 1 ≤ L ∧ fsF (tOK pg) L 0 = L := by
      have z := eq_true_of_ne_false c7
      rw [Bool.and_eq_true, decide_eq_true_eq, decide_eq_true_eq] at z
      exact z
    refine go_blk [(.aload_n 0, 0, 0, 0), (.getfield 19, 7, 1, 0), (.getfield 105, 0, 0, 0), (.ifCond .ne 6, 23, 0, 0)] (by decide +kernel) ?_
    simp only [e_al_0, e_gf_7_1, e_gf_0_0, e_if_ne, rd_7_1, rd_0_0, e_nil, nol_n, nol_I, nol_R, rsum_0, rsum_I, rsum_R, ps_s, ps_n, true_and, and_true, Nat.reduceAdd, Nat.reduceLeDiff, hd2, bi_0, rL0, el, Nat.reduceLT]
    refine ⟨fun c17 => ?_, fun c17 => ?_⟩
    · have e : aTreaty ((L, pg), (laid, op), t, (f, cs), (im, t2, f2, cs2), (q, w, b)) = (nI L, ((0, pg), (laid, op), t, (fu (fu f 4 (-1)) 3 (nI (bnF pg L)), cs), (im, t2, f2, cs2), (q, w, b))) := by
        show (if _ then _ else _) = _
        rw [if_pos ⟨zt, eq_true_of_ne_false c17⟩]
      rw [e] at h
      have hix : ∀ j, j < L → 0 ≤ ixT (pg j) := fun j hj => by
        have z := fsF_ok _ L 0 j (by omega) (by rw [zt.2]; exact hj)
        unfold tOK at z
        rw [Bool.and_eq_true, Bool.and_eq_true, decide_eq_true_eq, decide_eq_true_eq] at z
        exact z.1.2
      refine go_blk [(.aload_n 0, 0, 0, 0), (.getfield 28, 7, 2, 0), (.aload_n 0, 0, 0, 0), (.getfield 12, 7, 0, 0), (.invokevirtual 108, 16, 1, 1)] (by decide +kernel) ?_
      simp only [e_al_0, e_gf_7_2, e_gf_7_0, e_iv_1_1, rd_7_2, rd_7_0, e_nil, nol_n, nol_I, nol_R, rsum_0, rsum_I, rsum_R, ps_s, ps_n, true_and, and_true, Nat.reduceAdd, Nat.reduceLeDiff, hd2, bi_0, rL0, el, Nat.reduceLT]
      refine ok_sign (g := 0) (by omega) rP hix rG (by omega) (fun μ1 tG tO => ?_)
      have z1 := rc_gm hR0 tO.g (rT.off (tO 6 0 (by omega))) tG
      refine go_blk [(.aload_n 0, 0, 0, 0), (.getfield 12, 7, 0, 0), (.invokevirtual 77, 41, 0, 3)] (by decide +kernel) ?_
      simp only [e_al_0, e_gf_7_0, e_iv_3_0, rd_7_0, e_nil, nol_n, nol_I, nol_R, rsum_0, rsum_I, rsum_R, ps_s, ps_n, true_and, and_true, Nat.reduceAdd, Nat.reduceLeDiff, hd2, bi_0, rL0, el, Nat.reduceLT]
      refine ok_empty (L := L) (by rw [tO 3 0 (by omega)]; exact rP.1) ?_
      refine go_blk [(.ireturn, 0, 0, 0)] (by decide +kernel) ?_
      simp only [e_iret0, e_nil, nol_n, nol_I, nol_R, rsum_0, rsum_I, rsum_R, ps_s, ps_n, true_and, and_true, Nat.reduceAdd, Nat.reduceLeDiff, hd2, bi_0, rL0, el, Nat.reduceLT]
      have o3 : ∀ c, ¬ c = 3 → (up μ1 3 0 0 1 0) c = μ1 c := fun c hc => by
        funext i s j
        rw [up_ne (by omega)]
      exact h _ (rc_pg z1.1 o3 (pr_0 (L := L) 0 rfl)) ((o3 8 (by omega)).trans z1.2)
    · have e : aTreaty ((L, pg), (laid, op), t, (f, cs), (im, t2, f2, cs2), (q, w, b)) = (-103, ((L, pg), (laid, op), t, (f, cs), (im, t2, f2, cs2), (q, w, b))) := by
        show (if _ then _ else _) = _
        rw [if_neg (fun z => by rw [c17] at z; cases z.2)]
      rw [e] at h
      refine go_blk [(.bipush (-103), 0, 0, 0), (.ireturn, 0, 0, 0)] (by decide +kernel) ?_
      simp only [e_bp_m103, e_iret0, e_nil, nol_n, nol_I, nol_R, rsum_0, rsum_I, rsum_R, ps_s, ps_n, true_and, and_true, Nat.reduceAdd, Nat.reduceLeDiff, hd2, bi_0, rL0, el, Nat.reduceLT]
      exact h μ hR0 rfl
theorem xc_watch {l : Launch} {K : KK} {d : Nat} {μ : Mm} {P : Option AV → Mm → Prop} {N : Nat} {S : SS} {x : Int32} (hV : Inv N S) (hR : RC μ S) (hd1 : 14 ≤ d) (h : ∀ μ2, RC μ2 ((aWatch x S).2) → Off8 μ μ2 → P (some (vI ((aWatch x S).1))) μ2) : Ok l K d 87 [vR 7 0 0, vI x] μ P := by
  refine ok_go 3 (by decide +kernel) [some (vR 7 0 0), some (vI x), none] rfl (Nat.le_of_ble_eq_true rfl) ?_
  have hR0 := hR
  have hV0 := hV
  obtain ⟨⟨L, pg⟩, ⟨laid, op⟩, t, ⟨f, cs⟩, ⟨im, t2, f2, cs2⟩, q, w, b⟩ := S
  obtain ⟨⟨rP, rC, rW⟩, ⟨rT, rG⟩, ⟨r7, rK⟩, ⟨r8, r9, r10⟩, rN⟩ := hR
  obtain ⟨⟨iL, iP⟩, ⟨iO, iO2⟩, ⟨iT, iF⟩, iK, ⟨iq, iw, ib⟩⟩ := hV
  have hd2 : 1 ≤ d := by omega
  have rL0 := rC.1
  have el := bi_0 laid
  have e28 : (nI w < 20) = (w < 20) := propext (nI_ltI (b := 20) (by omega) (by omega))
  have ew1 : nI w + 1 = nI (w + 1) := nI_1 w
  refine go_blk [(.iload_n 1, 0, 0, 0), (.ifCond .eq 11, 12, 0, 0)] (by decide +kernel) ?_
  simp only [e_il_1, e_if_eq, e_nil, nol_n, nol_I, nol_R, rsum_0, rsum_I, rsum_R, ps_s, ps_n, true_and, and_true, Nat.reduceAdd, Nat.reduceLeDiff, hd2, rL0, el, r9, e28, ew1, Nat.reduceLT]
  refine ⟨fun c1 => ?_, fun c1 => ?_⟩
  · refine go_blk [(.aload_n 0, 0, 0, 0), (.getfield 19, 7, 1, 0), (.getfield 105, 0, 0, 0), (.ifCond .eq 12, 31, 0, 0)] (by decide +kernel) ?_
    simp only [e_al_0, e_gf_7_1, e_gf_0_0, e_if_eq, rd_7_1, rd_0_0, e_nil, nol_n, nol_I, nol_R, rsum_0, rsum_I, rsum_R, ps_s, ps_n, true_and, and_true, Nat.reduceAdd, Nat.reduceLeDiff, hd2, rL0, el, r9, e28, ew1, Nat.reduceLT]
    refine ⟨fun c19 => ?_, fun c19 => ?_⟩
    · have e : aWatch x ((L, pg), (laid, op), t, (f, cs), (im, t2, f2, cs2), (q, w, b)) = (-103, ((L, pg), (laid, op), t, (f, cs), (im, t2, f2, cs2), (q, w, b))) := by
        show (if _ then _ else if _ then _ else _) = _
        rw [if_neg (fun z => z.1 c1), if_pos (Or.inl c19)]
      rw [e] at h
      refine go_blk [(.bipush (-103), 0, 0, 0), (.ireturn, 0, 0, 0)] (by decide +kernel) ?_
      simp only [e_bp_m103, e_iret0, e_nil, nol_n, nol_I, nol_R, rsum_0, rsum_I, rsum_R, ps_s, ps_n, true_and, and_true, Nat.reduceAdd, Nat.reduceLeDiff, hd2, rL0, el, r9, e28, ew1, Nat.reduceLT]
      exact h μ hR0 rfl
    · refine go_blk [(.aload_n 0, 0, 0, 0), (.getfield 64, 7, 9, 0), (.bipush 20, 0, 0, 0), (.if_icmp .lt 6, 34, 0, 0)] (by decide +kernel) ?_
      simp only [e_al_0, e_gf_7_9, e_bp_20, e_icmp_lt, rd_7_9, e_nil, nol_n, nol_I, nol_R, rsum_0, rsum_I, rsum_R, ps_s, ps_n, true_and, and_true, Nat.reduceAdd, Nat.reduceLeDiff, hd2, rL0, el, r9, e28, ew1, Nat.reduceLT]
      refine ⟨fun c28 => ?_, fun c28 => ?_⟩
      · have e : aWatch x ((L, pg), (laid, op), t, (f, cs), (im, t2, f2, cs2), (q, w, b)) = (if x = 0 then nI (pop (cF op op)) else nI (cF op op), ((L, pg), (laid, op), t, (f, cs), (im, t2, f2, cs2), (q, w + 1, b))) := by
          show (if _ then _ else if _ then _ else _) = _
          rw [if_neg (fun z => z.1 c1), if_neg (fun z => z.elim c19 (fun y => by omega))]
        rw [e] at h
        have hl := eq_true_of_ne_false c19
        subst hl
        refine go_blk [(.aload_n 0, 0, 0, 0), (.dup, 0, 0, 0), (.getfield 64, 7, 9, 0), (.iconst 1, 0, 0, 0), (.iadd, 0, 0, 0), (.putfield 64, 7, 9, 0)] (by decide +kernel) ?_
        simp only [e_al_0, e_dupI, e_dupR, e_gf_7_9, e_ic_1, e_iadd, e_pf_7_9, rd_7_9, e_nil, nol_n, nol_I, nol_R, rsum_0, rsum_I, rsum_R, ps_s, ps_n, true_and, and_true, Nat.reduceAdd, Nat.reduceLeDiff, hd2, rL0, el, r9, e28, ew1, Nat.reduceLT]
        refine go_blk [(.aload_n 0, 0, 0, 0), (.getfield 19, 7, 1, 0), (.invokevirtual 192, 8, 0, 0)] (by decide +kernel) ?_
        simp only [e_al_0, e_gf_7_1, e_iv_0_0, rd_7_1, e_nil, nol_n, nol_I, nol_R, rsum_0, rsum_I, rsum_R, ps_s, ps_n, true_and, and_true, Nat.reduceAdd, Nat.reduceLeDiff, hd2, rL0, el, r9, e28, ew1, Nat.reduceLT]
        have oU : ∀ c, ¬ c = 7 → (up μ 7 0 0 9 (nI (w + 1))) c = μ c := fun c hc => by funext i s j; rw [up_ne (by omega)]
        refine ok_fewest (rC.off (by rw [oU 0 (by omega)])) (by unfold WRep; rw [oU 0 (by omega)]; exact rW rfl) (by omega) (fun μ1 w1 c1' o1 => ?_)
        have cl := cF_le op op (Nat.le_refl op)
        refine go_blk [(.istore_n 2, 0, 0, 0), (.iload_n 1, 0, 0, 0), (.ifCond .ne 10, 63, 0, 0)] (by decide +kernel) ?_
        simp only [e_is_2n, e_is_2I, e_is_2R, e_il_1, e_if_ne, e_nil, nol_n, nol_I, nol_R, rsum_0, rsum_I, rsum_R, ps_s, ps_n, true_and, and_true, Nat.reduceAdd, Nat.reduceLeDiff, hd2, rL0, el, r9, e28, ew1, Nat.reduceLT]
        refine ⟨fun c53 => ?_, fun c53 => ?_⟩
        · rw [if_neg c53] at h
          refine go_blk [(.iload_n 2, 0, 0, 0), (.ireturn, 0, 0, 0)] (by decide +kernel) ?_
          simp only [e_il_2, e_iret0, e_nil, nol_n, nol_I, nol_R, rsum_0, rsum_I, rsum_R, ps_s, ps_n, true_and, and_true, Nat.reduceAdd, Nat.reduceLeDiff, hd2, rL0, el, r9, e28, ew1, Nat.reduceLT]
          refine h μ1 ⟨⟨rP.off (by rw [o1 3 (by omega), oU 3 (by omega)]), c1', fun _ => Or.inr w1⟩, ⟨rT.off (by rw [o1 6 (by omega), oU 6 (by omega)]), rG.off (by rw [o1 1 (by omega), oU 1 (by omega)])⟩, ⟨by rw [o1 7 (by omega), up_ne (by omega)]; exact r7, fun z => ⟨(rK z).1.off (by rw [o1 6 (by omega), oU 6 (by omega)]), (rK z).2.off (by rw [o1 1 (by omega), oU 1 (by omega)])⟩⟩, ⟨by rw [o1 7 (by omega), up_ne (by omega)]; exact r8, by rw [o1 7 (by omega), up_self], by rw [o1 7 (by omega), up_ne (by omega)]; exact r10⟩, by unfold NtR; rw [o1 2 (by omega), oU 2 (by omega)]; exact rN⟩ (by unfold Off8; rw [o1 8 (by omega), oU 8 (by omega)])
        · rw [if_pos c53] at h
          refine go_blk [(.iload_n 2, 0, 0, 0), (.invokestatic 195, 178, 1, 0)] (by decide +kernel) ?_
          simp only [e_il_2, e_ivs_1, e_nil, Nat.reduceLT, nol_n, nol_I, nol_R, rsum_0, rsum_I, rsum_R, ps_s, ps_n, true_and, and_true, Nat.reduceAdd, Nat.reduceLeDiff, hd2, rL0, el, r9, e28, ew1, Nat.reduceLT]
          refine ok_bitCount (by omega) ?_
          refine go_blk [(.goto 4, 64, 0, 0), (.ireturn, 0, 0, 0)] (by decide +kernel) ?_
          simp only [e_goto, e_iret0, e_nil, nol_n, nol_I, nol_R, rsum_0, rsum_I, rsum_R, ps_s, ps_n, true_and, and_true, Nat.reduceAdd, Nat.reduceLeDiff, hd2, rL0, el, r9, e28, ew1, Nat.reduceLT]
          refine h μ1 ⟨⟨rP.off (by rw [o1 3 (by omega), oU 3 (by omega)]), c1', fun _ => Or.inr w1⟩, ⟨rT.off (by rw [o1 6 (by omega), oU 6 (by omega)]), rG.off (by rw [o1 1 (by omega), oU 1 (by omega)])⟩, ⟨by rw [o1 7 (by omega), up_ne (by omega)]; exact r7, fun z => ⟨(rK z).1.off (by rw [o1 6 (by omega), oU 6 (by omega)]), (rK z).2.off (by rw [o1 1 (by omega), oU 1 (by omega)])⟩⟩, ⟨by rw [o1 7 (by omega), up_ne (by omega)]; exact r8, by rw [o1 7 (by omega), up_self], by rw [o1 7 (by omega), up_ne (by omega)]; exact r10⟩, by unfold NtR; rw [o1 2 (by omega), oU 2 (by omega)]; exact rN⟩ (by unfold Off8; rw [o1 8 (by omega), oU 8 (by omega)])
      · have e : aWatch x ((L, pg), (laid, op), t, (f, cs), (im, t2, f2, cs2), (q, w, b)) = (-103, ((L, pg), (laid, op), t, (f, cs), (im, t2, f2, cs2), (q, w, b))) := by
          show (if _ then _ else if _ then _ else _) = _
          rw [if_neg (fun z => z.1 c1), if_pos (Or.inr (by omega))]
        rw [e] at h
        refine go_blk [(.bipush (-103), 0, 0, 0), (.ireturn, 0, 0, 0)] (by decide +kernel) ?_
        simp only [e_bp_m103, e_iret0, e_nil, nol_n, nol_I, nol_R, rsum_0, rsum_I, rsum_R, ps_s, ps_n, true_and, and_true, Nat.reduceAdd, Nat.reduceLeDiff, hd2, rL0, el, r9, e28, ew1, Nat.reduceLT]
        exact h μ hR0 rfl
  · refine go_blk [(.iload_n 1, 0, 0, 0), (.iconst 1, 0, 0, 0), (.if_icmp .eq 6, 12, 0, 0)] (by decide +kernel) ?_
    simp only [e_il_1, e_ic_1, e_icmp_eq, e_nil, nol_n, nol_I, nol_R, rsum_0, rsum_I, rsum_R, ps_s, ps_n, true_and, and_true, Nat.reduceAdd, Nat.reduceLeDiff, hd2, rL0, el, r9, e28, ew1, Nat.reduceLT]
    refine ⟨fun c6 => ?_, fun c6 => ?_⟩
    · refine go_blk [(.aload_n 0, 0, 0, 0), (.getfield 19, 7, 1, 0), (.getfield 105, 0, 0, 0), (.ifCond .eq 12, 31, 0, 0)] (by decide +kernel) ?_
      simp only [e_al_0, e_gf_7_1, e_gf_0_0, e_if_eq, rd_7_1, rd_0_0, e_nil, nol_n, nol_I, nol_R, rsum_0, rsum_I, rsum_R, ps_s, ps_n, true_and, and_true, Nat.reduceAdd, Nat.reduceLeDiff, hd2, rL0, el, r9, e28, ew1, Nat.reduceLT]
      refine ⟨fun c19 => ?_, fun c19 => ?_⟩
      · have e : aWatch x ((L, pg), (laid, op), t, (f, cs), (im, t2, f2, cs2), (q, w, b)) = (-103, ((L, pg), (laid, op), t, (f, cs), (im, t2, f2, cs2), (q, w, b))) := by
          show (if _ then _ else if _ then _ else _) = _
          rw [if_neg (fun z => z.2 c6), if_pos (Or.inl c19)]
        rw [e] at h
        refine go_blk [(.bipush (-103), 0, 0, 0), (.ireturn, 0, 0, 0)] (by decide +kernel) ?_
        simp only [e_bp_m103, e_iret0, e_nil, nol_n, nol_I, nol_R, rsum_0, rsum_I, rsum_R, ps_s, ps_n, true_and, and_true, Nat.reduceAdd, Nat.reduceLeDiff, hd2, rL0, el, r9, e28, ew1, Nat.reduceLT]
        exact h μ hR0 rfl
      · refine go_blk [(.aload_n 0, 0, 0, 0), (.getfield 64, 7, 9, 0), (.bipush 20, 0, 0, 0), (.if_icmp .lt 6, 34, 0, 0)] (by decide +kernel) ?_
        simp only [e_al_0, e_gf_7_9, e_bp_20, e_icmp_lt, rd_7_9, e_nil, nol_n, nol_I, nol_R, rsum_0, rsum_I, rsum_R, ps_s, ps_n, true_and, and_true, Nat.reduceAdd, Nat.reduceLeDiff, hd2, rL0, el, r9, e28, ew1, Nat.reduceLT]
        refine ⟨fun c28 => ?_, fun c28 => ?_⟩
        · have e : aWatch x ((L, pg), (laid, op), t, (f, cs), (im, t2, f2, cs2), (q, w, b)) = (if x = 0 then nI (pop (cF op op)) else nI (cF op op), ((L, pg), (laid, op), t, (f, cs), (im, t2, f2, cs2), (q, w + 1, b))) := by
            show (if _ then _ else if _ then _ else _) = _
            rw [if_neg (fun z => z.2 c6), if_neg (fun z => z.elim c19 (fun y => by omega))]
          rw [e] at h
          have hl := eq_true_of_ne_false c19
          subst hl
          refine go_blk [(.aload_n 0, 0, 0, 0), (.dup, 0, 0, 0), (.getfield 64, 7, 9, 0), (.iconst 1, 0, 0, 0), (.iadd, 0, 0, 0), (.putfield 64, 7, 9, 0)] (by decide +kernel) ?_
          simp only [e_al_0, e_dupI, e_dupR, e_gf_7_9, e_ic_1, e_iadd, e_pf_7_9, rd_7_9, e_nil, nol_n, nol_I, nol_R, rsum_0, rsum_I, rsum_R, ps_s, ps_n, true_and, and_true, Nat.reduceAdd, Nat.reduceLeDiff, hd2, rL0, el, r9, e28, ew1, Nat.reduceLT]
          refine go_blk [(.aload_n 0, 0, 0, 0), (.getfield 19, 7, 1, 0), (.invokevirtual 192, 8, 0, 0)] (by decide +kernel) ?_
          simp only [e_al_0, e_gf_7_1, e_iv_0_0, rd_7_1, e_nil, nol_n, nol_I, nol_R, rsum_0, rsum_I, rsum_R, ps_s, ps_n, true_and, and_true, Nat.reduceAdd, Nat.reduceLeDiff, hd2, rL0, el, r9, e28, ew1, Nat.reduceLT]
          have oU : ∀ c, ¬ c = 7 → (up μ 7 0 0 9 (nI (w + 1))) c = μ c := fun c hc => by funext i s j; rw [up_ne (by omega)]
          refine ok_fewest (rC.off (by rw [oU 0 (by omega)])) (by unfold WRep; rw [oU 0 (by omega)]; exact rW rfl) (by omega) (fun μ1 w1 c1' o1 => ?_)
          have cl := cF_le op op (Nat.le_refl op)
          refine go_blk [(.istore_n 2, 0, 0, 0), (.iload_n 1, 0, 0, 0), (.ifCond .ne 10, 63, 0, 0)] (by decide +kernel) ?_
          simp only [e_is_2n, e_is_2I, e_is_2R, e_il_1, e_if_ne, e_nil, nol_n, nol_I, nol_R, rsum_0, rsum_I, rsum_R, ps_s, ps_n, true_and, and_true, Nat.reduceAdd, Nat.reduceLeDiff, hd2, rL0, el, r9, e28, ew1, Nat.reduceLT]
          refine ⟨fun c53 => ?_, fun c53 => ?_⟩
          · rw [if_neg c53] at h
            refine go_blk [(.iload_n 2, 0, 0, 0), (.ireturn, 0, 0, 0)] (by decide +kernel) ?_
            simp only [e_il_2, e_iret0, e_nil, nol_n, nol_I, nol_R, rsum_0, rsum_I, rsum_R, ps_s, ps_n, true_and, and_true, Nat.reduceAdd, Nat.reduceLeDiff, hd2, rL0, el, r9, e28, ew1, Nat.reduceLT]
            refine h μ1 ⟨⟨rP.off (by rw [o1 3 (by omega), oU 3 (by omega)]), c1', fun _ => Or.inr w1⟩, ⟨rT.off (by rw [o1 6 (by omega), oU 6 (by omega)]), rG.off (by rw [o1 1 (by omega), oU 1 (by omega)])⟩, ⟨by rw [o1 7 (by omega), up_ne (by omega)]; exact r7, fun z => ⟨(rK z).1.off (by rw [o1 6 (by omega), oU 6 (by omega)]), (rK z).2.off (by rw [o1 1 (by omega), oU 1 (by omega)])⟩⟩, ⟨by rw [o1 7 (by omega), up_ne (by omega)]; exact r8, by rw [o1 7 (by omega), up_self], by rw [o1 7 (by omega), up_ne (by omega)]; exact r10⟩, by unfold NtR; rw [o1 2 (by omega), oU 2 (by omega)]; exact rN⟩ (by unfold Off8; rw [o1 8 (by omega), oU 8 (by omega)])
          · rw [if_pos c53] at h
            refine go_blk [(.iload_n 2, 0, 0, 0), (.invokestatic 195, 178, 1, 0)] (by decide +kernel) ?_
            simp only [e_il_2, e_ivs_1, e_nil, Nat.reduceLT, nol_n, nol_I, nol_R, rsum_0, rsum_I, rsum_R, ps_s, ps_n, true_and, and_true, Nat.reduceAdd, Nat.reduceLeDiff, hd2, rL0, el, r9, e28, ew1, Nat.reduceLT]
            refine ok_bitCount (by omega) ?_
            refine go_blk [(.goto 4, 64, 0, 0), (.ireturn, 0, 0, 0)] (by decide +kernel) ?_
            simp only [e_goto, e_iret0, e_nil, nol_n, nol_I, nol_R, rsum_0, rsum_I, rsum_R, ps_s, ps_n, true_and, and_true, Nat.reduceAdd, Nat.reduceLeDiff, hd2, rL0, el, r9, e28, ew1, Nat.reduceLT]
            refine h μ1 ⟨⟨rP.off (by rw [o1 3 (by omega), oU 3 (by omega)]), c1', fun _ => Or.inr w1⟩, ⟨rT.off (by rw [o1 6 (by omega), oU 6 (by omega)]), rG.off (by rw [o1 1 (by omega), oU 1 (by omega)])⟩, ⟨by rw [o1 7 (by omega), up_ne (by omega)]; exact r7, fun z => ⟨(rK z).1.off (by rw [o1 6 (by omega), oU 6 (by omega)]), (rK z).2.off (by rw [o1 1 (by omega), oU 1 (by omega)])⟩⟩, ⟨by rw [o1 7 (by omega), up_ne (by omega)]; exact r8, by rw [o1 7 (by omega), up_self], by rw [o1 7 (by omega), up_ne (by omega)]; exact r10⟩, by unfold NtR; rw [o1 2 (by omega), oU 2 (by omega)]; exact rN⟩ (by unfold Off8; rw [o1 8 (by omega), oU 8 (by omega)])
        · have e : aWatch x ((L, pg), (laid, op), t, (f, cs), (im, t2, f2, cs2), (q, w, b)) = (-103, ((L, pg), (laid, op), t, (f, cs), (im, t2, f2, cs2), (q, w, b))) := by
            show (if _ then _ else if _ then _ else _) = _
            rw [if_neg (fun z => z.2 c6), if_pos (Or.inr (by omega))]
          rw [e] at h
          refine go_blk [(.bipush (-103), 0, 0, 0), (.ireturn, 0, 0, 0)] (by decide +kernel) ?_
          simp only [e_bp_m103, e_iret0, e_nil, nol_n, nol_I, nol_R, rsum_0, rsum_I, rsum_R, ps_s, ps_n, true_and, and_true, Nat.reduceAdd, Nat.reduceLeDiff, hd2, rL0, el, r9, e28, ew1, Nat.reduceLT]
          exact h μ hR0 rfl
    · have e : aWatch x ((L, pg), (laid, op), t, (f, cs), (im, t2, f2, cs2), (q, w, b)) = (-102, ((L, pg), (laid, op), t, (f, cs), (im, t2, f2, cs2), (q, w, b))) := by
        show (if _ then _ else if _ then _ else _) = _
        rw [if_pos ⟨c1, c6⟩]
      rw [e] at h
      refine go_blk [(.bipush (-102), 0, 0, 0), (.ireturn, 0, 0, 0)] (by decide +kernel) ?_
      simp only [e_bp_m102, e_iret0, e_nil, nol_n, nol_I, nol_R, rsum_0, rsum_I, rsum_R, ps_s, ps_n, true_and, and_true, Nat.reduceAdd, Nat.reduceLeDiff, hd2, rL0, el, r9, e28, ew1, Nat.reduceLT]
      exact h μ hR0 rfl
