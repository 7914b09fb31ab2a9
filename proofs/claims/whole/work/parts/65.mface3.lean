theorem xm_treaty {l : Launch} {K : KK} {d : Nat} {μ : Mm} {P : Option AV → Mm → Prop} {N : Nat} {S : SS} (hV : Inv N S) (hR : RM μ S) (hd1 : 14 ≤ d) (h : ∀ μ2, RM μ2 ((aTreaty S).2) → OffX μ μ2 → P (some (vI ((aTreaty S).1))) μ2) : Ok l K d 115 [vR 8 0 0] μ P := by
  refine ok_go 1 (by decide +kernel) [some (vR 8 0 0)] rfl (Nat.le_of_ble_eq_true rfl) ?_
  have hR0 := hR
  have hV0 := hV
  obtain ⟨⟨L, pg⟩, ⟨laid, op⟩, t, ⟨f, cs⟩, ⟨im, t2, f2, cs2⟩, q, w, b⟩ := S
  obtain ⟨⟨rP, r0, r2⟩, ⟨rM, rG⟩, ⟨rK, rK2⟩, ⟨r1, r17, r18⟩⟩ := hR
  obtain ⟨⟨iL, iP⟩, ⟨iO, iO2⟩, ⟨iT, iF⟩, iK, ⟨iq, iw, ib⟩⟩ := hV
  have hd2 : 1 ≤ d := by omega
  have rL := rP.1
  have e4 : (nI L = 0) = (L = 0) := propext (nI_eq (b := 0) (by omega) (by omega))
  have fl := fsF_le (tOK pg) L 0
  have e15 : (nI (fsF (tOK pg) L 0) = nI L) = (fsF (tOK pg) L 0 = L) := propext (nI_eq (by omega) (by omega))
  refine go_blk [(.aload_n 0, 0, 0, 0), (.getfield 55, 8, 19, 0), (.ifCond .eq 21, 25, 0, 0)] (by decide +kernel) ?_
  simp only [e_al_0, e_gf_8_19, e_if_eq, rd_8_19, e_nil, nol_n, nol_I, nol_R, rsum_0, rsum_I, rsum_R, ps_s, ps_n, true_and, and_true, Nat.reduceAdd, Nat.reduceLeDiff, hd2, bi_0, rL, e4, e15, Classical.not_not]
  refine ⟨fun c4 => ?_, fun c4 => ?_⟩
  · have e : aTreaty ((L, pg), (laid, op), t, (f, cs), (im, t2, f2, cs2), (q, w, b)) = (-103, ((L, pg), (laid, op), t, (f, cs), (im, t2, f2, cs2), (q, w, b))) := by
      show (if _ then _ else _) = _
      rw [if_neg (fun z => by have := z.1.1; omega)]
    rw [e] at h
    refine go_blk [(.bipush (-103), 0, 0, 0), (.ireturn, 0, 0, 0)] (by decide +kernel) ?_
    simp only [e_bp_m103, e_iret0, e_nil, nol_n, nol_I, nol_R, rsum_0, rsum_I, rsum_R, ps_s, ps_n, true_and, and_true, Nat.reduceAdd, Nat.reduceLeDiff, hd2, bi_0, rL, e4, e15, Classical.not_not]
    exact h μ hR0 (offx_rf μ)
  · refine go_blk [(.aload_n 0, 0, 0, 0), (.invokevirtual 77, 112, 0, 8)] (by decide +kernel) ?_
    simp only [e_al_0, e_iv_8_0, e_nil, nol_n, nol_I, nol_R, rsum_0, rsum_I, rsum_R, ps_s, ps_n, true_and, and_true, Nat.reduceAdd, Nat.reduceLeDiff, hd2, bi_0, rL, e4, e15, Classical.not_not]
    refine okm_fot rP iL iP (by omega) (fun μ1 o1 a1 => ?_)
    have g19 : μ1 8 0 0 19 = nI L := (o1 8 0 0 19 (by omega)).trans rL
    have g0 : μ1 8 0 0 0 = bi laid := (o1 8 0 0 0 (by omega)).trans r0
    refine go_blk [(.aload_n 0, 0, 0, 0), (.getfield 55, 8, 19, 0), (.if_icmp .ne 10, 25, 0, 0)] (by decide +kernel) ?_
    simp only [e_al_0, e_gf_8_19, e_icmp_ne, rd_8_19, e_nil, nol_n, nol_I, nol_R, rsum_0, rsum_I, rsum_R, ps_s, ps_n, true_and, and_true, Nat.reduceAdd, Nat.reduceLeDiff, hd2, bi_0, rL, e4, e15, Classical.not_not, g19, g0]
    refine ⟨fun c15 => ?_, fun c15 => ?_⟩
    · have e : aTreaty ((L, pg), (laid, op), t, (f, cs), (im, t2, f2, cs2), (q, w, b)) = (-103, ((L, pg), (laid, op), t, (f, cs), (im, t2, f2, cs2), (q, w, b))) := by
        show (if _ then _ else _) = _
        rw [if_neg (fun z => c15 z.1.2)]
      rw [e] at h
      refine go_blk [(.bipush (-103), 0, 0, 0), (.ireturn, 0, 0, 0)] (by decide +kernel) ?_
      simp only [e_bp_m103, e_iret0, e_nil, nol_n, nol_I, nol_R, rsum_0, rsum_I, rsum_R, ps_s, ps_n, true_and, and_true, Nat.reduceAdd, Nat.reduceLeDiff, hd2, bi_0, rL, e4, e15, Classical.not_not, g19, g0]
      have z2 := rm_scr hR0 (fun c i s j hc => o1 c i s j (fun z => hc ⟨z.1, z.2.1, Or.inl ⟨z.2.2.1, by omega⟩⟩)) (mr_off rM (fun s j hs => o1 8 0 s j (by omega)))
      exact h μ1 z2.1 z2.2
    · rw [c15] at a1
      refine go_blk [(.aload_n 0, 0, 0, 0), (.getfield 89, 8, 0, 0), (.ifCond .ne 6, 28, 0, 0)] (by decide +kernel) ?_
      simp only [e_al_0, e_gf_8_0, e_if_ne, rd_8_0, e_nil, nol_n, nol_I, nol_R, rsum_0, rsum_I, rsum_R, ps_s, ps_n, true_and, and_true, Nat.reduceAdd, Nat.reduceLeDiff, hd2, bi_0, rL, e4, e15, Classical.not_not, g19, g0, a1]
      refine ⟨fun c22 => ?_, fun c22 => ?_⟩
      · have e : aTreaty ((L, pg), (laid, op), t, (f, cs), (im, t2, f2, cs2), (q, w, b)) = (nI L, ((0, pg), (laid, op), t, (fu (fu f 4 (-1)) 3 (nI (bnF pg L)), cs), (im, t2, f2, cs2), (q, w, b))) := by
          show (if _ then _ else _) = _
          rw [if_pos ⟨⟨by omega, c15⟩, eq_true_of_ne_false c22⟩]
        rw [e] at h
        have tk : ∀ j, j < L → tOK pg j = true := fun j hj => fsF_ok _ L 0 j (by omega) (by rw [c15]; exact hj)
        have hx2 : ∀ j, j < L → 0 ≤ ixT (pg j) := fun j hj => by
          have z := tk j hj
          unfold tOK at z
          rw [Bool.and_eq_true, Bool.and_eq_true, decide_eq_true_eq, decide_eq_true_eq] at z
          exact z.1.2
        have bl := bnF_lt (pg := pg) L (fun j hj => ⟨by have := iP j hj; omega, hx2 j hj⟩)
        have us : ∀ (m : Mm) v1 v2 v3, up (up (up m 8 0 0 13 v1) 8 0 0 14 v2) 8 0 0 19 v3 8 0 0 13 = v1 := fun m v1 v2 v3 => by rw [up_ne (by omega), up_ne (by omega), up_self]
        refine go_blk [(.aload_n 0, 0, 0, 0), (.aload_n 0, 0, 0, 0), (.getfield 62, 8, 21, 0), (.putfield 111, 8, 13, 0)] (by decide +kernel) ?_
        simp only [e_al_0, e_gf_8_21, e_pf_8_13, rd_8_21, e_nil, nol_n, nol_I, nol_R, rsum_0, rsum_I, rsum_R, ps_s, ps_n, true_and, and_true, Nat.reduceAdd, Nat.reduceLeDiff, hd2, bi_0, rL, e4, e15, Classical.not_not, g19, g0, a1, us]
        refine go_blk [(.aload_n 0, 0, 0, 0), (.iconst (-1), 0, 0, 0), (.putfield 20, 8, 14, 0)] (by decide +kernel) ?_
        simp only [e_al_0, e_ic_m1, e_pf_8_14, e_nil, nol_n, nol_I, nol_R, rsum_0, rsum_I, rsum_R, ps_s, ps_n, true_and, and_true, Nat.reduceAdd, Nat.reduceLeDiff, hd2, bi_0, rL, e4, e15, Classical.not_not, g19, g0, a1, us]
        refine go_blk [(.aload_n 0, 0, 0, 0), (.iconst 0, 0, 0, 0), (.putfield 55, 8, 19, 0)] (by decide +kernel) ?_
        simp only [e_al_0, e_ic_0, e_pf_8_19, e_nil, nol_n, nol_I, nol_R, rsum_0, rsum_I, rsum_R, ps_s, ps_n, true_and, and_true, Nat.reduceAdd, Nat.reduceLeDiff, hd2, bi_0, rL, e4, e15, Classical.not_not, g19, g0, a1, us]
        refine go_blk [(.aload_n 0, 0, 0, 0), (.getfield 111, 8, 13, 0), (.invokestatic 117, 105, 1, 0)] (by decide +kernel) ?_
        simp only [e_al_0, e_gf_8_13, e_ivs_1, rd_8_13, e_nil, Nat.reduceLT, nol_n, nol_I, nol_R, rsum_0, rsum_I, rsum_R, ps_s, ps_n, true_and, and_true, Nat.reduceAdd, Nat.reduceLeDiff, hd2, bi_0, rL, e4, e15, Classical.not_not, g19, g0, a1, us]
        refine okm_size (by omega) ?_
        rw [pop_bn iP tk L (Nat.le_refl _)]
        refine go_blk [(.ireturn, 0, 0, 0)] (by decide +kernel) ?_
        simp only [e_iret0, e_nil, nol_n, nol_I, nol_R, rsum_0, rsum_I, rsum_R, ps_s, ps_n, true_and, and_true, Nat.reduceAdd, Nat.reduceLeDiff, hd2, bi_0, rL, e4, e15, Classical.not_not, g19, g0, a1, us]
        have m1 := rm_scr hR0 (fun c i s j hc => o1 c i s j (fun z => hc ⟨z.1, z.2.1, Or.inl ⟨z.2.2.1, by omega⟩⟩)) (mr_off rM (fun s j hs => o1 8 0 s j (by omega)))
        obtain ⟨⟨-, -, -⟩, ⟨nM, nG⟩, -, -⟩ := id m1.1
        have m2 := rm_gm (μ2 := up (up μ1 8 0 0 13 (nI (bnF pg L))) 8 0 0 14 (-1)) (t' := t) (f' := fu (fu f 4 (-1)) 3 (nI (bnF pg L))) (cs' := cs) m1.1 (fun c i s j hc => by rw [up_ne (by omega), up_ne (by omega)]) (mr_off nM (fun s j hs => by rw [up_ne (by omega), up_ne (by omega)])) ⟨⟨by rw [up_ne (by omega), up_ne (by omega), fu_ne (by omega), fu_ne (by omega)]; exact nG.1.1, by rw [up_ne (by omega), up_ne (by omega), fu_ne (by omega), fu_ne (by omega)]; exact nG.1.2.1, by rw [up_ne (by omega), up_self, fu_self], by rw [up_self, fu_ne (by omega), fu_self], by rw [up_ne (by omega), up_ne (by omega), fu_ne (by omega), fu_ne (by omega)]; exact nG.1.2.2.2.2⟩, fun j hj => by rw [up_ne (by omega), up_ne (by omega)]; exact nG.2 j hj⟩
        have m3 := rm_pg (L' := 0) (pg' := pg) (μ2 := up (up (up μ1 8 0 0 13 (nI (bnF pg L))) 8 0 0 14 (-1)) 8 0 0 19 0) m2.1 (fun c i s j hc => by rw [up_ne (by omega)]) ⟨up_self _ _ _ _ _ _, fun j hj => by omega⟩
        exact h _ m3.1 (fun c hc => (m3.2 c hc).trans ((m2.2 c hc).trans (m1.2 c hc)))
      · have e : aTreaty ((L, pg), (laid, op), t, (f, cs), (im, t2, f2, cs2), (q, w, b)) = (-103, ((L, pg), (laid, op), t, (f, cs), (im, t2, f2, cs2), (q, w, b))) := by
          show (if _ then _ else _) = _
          rw [if_neg (fun z => by rw [c22] at z; cases z.2)]
        rw [e] at h
        refine go_blk [(.bipush (-103), 0, 0, 0), (.ireturn, 0, 0, 0)] (by decide +kernel) ?_
        simp only [e_bp_m103, e_iret0, e_nil, nol_n, nol_I, nol_R, rsum_0, rsum_I, rsum_R, ps_s, ps_n, true_and, and_true, Nat.reduceAdd, Nat.reduceLeDiff, hd2, bi_0, rL, e4, e15, Classical.not_not, g19, g0, a1]
        have z2 := rm_scr hR0 (fun c i s j hc => o1 c i s j (fun z => hc ⟨z.1, z.2.1, Or.inl ⟨z.2.2.1, by omega⟩⟩)) (mr_off rM (fun s j hs => o1 8 0 s j (by omega)))
        exact h μ1 z2.1 z2.2
def O2 (μ μ2 : Mm) : Prop := ∀ c i s j, ¬ (c = 8 ∧ i = 0 ∧ s = 0 ∧ j = 2) → μ2 c i s j = μ c i s j
theorem opF_or (pg : Nat → Nat) (c : Nat) : opF pg (c + 1) = opF pg c ||| (if pg (c + c / 5) = 46 then 2 ^ c else 0) := rfl
theorem lp_mlay {l : Launch} {K : KK} {d : Nat} {P : Option AV → Mm → Prop} {μ0 : Mm} {pg : Nat → Nat} (hP : MPg μ0 20 pg) (hpg : ∀ j, j < 20 → pg j < 127) (hk : ∀ μ2, O2 μ0 μ2 → μ2 8 0 0 2 = nI (opF pg 15) → ∀ x, Go l K d 114 73 [some (vR 8 0 0), some (vI x)] [] μ2 P) : ∀ (r e : Nat) (μ : Mm), e + r = 15 → O2 μ0 μ → μ 8 0 0 2 = nI (opF pg e) → Go l K d 114 30 [some (vR 8 0 0), some (vI (nI e))] [] μ P := by
  intro r
  induction r with
  | zero =>
    intro e μ he hO h2
    have e0 : e = 15 := by omega
    subst e0
    refine go_blk [(.iload_n 1, 0, 0, 0), (.bipush 15, 0, 0, 0), (.if_icmp .ge 40, 73, 0, 0)] (by decide +kernel) ?_
    simp only [e_il_1, e_bp_15, e_icmp_ge, e_nil, nol_n, nol_I, nol_R, rsum_0, rsum_I, rsum_R, ps_s, ps_n, true_and, and_true, Nat.reduceAdd, Nat.reduceLeDiff]
    refine ⟨fun c33 => ?_, fun c33 => ?_⟩
    · exact hk μ hO h2 _
    · exact absurd (by decide) c33
  | succ r ih =>
    intro e μ he hO h2
    have n5 : ((5 : Int32) = 0) = False := by decide
    obtain ⟨pc0, hpc⟩ : ∃ z, z = e + e / 5 := ⟨_, rfl⟩
    have ea : nI e + nI e / 5 = nI pc0 := by rw [show nI e / 5 = nI (e / 5) from pk_div (d := 5) (by omega) (by omega) (by omega), nI_add, hpc]
    have v1 : vp_in (nI pc0) 22 := vin (by omega) (by omega)
    have x1 : ix (nI pc0) = pc0 := nI_ix (by omega)
    have p1 : μ 8 0 21 pc0 = nI (pg pc0) := (hO 8 0 21 pc0 (by omega)).trans (hP.2 pc0 (by omega))
    have pl := hpg pc0 (by omega)
    have e53 : (nI (pg pc0) = 46) = (pg pc0 = 46) := propext (nI_eq (b := 46) (by omega) (by omega))
    have es := nI_shl (c := e) (by omega)
    have z0 : nI (opF pg e) ||| 0 = nI (opF pg e) := by rw [← nI_0, nI_or, Nat.or_zero]
    have u := opF_or pg e
    rw [← hpc] at u
    have g : ∀ v, v = nI (opF pg (e + 1)) → Go l K d 114 30 [some (vR 8 0 0), some (vI (nI (e + 1)))] [] (up μ 8 0 0 2 v) P := fun v hv => ih (e + 1) _ (by omega) (fun c i s j hc => (up_ne (by omega)).trans (hO c i s j hc)) ((up_self _ _ _ _ _ _).trans hv)
    refine go_blk [(.iload_n 1, 0, 0, 0), (.bipush 15, 0, 0, 0), (.if_icmp .ge 40, 73, 0, 0)] (by decide +kernel) ?_
    simp only [e_il_1, e_bp_15, e_icmp_ge, e_nil, nol_n, nol_I, nol_R, rsum_0, rsum_I, rsum_R, ps_s, ps_n, true_and, and_true, Nat.reduceAdd, Nat.reduceLeDiff, n5, ea, v1, x1, p1, e53, es, z0, h2, nI_or, true_implies, false_implies, not_true_eq_false, not_false_eq_true]
    refine ⟨fun c33 => ?_, fun c33 => ?_⟩
    · exact absurd c33 (nI_ge (b := 15) (by omega) (by omega))
    · refine go_blk [(.aload_n 0, 0, 0, 0), (.dup, 0, 0, 0), (.getfield 80, 8, 2, 0), (.aload_n 0, 0, 0, 0), (.getfield 26, 8, 20, 0), (.iload_n 1, 0, 0, 0), (.iload_n 1, 0, 0, 0), (.iconst 5, 0, 0, 0), (.idiv, 0, 0, 0), (.iadd, 0, 0, 0)] (by decide +kernel) ?_
      simp only [e_al_0, e_dupI, e_dupR, e_gf_8_2, e_gf_8_20, e_il_1, e_ic_5, e_idiv, e_iadd, rd_8_2, rd_8_20, e_nil, nol_n, nol_I, nol_R, rsum_0, rsum_I, rsum_R, ps_s, ps_n, true_and, and_true, Nat.reduceAdd, Nat.reduceLeDiff, n5, ea, v1, x1, p1, e53, es, z0, h2, nI_or, true_implies, false_implies, not_true_eq_false, not_false_eq_true]
      refine go_blk [(.baload, 3, 0, 0)] (by decide +kernel) ?_
      simp only [e_ba, ai_0_4, ai_1_7, ai_2_1, ai_2_2, ai_3_1, ai_4_1, ai_6_3, ai_6_4, ai_6_5, ai_6_6, ai_6_7, ai_6_8, ai_8_5, ai_8_6, ai_8_17, ai_8_21, ai_8_23, ai_8_24, ai_8_27, ai_8_28, ai_8_38, ai_8_39, ai_8_40, e_nil, nol_n, nol_I, nol_R, rsum_0, rsum_I, rsum_R, ps_s, ps_n, true_and, and_true, Nat.reduceAdd, Nat.reduceLeDiff, n5, ea, v1, x1, p1, e53, es, z0, h2, nI_or, true_implies, false_implies, not_true_eq_false, not_false_eq_true]
      refine go_blk [(.bipush 46, 0, 0, 0), (.if_icmp .ne 9, 62, 0, 0)] (by decide +kernel) ?_
      simp only [e_bp_46, e_icmp_ne, e_nil, nol_n, nol_I, nol_R, rsum_0, rsum_I, rsum_R, ps_s, ps_n, true_and, and_true, Nat.reduceAdd, Nat.reduceLeDiff, n5, ea, v1, x1, p1, e53, es, z0, h2, nI_or, true_implies, false_implies, not_true_eq_false, not_false_eq_true]
      refine ⟨fun c53 => ?_, fun c53 => ?_⟩
      · rw [if_neg c53, Nat.or_zero] at u
        refine go_blk [(.iconst 0, 0, 0, 0), (.ior, 0, 0, 0), (.putfield 80, 8, 2, 0)] (by decide +kernel) ?_
        simp only [e_ic_0, e_ior, e_pf_8_2, e_nil, nol_n, nol_I, nol_R, rsum_0, rsum_I, rsum_R, ps_s, ps_n, true_and, and_true, Nat.reduceAdd, Nat.reduceLeDiff, n5, ea, v1, x1, p1, e53, es, z0, h2, nI_or, true_implies, false_implies, not_true_eq_false, not_false_eq_true]
        refine go_blk [(.iinc 1 1, 0, 0, 0), (.goto (-40), 30, 0, 0)] (by decide +kernel) ?_
        simp only [e_inc_1_1n, e_inc_1_1I, e_inc_1_1R, e_goto, e_nil, nol_n, nol_I, nol_R, rsum_0, rsum_I, rsum_R, ps_s, ps_n, true_and, and_true, Nat.reduceAdd, Nat.reduceLeDiff, n5, ea, v1, x1, p1, e53, es, z0, h2, nI_or, true_implies, false_implies, not_true_eq_false, not_false_eq_true]
        rw [nI_1]
        exact g _ (by rw [u])
      · rw [if_pos c53] at u
        refine go_blk [(.iconst 1, 0, 0, 0), (.iload_n 1, 0, 0, 0), (.ishl, 0, 0, 0), (.goto 4, 63, 0, 0), (.ior, 0, 0, 0), (.putfield 80, 8, 2, 0)] (by decide +kernel) ?_
        simp only [e_ic_1, e_il_1, e_ishl, e_goto, e_ior, e_pf_8_2, e_nil, nol_n, nol_I, nol_R, rsum_0, rsum_I, rsum_R, ps_s, ps_n, true_and, and_true, Nat.reduceAdd, Nat.reduceLeDiff, n5, ea, v1, x1, p1, e53, es, z0, h2, nI_or, true_implies, false_implies, not_true_eq_false, not_false_eq_true]
        refine go_blk [(.iinc 1 1, 0, 0, 0), (.goto (-40), 30, 0, 0)] (by decide +kernel) ?_
        simp only [e_inc_1_1n, e_inc_1_1I, e_inc_1_1R, e_goto, e_nil, nol_n, nol_I, nol_R, rsum_0, rsum_I, rsum_R, ps_s, ps_n, true_and, and_true, Nat.reduceAdd, Nat.reduceLeDiff, n5, ea, v1, x1, p1, e53, es, z0, h2, nI_or, true_implies, false_implies, not_true_eq_false, not_false_eq_true]
        rw [nI_1]
        exact g _ (by rw [u])
theorem xm_carpet {l : Launch} {K : KK} {d : Nat} {μ : Mm} {P : Option AV → Mm → Prop} {N : Nat} {S : SS} (hV : Inv N S) (hR : RM μ S) (hd1 : 14 ≤ d) (h : ∀ μ2, RM μ2 ((aCarpet S).2) → OffX μ μ2 → P (some (vI ((aCarpet S).1))) μ2) : Ok l K d 114 [vR 8 0 0] μ P := by
  refine ok_go 2 (by decide +kernel) [some (vR 8 0 0), none] rfl (Nat.le_of_ble_eq_true rfl) ?_
  have hR0 := hR
  have hV0 := hV
  obtain ⟨⟨L, pg⟩, ⟨laid, op⟩, t, ⟨f, cs⟩, ⟨im, t2, f2, cs2⟩, q, w, b⟩ := S
  obtain ⟨⟨rP, r0, r2⟩, ⟨rM, rG⟩, ⟨rK, rK2⟩, ⟨r1, r17, r18⟩⟩ := hR
  obtain ⟨⟨iL, iP⟩, ⟨iO, iO2⟩, ⟨iT, iF⟩, iK, ⟨iq, iw, ib⟩⟩ := hV
  have hd2 : 1 ≤ d := by omega
  have rL := rP.1
  have fl := fsF_le (fun k => cOK k (pg k)) L 0
  have e8 : (nI (fsF (fun k => cOK k (pg k)) L 0) = nI L) = (fsF (fun k => cOK k (pg k)) L 0 = L) := propext (nI_eq (by omega) (by omega))
  have e17 : (nI L = 20) = (L = 20) := propext (nI_eq (b := 20) (by omega) (by omega))
  refine go_blk [(.aload_n 0, 0, 0, 0), (.invokevirtual 73, 110, 0, 8)] (by decide +kernel) ?_
  simp only [e_al_0, e_iv_8_0, e_nil, nol_n, nol_I, nol_R, rsum_0, rsum_I, rsum_R, ps_s, ps_n, true_and, and_true, Nat.reduceAdd, Nat.reduceLeDiff, hd2, rL, e8, e17, Classical.not_not]
  refine okm_foc rP iL iP (by omega) ?_
  refine go_blk [(.aload_n 0, 0, 0, 0), (.getfield 55, 8, 19, 0), (.if_icmp .ne 12, 20, 0, 0)] (by decide +kernel) ?_
  simp only [e_al_0, e_gf_8_19, e_icmp_ne, rd_8_19, e_nil, nol_n, nol_I, nol_R, rsum_0, rsum_I, rsum_R, ps_s, ps_n, true_and, and_true, Nat.reduceAdd, Nat.reduceLeDiff, hd2, rL, e8, e17, Classical.not_not]
  refine ⟨fun c8 => ?_, fun c8 => ?_⟩
  · have e : aCarpet ((L, pg), (laid, op), t, (f, cs), (im, t2, f2, cs2), (q, w, b)) = (-103, ((L, pg), (laid, op), t, (f, cs), (im, t2, f2, cs2), (q, w, b))) := by
      show (if _ then _ else _) = _
      rw [if_neg (fun z => c8 z.2)]
    rw [e] at h
    refine go_blk [(.bipush (-103), 0, 0, 0), (.ireturn, 0, 0, 0)] (by decide +kernel) ?_
    simp only [e_bp_m103, e_iret0, e_nil, nol_n, nol_I, nol_R, rsum_0, rsum_I, rsum_R, ps_s, ps_n, true_and, and_true, Nat.reduceAdd, Nat.reduceLeDiff, hd2, rL, e8, e17, Classical.not_not]
    exact h μ hR0 (offx_rf μ)
  · refine go_blk [(.aload_n 0, 0, 0, 0), (.getfield 55, 8, 19, 0), (.bipush 20, 0, 0, 0), (.if_icmp .eq 6, 23, 0, 0)] (by decide +kernel) ?_
    simp only [e_al_0, e_gf_8_19, e_bp_20, e_icmp_eq, rd_8_19, e_nil, nol_n, nol_I, nol_R, rsum_0, rsum_I, rsum_R, ps_s, ps_n, true_and, and_true, Nat.reduceAdd, Nat.reduceLeDiff, hd2, rL, e8, e17, Classical.not_not]
    refine ⟨fun c17 => ?_, fun c17 => ?_⟩
    · have e : aCarpet ((L, pg), (laid, op), t, (f, cs), (im, t2, f2, cs2), (q, w, b)) = (nI (pop (opF pg 15)), ((0, pg), (true, opF pg 15), clr (pg 18 - 48) (pg 19 - 48), (gf0, cs), (false, t2, f2, cs2), (q + 1, w, b))) := by
        show (if _ then _ else _) = _
        rw [if_pos ⟨c17, c8⟩]
      rw [e] at h
      have hff := c8
      subst c17
      have dg : ∀ j, 18 ≤ j → j < 20 → 48 ≤ pg j ∧ pg j ≤ 57 := fun j h1 h2 => by
        have z := fsF_ok _ 20 0 j (by omega) (by rw [hff]; exact h2)
        have z2 : cOK j (pg j) = true := z
        unfold cOK at z2
        rw [if_neg (by omega)] at z2
        simp only [Bool.and_eq_true, decide_eq_true_eq] at z2
        exact z2.2
      have d18 : nI (pg 18) - 48 = nI (pg 18 - 48) := pk_sub (b := 48) (dg 18 (by omega) (by omega)).1
      have d19 : nI (pg 19) - 48 = nI (pg 19 - 48) := pk_sub (b := 48) (dg 19 (by omega) (by omega)).1
      refine go_blk [(.aload_n 0, 0, 0, 0), (.iconst 0, 0, 0, 0), (.putfield 80, 8, 2, 0)] (by decide +kernel) ?_
      simp only [e_al_0, e_ic_0, e_pf_8_2, e_nil, nol_n, nol_I, nol_R, rsum_0, rsum_I, rsum_R, ps_s, ps_n, true_and, and_true, Nat.reduceAdd, Nat.reduceLeDiff, hd2, rL, e8, e17, Classical.not_not]
      refine go_blk [(.iconst 0, 0, 0, 0), (.istore_n 1, 0, 0, 0)] (by decide +kernel) ?_
      simp only [e_ic_0, e_is_1n, e_is_1I, e_is_1R, e_nil, nol_n, nol_I, nol_R, rsum_0, rsum_I, rsum_R, ps_s, ps_n, true_and, and_true, Nat.reduceAdd, Nat.reduceLeDiff, hd2, rL, e8, e17, Classical.not_not]
      refine lp_mlay (μ0 := up μ 8 0 0 2 0) ⟨(up_ne (by omega)).trans rP.1, fun j hj => (up_ne (by omega)).trans (rP.2 j hj)⟩ iP (fun μ1 o1 g2 x => ?_) 15 0 (up μ 8 0 0 2 0) (by omega) (fun c i s j hc => rfl) (up_self _ _ _ _ _ _)
      have o1' : O2 μ μ1 := fun c i s j hc => (o1 c i s j hc).trans (up_ne hc)
      have g18 : ∀ (m : Mm), μ1 8 0 21 18 = nI (pg 18) := fun _ => (o1' 8 0 21 18 (by omega)).trans (rP.2 18 (by omega))
      have g18' := g18 μ
      have g19' : μ1 8 0 21 19 = nI (pg 19) := (o1' 8 0 21 19 (by omega)).trans (rP.2 19 (by omega))
      have v18 : vp_in 18 22 := vin (j := 18) (by omega) (by omega)
      have x18 : ix 18 = 18 := nI_ix (j := 18) (by omega)
      have v19 : vp_in 19 22 := vin (j := 19) (by omega) (by omega)
      have x19 : ix 19 = 19 := nI_ix (j := 19) (by omega)
      have un : ∀ (m : Mm) j v, up m 8 0 0 j v 8 0 21 19 = m 8 0 21 19 := fun m j v => up_ne (by omega)
      have g1 : μ1 8 0 0 1 = nI q := (o1' 8 0 0 1 (by omega)).trans r1
      have eq1 : nI q + 1 = nI (q + 1) := nI_1 q
      have u1 : ∀ (m : Mm) v9 v10 v0, up (up (up m 8 0 0 9 v9) 8 0 0 10 v10) 8 0 0 0 v0 8 0 0 1 = m 8 0 0 1 := fun m a b c => by rw [up_ne (by omega), up_ne (by omega), up_ne (by omega)]
      refine go_blk [(.aload_n 0, 0, 0, 0), (.aload_n 0, 0, 0, 0), (.getfield 26, 8, 20, 0), (.bipush 18, 0, 0, 0), (.baload, 3, 0, 0), (.bipush 48, 0, 0, 0), (.isub, 0, 0, 0), (.putfield 83, 8, 9, 0)] (by decide +kernel) ?_
      simp only [e_al_0, e_gf_8_20, e_bp_18, e_ba, e_bp_48, e_isub, e_pf_8_9, rd_8_20, ai_0_4, ai_1_7, ai_2_1, ai_2_2, ai_3_1, ai_4_1, ai_6_3, ai_6_4, ai_6_5, ai_6_6, ai_6_7, ai_6_8, ai_8_5, ai_8_6, ai_8_17, ai_8_21, ai_8_23, ai_8_24, ai_8_27, ai_8_28, ai_8_38, ai_8_39, ai_8_40, e_nil, nol_n, nol_I, nol_R, rsum_0, rsum_I, rsum_R, ps_s, ps_n, true_and, and_true, Nat.reduceAdd, Nat.reduceLeDiff, hd2, g18', g19', v18, x18, v19, x19, un, g1, eq1, u1, d18, d19, or_true, true_or]
      refine go_blk [(.aload_n 0, 0, 0, 0), (.aload_n 0, 0, 0, 0), (.getfield 26, 8, 20, 0), (.bipush 19, 0, 0, 0), (.baload, 3, 0, 0), (.bipush 48, 0, 0, 0), (.isub, 0, 0, 0), (.putfield 86, 8, 10, 0)] (by decide +kernel) ?_
      simp only [e_al_0, e_gf_8_20, e_bp_19, e_ba, e_bp_48, e_isub, e_pf_8_10, rd_8_20, ai_0_4, ai_1_7, ai_2_1, ai_2_2, ai_3_1, ai_4_1, ai_6_3, ai_6_4, ai_6_5, ai_6_6, ai_6_7, ai_6_8, ai_8_5, ai_8_6, ai_8_17, ai_8_21, ai_8_23, ai_8_24, ai_8_27, ai_8_28, ai_8_38, ai_8_39, ai_8_40, e_nil, nol_n, nol_I, nol_R, rsum_0, rsum_I, rsum_R, ps_s, ps_n, true_and, and_true, Nat.reduceAdd, Nat.reduceLeDiff, hd2, g18', g19', v18, x18, v19, x19, un, g1, eq1, u1, d18, d19, or_true, true_or]
      refine go_blk [(.aload_n 0, 0, 0, 0), (.iconst 1, 0, 0, 0), (.putfield 89, 8, 0, 0)] (by decide +kernel) ?_
      simp only [e_al_0, e_ic_1, e_pf_8_0, e_nil, nol_n, nol_I, nol_R, rsum_0, rsum_I, rsum_R, ps_s, ps_n, true_and, and_true, Nat.reduceAdd, Nat.reduceLeDiff, hd2, g18', g19', v18, x18, v19, x19, un, g1, eq1, u1, d18, d19, or_true, true_or]
      refine go_blk [(.aload_n 0, 0, 0, 0), (.dup, 0, 0, 0), (.getfield 93, 8, 1, 0), (.iconst 1, 0, 0, 0), (.iadd, 0, 0, 0), (.putfield 93, 8, 1, 0)] (by decide +kernel) ?_
      simp only [e_al_0, e_dupI, e_dupR, e_gf_8_1, e_ic_1, e_iadd, e_pf_8_1, rd_8_1, e_nil, nol_n, nol_I, nol_R, rsum_0, rsum_I, rsum_R, ps_s, ps_n, true_and, and_true, Nat.reduceAdd, Nat.reduceLeDiff, hd2, g18', g19', v18, x18, v19, x19, un, g1, eq1, u1, d18, d19, or_true, true_or]
      refine go_blk [(.aload_n 0, 0, 0, 0), (.iconst 0, 0, 0, 0), (.putfield 96, 8, 3, 0)] (by decide +kernel) ?_
      simp only [e_al_0, e_ic_0, e_pf_8_3, e_nil, nol_n, nol_I, nol_R, rsum_0, rsum_I, rsum_R, ps_s, ps_n, true_and, and_true, Nat.reduceAdd, Nat.reduceLeDiff, hd2, g18', g19', v18, x18, v19, x19, un, g1, eq1, u1, d18, d19, or_true, true_or]
      refine go_blk [(.aload_n 0, 0, 0, 0), (.iconst 0, 0, 0, 0), (.putfield 99, 8, 6, 0)] (by decide +kernel) ?_
      simp only [e_al_0, e_ic_0, e_pf_8_6, e_nil, nol_n, nol_I, nol_R, rsum_0, rsum_I, rsum_R, ps_s, ps_n, true_and, and_true, Nat.reduceAdd, Nat.reduceLeDiff, hd2, g18', g19', v18, x18, v19, x19, un, g1, eq1, u1, d18, d19, or_true, true_or]
      refine go_blk [(.aload_n 0, 0, 0, 0), (.iconst 0, 0, 0, 0), (.putfield 102, 8, 7, 0)] (by decide +kernel) ?_
      simp only [e_al_0, e_ic_0, e_pf_8_7, e_nil, nol_n, nol_I, nol_R, rsum_0, rsum_I, rsum_R, ps_s, ps_n, true_and, and_true, Nat.reduceAdd, Nat.reduceLeDiff, hd2, g18', g19', v18, x18, v19, x19, un, g1, eq1, u1, d18, d19, or_true, true_or]
      refine go_blk [(.aload_n 0, 0, 0, 0), (.iconst 0, 0, 0, 0), (.putfield 105, 8, 8, 0)] (by decide +kernel) ?_
      simp only [e_al_0, e_ic_0, e_pf_8_8, e_nil, nol_n, nol_I, nol_R, rsum_0, rsum_I, rsum_R, ps_s, ps_n, true_and, and_true, Nat.reduceAdd, Nat.reduceLeDiff, hd2, g18', g19', v18, x18, v19, x19, un, g1, eq1, u1, d18, d19, or_true, true_or]
      refine go_blk [(.aload_n 0, 0, 0, 0), (.iconst 0, 0, 0, 0), (.putfield 108, 8, 11, 0)] (by decide +kernel) ?_
      simp only [e_al_0, e_ic_0, e_pf_8_11, e_nil, nol_n, nol_I, nol_R, rsum_0, rsum_I, rsum_R, ps_s, ps_n, true_and, and_true, Nat.reduceAdd, Nat.reduceLeDiff, hd2, g18', g19', v18, x18, v19, x19, un, g1, eq1, u1, d18, d19, or_true, true_or]
      refine go_blk [(.aload_n 0, 0, 0, 0), (.iconst (-1), 0, 0, 0), (.putfield 16, 8, 12, 0)] (by decide +kernel) ?_
      simp only [e_al_0, e_ic_m1, e_pf_8_12, e_nil, nol_n, nol_I, nol_R, rsum_0, rsum_I, rsum_R, ps_s, ps_n, true_and, and_true, Nat.reduceAdd, Nat.reduceLeDiff, hd2, g18', g19', v18, x18, v19, x19, un, g1, eq1, u1, d18, d19, or_true, true_or]
      refine go_blk [(.aload_n 0, 0, 0, 0), (.iconst 0, 0, 0, 0), (.putfield 111, 8, 13, 0)] (by decide +kernel) ?_
      simp only [e_al_0, e_ic_0, e_pf_8_13, e_nil, nol_n, nol_I, nol_R, rsum_0, rsum_I, rsum_R, ps_s, ps_n, true_and, and_true, Nat.reduceAdd, Nat.reduceLeDiff, hd2, g18', g19', v18, x18, v19, x19, un, g1, eq1, u1, d18, d19, or_true, true_or]
      refine go_blk [(.aload_n 0, 0, 0, 0), (.iconst (-1), 0, 0, 0), (.putfield 20, 8, 14, 0)] (by decide +kernel) ?_
      simp only [e_al_0, e_ic_m1, e_pf_8_14, e_nil, nol_n, nol_I, nol_R, rsum_0, rsum_I, rsum_R, ps_s, ps_n, true_and, and_true, Nat.reduceAdd, Nat.reduceLeDiff, hd2, g18', g19', v18, x18, v19, x19, un, g1, eq1, u1, d18, d19, or_true, true_or]
      refine go_blk [(.aload_n 0, 0, 0, 0), (.iconst 0, 0, 0, 0), (.putfield 114, 8, 15, 0)] (by decide +kernel) ?_
      simp only [e_al_0, e_ic_0, e_pf_8_15, e_nil, nol_n, nol_I, nol_R, rsum_0, rsum_I, rsum_R, ps_s, ps_n, true_and, and_true, Nat.reduceAdd, Nat.reduceLeDiff, hd2, g18', g19', v18, x18, v19, x19, un, g1, eq1, u1, d18, d19, or_true, true_or]
      refine go_blk [(.aload_n 0, 0, 0, 0), (.iconst 0, 0, 0, 0), (.putfield 55, 8, 19, 0)] (by decide +kernel) ?_
      simp only [e_al_0, e_ic_0, e_pf_8_19, e_nil, nol_n, nol_I, nol_R, rsum_0, rsum_I, rsum_R, ps_s, ps_n, true_and, and_true, Nat.reduceAdd, Nat.reduceLeDiff, hd2, g18', g19', v18, x18, v19, x19, un, g1, eq1, u1, d18, d19, or_true, true_or]
      refine go_blk [(.aload_n 0, 0, 0, 0), (.getfield 80, 8, 2, 0), (.invokestatic 117, 105, 1, 0)] (by decide +kernel) ?_
      simp only [e_al_0, e_gf_8_2, e_ivs_1, rd_8_2, e_nil, Nat.reduceLT, nol_n, nol_I, nol_R, rsum_0, rsum_I, rsum_R, ps_s, ps_n, true_and, and_true, Nat.reduceAdd, Nat.reduceLeDiff, hd2, g18', g19', v18, x18, v19, x19, un, g1, eq1, u1, d18, d19, or_true, true_or]
      rw [show ∀ (m : Mm) a b c dd ee ff gg hh ii jj kk ll mm nn, up (up (up (up (up (up (up (up (up (up (up (up (up (up m 8 0 0 9 a) 8 0 0 10 b) 8 0 0 0 c) 8 0 0 1 dd) 8 0 0 3 ee) 8 0 0 6 ff) 8 0 0 7 gg) 8 0 0 8 hh) 8 0 0 11 ii) 8 0 0 12 jj) 8 0 0 13 kk) 8 0 0 14 ll) 8 0 0 15 mm) 8 0 0 19 nn 8 0 0 2 = m 8 0 0 2 from fun m a b c dd ee ff gg hh ii jj kk ll mm nn => by repeat rw [up_ne (by omega)], g2]
      have opl := opF_lt pg 15 (by omega)
      refine okm_size opl ?_
      refine go_blk [(.ireturn, 0, 0, 0)] (by decide +kernel) ?_
      simp only [e_iret0, e_nil, nol_n, nol_I, nol_R, rsum_0, rsum_I, rsum_R, ps_s, ps_n, true_and, and_true, Nat.reduceAdd, Nat.reduceLeDiff, hd2, g18', g19', v18, x18, v19, x19, un, g1, eq1, u1, d18, d19, or_true, true_or]
      refine h _ ⟨⟨⟨up_self _ _ _ _ _ _, fun j hj => by omega⟩, ?_, ?_⟩, ⟨⟨⟨?_, fun j hj => absurd hj (Nat.not_lt_zero j), fun j hj => absurd hj (Nat.not_lt_zero j)⟩, ⟨?_, ?_, ?_⟩, ?_, ?_⟩, ⟨⟨?_, ?_, ?_, ?_, ?_⟩, fun j hj => ?_⟩⟩, ⟨fun z => (by cases z), fun _ => ?_⟩, ⟨?_, ?_, ?_⟩⟩ (fun c hc => ?_)
      · repeat first | rw [up_self] | rw [up_ne (by omega)]
        rfl
      · repeat first | rw [up_self] | rw [up_ne (by omega)]
        exact g2
      · repeat first | rw [up_self] | rw [up_ne (by omega)]
        rfl
      · repeat first | rw [up_self] | rw [up_ne (by omega)]
        rfl
      · repeat first | rw [up_self] | rw [up_ne (by omega)]
        rfl
      · repeat first | rw [up_self] | rw [up_ne (by omega)]
        rfl
      · repeat first | rw [up_self] | rw [up_ne (by omega)]
        rfl
      · repeat first | rw [up_self] | rw [up_ne (by omega)]
        rfl
      · repeat first | rw [up_self] | rw [up_ne (by omega)]
        rfl
      · repeat first | rw [up_self] | rw [up_ne (by omega)]
        rfl
      · repeat first | rw [up_self] | rw [up_ne (by omega)]
        rfl
      · repeat first | rw [up_self] | rw [up_ne (by omega)]
        rfl
      · repeat first | rw [up_self] | rw [up_ne (by omega)]
        rfl
      · repeat first | rw [up_self] | rw [up_ne (by omega)]
        exact (o1' 8 0 17 j (by omega)).trans (rG.2 j hj)
      · cases im
        · rcases rK2 rfl with y | ⟨q', y1, y2⟩
          · left
            repeat first | rw [up_self] | rw [up_ne (by omega)]
            exact (o1' 8 0 0 29 (by omega)).trans y
          · right
            refine ⟨q', by omega, ?_⟩
            repeat first | rw [up_self] | rw [up_ne (by omega)]
            exact (o1' 8 0 0 30 (by omega)).trans y2
        · right
          refine ⟨q, by omega, ?_⟩
          repeat first | rw [up_self] | rw [up_ne (by omega)]
          exact (o1' 8 0 0 30 (by omega)).trans (rK rfl).1.2.1
      · repeat first | rw [up_self] | rw [up_ne (by omega)]
      · repeat first | rw [up_self] | rw [up_ne (by omega)]
        exact (o1' 8 0 0 17 (by omega)).trans r17
      · repeat first | rw [up_self] | rw [up_ne (by omega)]
        exact (o1' 8 0 0 18 (by omega)).trans r18
      · funext i s j
        repeat rw [up_ne (by omega)]
        exact o1' c i s j (by omega)
    · have e : aCarpet ((L, pg), (laid, op), t, (f, cs), (im, t2, f2, cs2), (q, w, b)) = (-103, ((L, pg), (laid, op), t, (f, cs), (im, t2, f2, cs2), (q, w, b))) := by
        show (if _ then _ else _) = _
        rw [if_neg (fun z => c17 z.1)]
      rw [e] at h
      refine go_blk [(.bipush (-103), 0, 0, 0), (.ireturn, 0, 0, 0)] (by decide +kernel) ?_
      simp only [e_bp_m103, e_iret0, e_nil, nol_n, nol_I, nol_R, rsum_0, rsum_I, rsum_R, ps_s, ps_n, true_and, and_true, Nat.reduceAdd, Nat.reduceLeDiff, hd2, rL, e8, e17, Classical.not_not]
      exact h μ hR0 (offx_rf μ)
