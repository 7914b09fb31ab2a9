theorem bs_of {x y z : Int32} (h : bsB x y z = true) : (∃ s, s < 2 ∧ x = nI s) ∧ (∃ k, 1 ≤ k ∧ k ≤ 3 ∧ y = nI k) ∧ ∃ c, c < 3 ∧ z = nI c := by
  unfold bsB at h
  simp only [Bool.and_eq_true, Bool.not_eq_true', decide_eq_false_iff_not] at h
  obtain ⟨⟨⟨⟨h1, h2⟩, h3⟩, h4⟩, h5⟩ := h
  refine ⟨sd_of h1, ?_, ?_⟩
  · obtain ⟨k, hk, rfl⟩ := nI_of2 (n := 3) rfl (fun q => h2 (Int32.lt_of_lt_of_le q (by decide))) (nlt32 h3)
    refine ⟨k, ?_, hk, rfl⟩
    rcases Nat.eq_zero_or_pos k with q | q
    · subst q; exact absurd (by decide) h2
    · exact q
  · obtain ⟨c, hc, rfl⟩ := nI_of2 (n := 2) rfl h4 (nlt32 h5)
    exact ⟨c, by omega, rfl⟩
theorem af_of {x y z : Int32} (h : afB x y z = true) : (∃ T, 1 ≤ T ∧ T ≤ 60 ∧ x = nI T) ∧ (∃ q, q < 2 ^ 31 ∧ y = nI q) ∧ ∃ c, c < 3 ∧ z = nI c := by
  unfold afB at h
  simp only [Bool.and_eq_true, Bool.not_eq_true', decide_eq_false_iff_not] at h
  obtain ⟨⟨⟨⟨h1, h2⟩, h3⟩, h4⟩, h5⟩ := h
  refine ⟨?_, nI_of h3, ?_⟩
  · obtain ⟨k, hk, rfl⟩ := nI_of2 (n := 60) rfl (fun q => h1 (Int32.lt_of_lt_of_le q (by decide))) (nlt32 h2)
    refine ⟨k, ?_, hk, rfl⟩
    rcases Nat.eq_zero_or_pos k with q | q
    · subst q; exact absurd (by decide) h1
    · exact q
  · obtain ⟨c, hc, rfl⟩ := nI_of2 (n := 2) rfl h4 (nlt32 h5)
    exact ⟨c, by omega, rfl⟩
theorem rc_sr {μ μ2 : Mm} {S : SS} (hR : RC μ S) (o : ∀ c i, ¬ c = 4 → ¬ c = 5 → ¬ (c = 6 ∧ 2 ≤ i) → μ2 c i = μ c i) : RC μ2 S ∧ Off8 μ μ2 := by
  obtain ⟨⟨L, pg⟩, ⟨laid, op⟩, t, ⟨f, cs⟩, ⟨im, t2, f2, cs2⟩, q, w, b⟩ := S
  obtain ⟨⟨rP, rC, rW⟩, ⟨rT, rG⟩, ⟨r7, rK⟩, ⟨r8, r9, r10⟩, rN⟩ := hR
  have o1 : ∀ c, ¬ c = 4 → ¬ c = 5 → ¬ c = 6 → μ2 c = μ c := fun c h1 h2 h3 => by funext i; exact o c i h1 h2 (by omega)
  exact ⟨⟨⟨rP.off (o1 3 (by omega) (by omega) (by omega)), rC.off (o 0 0 (by omega) (by omega) (by omega)), fun z => by unfold WRep; rw [o1 0 (by omega) (by omega) (by omega)]; exact rW z⟩, ⟨rT.off (o 6 0 (by omega) (by omega) (by omega)), rG.off (o 1 0 (by omega) (by omega) (by omega))⟩, ⟨by rw [o1 7 (by omega) (by omega) (by omega)]; exact r7, fun z => ⟨(rK z).1.off (o 6 1 (by omega) (by omega) (by omega)), (rK z).2.off (o 1 1 (by omega) (by omega) (by omega))⟩⟩, ⟨by rw [o1 7 (by omega) (by omega) (by omega)]; exact r8, by rw [o1 7 (by omega) (by omega) (by omega)]; exact r9, by rw [o1 7 (by omega) (by omega) (by omega)]; exact r10⟩, by unfold NtR; rw [o1 2 (by omega) (by omega) (by omega)]; exact rN⟩, o1 8 (by omega) (by omega) (by omega)⟩
theorem rc_b {μ : Mm} {P : Nat × (Nat → Nat)} {C : Bool × Nat} {t : TS} {G : (Nat → Int32) × (Nat → Int32)} {I : Bool × TS × (Nat → Int32) × (Nat → Int32)} {q w b b' : Nat} (hR : RC μ (P, C, t, G, I, (q, w, b))) : RC (up μ 7 0 0 10 (nI b')) (P, C, t, G, I, (q, w, b')) ∧ Off8 μ (up μ 7 0 0 10 (nI b')) := by
  obtain ⟨L, pg⟩ := P
  obtain ⟨laid, op⟩ := C
  obtain ⟨f, cs⟩ := G
  obtain ⟨im, t2, f2, cs2⟩ := I
  obtain ⟨⟨rP, rC, rW⟩, ⟨rT, rG⟩, ⟨r7, rK⟩, ⟨r8, r9, r10⟩, rN⟩ := hR
  have o1 : ∀ c, ¬ c = 7 → up μ 7 0 0 10 (nI b') c = μ c := fun c h1 => by funext i s j; exact up_ne (by omega)
  exact ⟨⟨⟨rP.off (o1 3 (by omega)), rC.off (by rw [o1 0 (by omega)]), fun z => by unfold WRep; rw [o1 0 (by omega)]; exact rW z⟩, ⟨rT.off (by rw [o1 6 (by omega)]), rG.off (by rw [o1 1 (by omega)])⟩, ⟨by rw [up_ne (by omega)]; exact r7, fun z => ⟨(rK z).1.off (by rw [o1 6 (by omega)]), (rK z).2.off (by rw [o1 1 (by omega)])⟩⟩, ⟨by rw [up_ne (by omega)]; exact r8, by rw [up_ne (by omega)]; exact r9, up_self _ _ _ _ _ _⟩, by unfold NtR; rw [o1 2 (by omega)]; exact rN⟩, o1 8 (by omega)⟩
theorem xc_best {l : Launch} {K : KK} {d : Nat} {μ : Mm} {P : Option AV → Mm → Prop} {N : Nat} {S : SS} {x y z : Int32} (hV : Inv N S) (hR : RC μ S) (hd1 : 14 ≤ d) (h : ∀ μ2, RC μ2 ((aBest x y z S).2) → Off8 μ μ2 → P (some (vI ((aBest x y z S).1))) μ2) : Ok l K d 88 [vR 7 0 0, vI x, vI y, vI z] μ P := by
  refine ok_go 4 (by decide +kernel) [some (vR 7 0 0), some (vI x), some (vI y), some (vI z)] rfl (Nat.le_of_ble_eq_true rfl) ?_
  have hR0 := hR
  have hV0 := hV
  obtain ⟨⟨L, pg⟩, ⟨laid, op⟩, t, ⟨f, cs⟩, ⟨im, t2, f2, cs2⟩, q, w, b⟩ := S
  obtain ⟨⟨rP, rC, rW⟩, ⟨rT, rG⟩, ⟨r7, rK⟩, ⟨r8, r9, r10⟩, rN⟩ := hR
  obtain ⟨⟨iL, iP⟩, ⟨iO, iO2⟩, ⟨iT, iF⟩, iK, ⟨iq, iw, ib⟩⟩ := hV
  have hd2 : 1 ≤ d := by omega
  have rL0 := rC.1
  have el := bi_0 laid
  have e45 : (nI b < 20) = (b < 20) := propext (nI_ltI (b := 20) (by omega) (by omega))
  have eb1 : nI b + 1 = nI (b + 1) := nI_1 b
  refine go_blk [(.iload_n 1, 0, 0, 0), (.invokestatic 133, 101, 1, 0)] (by decide +kernel) ?_
  simp only [e_il_1, e_ivs_1, e_nil, Nat.reduceLT, nol_n, nol_I, nol_R, rsum_0, rsum_I, rsum_R, ps_s, ps_n, true_and, and_true, Nat.reduceAdd, Nat.reduceLeDiff, hd2, bi_0, rL0, el, r10, e45, eb1, Nat.reduceLT]
  refine ok_isSide ?_
  refine go_blk [(.ifCond .eq 22, 26, 0, 0)] (by decide +kernel) ?_
  simp only [e_if_eq, e_nil, nol_n, nol_I, nol_R, rsum_0, rsum_I, rsum_R, ps_s, ps_n, true_and, and_true, Nat.reduceAdd, Nat.reduceLeDiff, hd2, bi_0, rL0, el, r10, e45, eb1, Nat.reduceLT]
  refine ⟨fun c4 => ?_, fun c4 => ?_⟩
  · have e : aBest x y z ((L, pg), (laid, op), t, (f, cs), (im, t2, f2, cs2), (q, w, b)) = (-102, ((L, pg), (laid, op), t, (f, cs), (im, t2, f2, cs2), (q, w, b))) := by
      show (if _ then _ else if _ then _ else _) = _
      rw [if_pos (by unfold bsB; rw [show sdB x = false from c4]; rfl)]
    rw [e] at h
    refine go_blk [(.bipush (-102), 0, 0, 0), (.ireturn, 0, 0, 0)] (by decide +kernel) ?_
    simp only [e_bp_m102, e_iret0, e_nil, nol_n, nol_I, nol_R, rsum_0, rsum_I, rsum_R, ps_s, ps_n, true_and, and_true, Nat.reduceAdd, Nat.reduceLeDiff, hd2, bi_0, rL0, el, r10, e45, eb1, Nat.reduceLT]
    exact h μ hR0 rfl
  · refine go_blk [(.iload_n 2, 0, 0, 0), (.iconst 1, 0, 0, 0), (.if_icmp .lt 17, 26, 0, 0)] (by decide +kernel) ?_
    simp only [e_il_2, e_ic_1, e_icmp_lt, e_nil, nol_n, nol_I, nol_R, rsum_0, rsum_I, rsum_R, ps_s, ps_n, true_and, and_true, Nat.reduceAdd, Nat.reduceLeDiff, hd2, bi_0, rL0, el, r10, e45, eb1, Nat.reduceLT]
    refine ⟨fun c9 => ?_, fun c9 => ?_⟩
    · have e : aBest x y z ((L, pg), (laid, op), t, (f, cs), (im, t2, f2, cs2), (q, w, b)) = (-102, ((L, pg), (laid, op), t, (f, cs), (im, t2, f2, cs2), (q, w, b))) := by
        show (if _ then _ else if _ then _ else _) = _
        rw [if_pos (by unfold bsB; rw [decide_eq_true c9]; simp)]
      rw [e] at h
      refine go_blk [(.bipush (-102), 0, 0, 0), (.ireturn, 0, 0, 0)] (by decide +kernel) ?_
      simp only [e_bp_m102, e_iret0, e_nil, nol_n, nol_I, nol_R, rsum_0, rsum_I, rsum_R, ps_s, ps_n, true_and, and_true, Nat.reduceAdd, Nat.reduceLeDiff, hd2, bi_0, rL0, el, r10, e45, eb1, Nat.reduceLT]
      exact h μ hR0 rfl
    · refine go_blk [(.iload_n 2, 0, 0, 0), (.iconst 3, 0, 0, 0), (.if_icmp .gt 12, 26, 0, 0)] (by decide +kernel) ?_
      simp only [e_il_2, e_ic_3, e_icmp_gt, e_nil, nol_n, nol_I, nol_R, rsum_0, rsum_I, rsum_R, ps_s, ps_n, true_and, and_true, Nat.reduceAdd, Nat.reduceLeDiff, hd2, bi_0, rL0, el, r10, e45, eb1, Nat.reduceLT]
      refine ⟨fun c14 => ?_, fun c14 => ?_⟩
      · have e : aBest x y z ((L, pg), (laid, op), t, (f, cs), (im, t2, f2, cs2), (q, w, b)) = (-102, ((L, pg), (laid, op), t, (f, cs), (im, t2, f2, cs2), (q, w, b))) := by
          show (if _ then _ else if _ then _ else _) = _
          rw [if_pos (by unfold bsB; rw [decide_eq_true c14]; simp)]
        rw [e] at h
        refine go_blk [(.bipush (-102), 0, 0, 0), (.ireturn, 0, 0, 0)] (by decide +kernel) ?_
        simp only [e_bp_m102, e_iret0, e_nil, nol_n, nol_I, nol_R, rsum_0, rsum_I, rsum_R, ps_s, ps_n, true_and, and_true, Nat.reduceAdd, Nat.reduceLeDiff, hd2, bi_0, rL0, el, r10, e45, eb1, Nat.reduceLT]
        exact h μ hR0 rfl
      · refine go_blk [(.iload_n 3, 0, 0, 0), (.ifCond .lt 8, 26, 0, 0)] (by decide +kernel) ?_
        simp only [e_il_3, e_if_lt, e_nil, nol_n, nol_I, nol_R, rsum_0, rsum_I, rsum_R, ps_s, ps_n, true_and, and_true, Nat.reduceAdd, Nat.reduceLeDiff, hd2, bi_0, rL0, el, r10, e45, eb1, Nat.reduceLT]
        refine ⟨fun c18 => ?_, fun c18 => ?_⟩
        · have e : aBest x y z ((L, pg), (laid, op), t, (f, cs), (im, t2, f2, cs2), (q, w, b)) = (-102, ((L, pg), (laid, op), t, (f, cs), (im, t2, f2, cs2), (q, w, b))) := by
            show (if _ then _ else if _ then _ else _) = _
            rw [if_pos (by unfold bsB; rw [decide_eq_true c18]; simp)]
          rw [e] at h
          refine go_blk [(.bipush (-102), 0, 0, 0), (.ireturn, 0, 0, 0)] (by decide +kernel) ?_
          simp only [e_bp_m102, e_iret0, e_nil, nol_n, nol_I, nol_R, rsum_0, rsum_I, rsum_R, ps_s, ps_n, true_and, and_true, Nat.reduceAdd, Nat.reduceLeDiff, hd2, bi_0, rL0, el, r10, e45, eb1, Nat.reduceLT]
          exact h μ hR0 rfl
        · refine go_blk [(.iload_n 3, 0, 0, 0), (.iconst 2, 0, 0, 0), (.if_icmp .le 6, 29, 0, 0)] (by decide +kernel) ?_
          simp only [e_il_3, e_ic_2, e_icmp_le, e_nil, nol_n, nol_I, nol_R, rsum_0, rsum_I, rsum_R, ps_s, ps_n, true_and, and_true, Nat.reduceAdd, Nat.reduceLeDiff, hd2, bi_0, rL0, el, r10, e45, eb1, Nat.reduceLT]
          refine ⟨fun c23 => ?_, fun c23 => ?_⟩
          · have hb1 : bsB x y z = true := by
              unfold bsB
              rw [show sdB x = true from eq_true_of_ne_false c4, decide_eq_false c9, decide_eq_false c14, decide_eq_false c18, decide_eq_false (fun q => absurd c23 (Int32.not_le.mpr q))]
              rfl
            have nb : ¬ bsB x y z = false := by rw [hb1]; decide
            obtain ⟨⟨s, hs, rfl⟩, ⟨k, hk1, hk3, rfl⟩, ⟨c, hc, rfl⟩⟩ := bs_of hb1
            have xs : ix (nI s) = s := nI_ix (by omega)
            have xk : ix (nI k) = k := nI_ix (by omega)
            refine go_blk [(.aload_n 0, 0, 0, 0), (.getfield 19, 7, 1, 0), (.getfield 105, 0, 0, 0), (.ifCond .eq 12, 48, 0, 0)] (by decide +kernel) ?_
            simp only [e_al_0, e_gf_7_1, e_gf_0_0, e_if_eq, rd_7_1, rd_0_0, e_nil, nol_n, nol_I, nol_R, rsum_0, rsum_I, rsum_R, ps_s, ps_n, true_and, and_true, Nat.reduceAdd, Nat.reduceLeDiff, hd2, bi_0, rL0, el, r10, e45, eb1, Nat.reduceLT]
            refine ⟨fun c36 => ?_, fun c36 => ?_⟩
            · have e : aBest (nI s) (nI k) (nI c) ((L, pg), (laid, op), t, (f, cs), (im, t2, f2, cs2), (q, w, b)) = (-103, ((L, pg), (laid, op), t, (f, cs), (im, t2, f2, cs2), (q, w, b))) := by
                show (if _ then _ else if _ then _ else _) = _
                rw [if_neg nb, if_pos (Or.inl c36)]
              rw [e] at h
              refine go_blk [(.bipush (-103), 0, 0, 0), (.ireturn, 0, 0, 0)] (by decide +kernel) ?_
              simp only [e_bp_m103, e_iret0, e_nil, nol_n, nol_I, nol_R, rsum_0, rsum_I, rsum_R, ps_s, ps_n, true_and, and_true, Nat.reduceAdd, Nat.reduceLeDiff, hd2, bi_0, rL0, el, r10, e45, eb1, Nat.reduceLT]
              exact h μ hR0 rfl
            · refine go_blk [(.aload_n 0, 0, 0, 0), (.getfield 67, 7, 10, 0), (.bipush 20, 0, 0, 0), (.if_icmp .lt 6, 51, 0, 0)] (by decide +kernel) ?_
              simp only [e_al_0, e_gf_7_10, e_bp_20, e_icmp_lt, rd_7_10, e_nil, nol_n, nol_I, nol_R, rsum_0, rsum_I, rsum_R, ps_s, ps_n, true_and, and_true, Nat.reduceAdd, Nat.reduceLeDiff, hd2, bi_0, rL0, el, r10, e45, eb1, Nat.reduceLT]
              refine ⟨fun c45 => ?_, fun c45 => ?_⟩
              · have e : aBest (nI s) (nI k) (nI c) ((L, pg), (laid, op), t, (f, cs), (im, t2, f2, cs2), (q, w, b)) = (bstV (mnP op s k t s) k (nI c), ((L, pg), (laid, op), t, (f, cs), (im, t2, f2, cs2), (q, w, b + 1))) := by
                  show (if _ then _ else if _ then _ else _) = _
                  rw [if_neg nb, if_neg (fun z => z.elim c36 (fun y => by omega)), xs, xk]
                rw [e] at h
                have hl := eq_true_of_ne_false c36
                subst hl
                obtain ⟨rB, oB⟩ := rc_b (b' := b + 1) hR0
                obtain ⟨⟨-, bC, -⟩, ⟨bT, -⟩, -, -, -⟩ := id rB
                refine go_blk [(.aload_n 0, 0, 0, 0), (.dup, 0, 0, 0), (.getfield 67, 7, 10, 0), (.iconst 1, 0, 0, 0), (.iadd, 0, 0, 0), (.putfield 67, 7, 10, 0)] (by decide +kernel) ?_
                simp only [e_al_0, e_dupI, e_dupR, e_gf_7_10, e_ic_1, e_iadd, e_pf_7_10, rd_7_10, e_nil, nol_n, nol_I, nol_R, rsum_0, rsum_I, rsum_R, ps_s, ps_n, true_and, and_true, Nat.reduceAdd, Nat.reduceLeDiff, hd2, bi_0, rL0, el, r10, e45, eb1, Nat.reduceLT]
                refine go_blk [(.aload_n 0, 0, 0, 0), (.getfield 45, 7, 5, 0), (.aload_n 0, 0, 0, 0), (.getfield 28, 7, 2, 0), (.getfield 118, 1, 0, 0), (.iload_n 1, 0, 0, 0), (.iload_n 2, 0, 0, 0), (.invokevirtual 200, 49, 3, 4)] (by decide +kernel) ?_
                simp only [e_al_0, e_gf_7_5, e_gf_7_2, e_gf_1_0, e_il_1, e_il_2, e_iv_4_3, rd_7_5, rd_7_2, rd_1_0, e_nil, nol_n, nol_I, nol_R, rsum_0, rsum_I, rsum_R, ps_s, ps_n, true_and, and_true, Nat.reduceAdd, Nat.reduceLeDiff, hd2, bi_0, rL0, el, r10, e45, eb1, Nat.reduceLT]
                refine ok_look (by omega) hk3 hk1 hs bT iT bC (by omega) (fun μ1 o1 b2' b3 b4 => ?_)
                have z2 := rc_sr rB (fun c i q1 q2 q3 => o1 c i q1 (by omega))
                refine go_blk [(.iload_n 3, 0, 0, 0), (.lookupswitch 42 #[(0, 26), (1, 34)], 0, 0, 0)] (by decide +kernel) ?_
                simp only [e_il_3, e_lsw, e_nil, nol_n, nol_I, nol_R, rsum_0, rsum_I, rsum_R, ps_s, ps_n, true_and, and_true, Nat.reduceAdd, Nat.reduceLeDiff, hd2, bi_0, rL0, el, r10, e45, eb1, Nat.reduceLT, b2', b3, b4]
                have hc3 : c = 0 ∨ c = 1 ∨ c = 2 := by omega
                rcases hc3 with zz | zz | zz
                · subst zz
                  have ev : bstV (mnP op s k t s) k (nI 0) = (mnP op s k t s).1 / nI (gdV (mnP op s k t s).1 k) := rfl
                  refine ⟨104, by decide, ?_⟩
                  refine go_blk [(.aload_n 0, 0, 0, 0), (.getfield 45, 7, 5, 0), (.getfield 204, 4, 2, 0), (.ireturn, 0, 0, 0)] (by decide +kernel) ?_
                  simp only [e_al_0, e_gf_7_5, e_gf_4_2, e_iret0, rd_7_5, rd_4_2, e_nil, nol_n, nol_I, nol_R, rsum_0, rsum_I, rsum_R, ps_s, ps_n, true_and, and_true, Nat.reduceAdd, Nat.reduceLeDiff, hd2, bi_0, rL0, el, r10, e45, eb1, Nat.reduceLT, b2', b3, b4]
                  exact h μ1 z2.1 (z2.2.trans oB)
                · subst zz
                  have ev : bstV (mnP op s k t s) k (nI 1) = nI (10 ^ k / gdV (mnP op s k t s).1 k) := rfl
                  refine ⟨112, by decide, ?_⟩
                  refine go_blk [(.aload_n 0, 0, 0, 0), (.getfield 45, 7, 5, 0), (.getfield 207, 4, 3, 0), (.ireturn, 0, 0, 0)] (by decide +kernel) ?_
                  simp only [e_al_0, e_gf_7_5, e_gf_4_3, e_iret0, rd_7_5, rd_4_3, e_nil, nol_n, nol_I, nol_R, rsum_0, rsum_I, rsum_R, ps_s, ps_n, true_and, and_true, Nat.reduceAdd, Nat.reduceLeDiff, hd2, bi_0, rL0, el, r10, e45, eb1, Nat.reduceLT, b2', b3, b4]
                  exact h μ1 z2.1 (z2.2.trans oB)
                · subst zz
                  have ev : bstV (mnP op s k t s) k (nI 2) = (mnP op s k t s).2 := rfl
                  refine ⟨120, by decide, ?_⟩
                  refine go_blk [(.aload_n 0, 0, 0, 0), (.getfield 45, 7, 5, 0), (.getfield 210, 4, 4, 0), (.ireturn, 0, 0, 0)] (by decide +kernel) ?_
                  simp only [e_al_0, e_gf_7_5, e_gf_4_4, e_iret0, rd_7_5, rd_4_4, e_nil, nol_n, nol_I, nol_R, rsum_0, rsum_I, rsum_R, ps_s, ps_n, true_and, and_true, Nat.reduceAdd, Nat.reduceLeDiff, hd2, bi_0, rL0, el, r10, e45, eb1, Nat.reduceLT, b2', b3, b4]
                  exact h μ1 z2.1 (z2.2.trans oB)
              · have e : aBest (nI s) (nI k) (nI c) ((L, pg), (laid, op), t, (f, cs), (im, t2, f2, cs2), (q, w, b)) = (-103, ((L, pg), (laid, op), t, (f, cs), (im, t2, f2, cs2), (q, w, b))) := by
                  show (if _ then _ else if _ then _ else _) = _
                  rw [if_neg nb, if_pos (Or.inr (by omega))]
                rw [e] at h
                refine go_blk [(.bipush (-103), 0, 0, 0), (.ireturn, 0, 0, 0)] (by decide +kernel) ?_
                simp only [e_bp_m103, e_iret0, e_nil, nol_n, nol_I, nol_R, rsum_0, rsum_I, rsum_R, ps_s, ps_n, true_and, and_true, Nat.reduceAdd, Nat.reduceLeDiff, hd2, bi_0, rL0, el, r10, e45, eb1, Nat.reduceLT]
                exact h μ hR0 rfl
          · have e : aBest x y z ((L, pg), (laid, op), t, (f, cs), (im, t2, f2, cs2), (q, w, b)) = (-102, ((L, pg), (laid, op), t, (f, cs), (im, t2, f2, cs2), (q, w, b))) := by
              show (if _ then _ else if _ then _ else _) = _
              rw [if_pos (by unfold bsB; rw [decide_eq_true (nle32 c23)]; simp)]
            rw [e] at h
            refine go_blk [(.bipush (-102), 0, 0, 0), (.ireturn, 0, 0, 0)] (by decide +kernel) ?_
            simp only [e_bp_m102, e_iret0, e_nil, nol_n, nol_I, nol_R, rsum_0, rsum_I, rsum_R, ps_s, ps_n, true_and, and_true, Nat.reduceAdd, Nat.reduceLeDiff, hd2, bi_0, rL0, el, r10, e45, eb1, Nat.reduceLT]
            exact h μ hR0 rfl
theorem xc_after {l : Launch} {K : KK} {d : Nat} {μ : Mm} {P : Option AV → Mm → Prop} {N : Nat} {S : SS} {x y z : Int32} (hV : Inv N S) (hR : RC μ S) (hd1 : 14 ≤ d) (h : ∀ μ2, RC μ2 (S) → Off8 μ μ2 → P (some (vI (vAfter x y z S))) μ2) : Ok l K d 93 [vR 7 0 0, vI x, vI y, vI z] μ P := by
  refine ok_go 4 (by decide +kernel) [some (vR 7 0 0), some (vI x), some (vI y), some (vI z)] rfl (Nat.le_of_ble_eq_true rfl) ?_
  have hR0 := hR
  have hV0 := hV
  obtain ⟨⟨L, pg⟩, ⟨laid, op⟩, t, ⟨f, cs⟩, ⟨im, t2, f2, cs2⟩, q, w, b⟩ := S
  obtain ⟨⟨rP, rC, rW⟩, ⟨rT, rG⟩, ⟨r7, rK⟩, ⟨r8, r9, r10⟩, rN⟩ := hR
  obtain ⟨⟨iL, iP⟩, ⟨iO, iO2⟩, ⟨iT, iF⟩, iK, ⟨iq, iw, ib⟩⟩ := hV
  have hd2 : 1 ≤ d := by omega
  have rm := rT.1
  have hn := iT.1
  have e37 : (nI (t 0 1) = 0) = (t 0 1 = 0) := propext (nI_eq (b := 0) (by omega) (by omega))
  refine go_blk [(.iload_n 1, 0, 0, 0), (.iconst 1, 0, 0, 0), (.if_icmp .lt 22, 24, 0, 0)] (by decide +kernel) ?_
  simp only [e_il_1, e_ic_1, e_icmp_lt, e_nil, nol_n, nol_I, nol_R, rsum_0, rsum_I, rsum_R, ps_s, ps_n, true_and, and_true, Nat.reduceAdd, Nat.reduceLeDiff, hd2, rm, e37, Nat.reduceLT]
  refine ⟨fun c2 => ?_, fun c2 => ?_⟩
  · have e : vAfter x y z ((L, pg), (laid, op), t, (f, cs), (im, t2, f2, cs2), (q, w, b)) = -102 := by
      show (if _ then _ else if _ then _ else _) = _
      rw [if_pos (by unfold afB; rw [decide_eq_true c2]; rfl)]
    rw [e] at h
    refine go_blk [(.bipush (-102), 0, 0, 0), (.ireturn, 0, 0, 0)] (by decide +kernel) ?_
    simp only [e_bp_m102, e_iret0, e_nil, nol_n, nol_I, nol_R, rsum_0, rsum_I, rsum_R, ps_s, ps_n, true_and, and_true, Nat.reduceAdd, Nat.reduceLeDiff, hd2, rm, e37, Nat.reduceLT]
    exact h μ hR0 rfl
  · refine go_blk [(.iload_n 1, 0, 0, 0), (.bipush 60, 0, 0, 0), (.if_icmp .gt 16, 24, 0, 0)] (by decide +kernel) ?_
    simp only [e_il_1, e_bp_60, e_icmp_gt, e_nil, nol_n, nol_I, nol_R, rsum_0, rsum_I, rsum_R, ps_s, ps_n, true_and, and_true, Nat.reduceAdd, Nat.reduceLeDiff, hd2, rm, e37, Nat.reduceLT]
    refine ⟨fun c8 => ?_, fun c8 => ?_⟩
    · have e : vAfter x y z ((L, pg), (laid, op), t, (f, cs), (im, t2, f2, cs2), (q, w, b)) = -102 := by
        show (if _ then _ else if _ then _ else _) = _
        rw [if_pos (by unfold afB; rw [decide_eq_true c8]; simp)]
      rw [e] at h
      refine go_blk [(.bipush (-102), 0, 0, 0), (.ireturn, 0, 0, 0)] (by decide +kernel) ?_
      simp only [e_bp_m102, e_iret0, e_nil, nol_n, nol_I, nol_R, rsum_0, rsum_I, rsum_R, ps_s, ps_n, true_and, and_true, Nat.reduceAdd, Nat.reduceLeDiff, hd2, rm, e37, Nat.reduceLT]
      exact h μ hR0 rfl
    · refine go_blk [(.iload_n 2, 0, 0, 0), (.ifCond .lt 12, 24, 0, 0)] (by decide +kernel) ?_
      simp only [e_il_2, e_if_lt, e_nil, nol_n, nol_I, nol_R, rsum_0, rsum_I, rsum_R, ps_s, ps_n, true_and, and_true, Nat.reduceAdd, Nat.reduceLeDiff, hd2, rm, e37, Nat.reduceLT]
      refine ⟨fun c12 => ?_, fun c12 => ?_⟩
      · have e : vAfter x y z ((L, pg), (laid, op), t, (f, cs), (im, t2, f2, cs2), (q, w, b)) = -102 := by
          show (if _ then _ else if _ then _ else _) = _
          rw [if_pos (by unfold afB; rw [decide_eq_true c12]; simp)]
        rw [e] at h
        refine go_blk [(.bipush (-102), 0, 0, 0), (.ireturn, 0, 0, 0)] (by decide +kernel) ?_
        simp only [e_bp_m102, e_iret0, e_nil, nol_n, nol_I, nol_R, rsum_0, rsum_I, rsum_R, ps_s, ps_n, true_and, and_true, Nat.reduceAdd, Nat.reduceLeDiff, hd2, rm, e37, Nat.reduceLT]
        exact h μ hR0 rfl
      · refine go_blk [(.iload_n 3, 0, 0, 0), (.ifCond .lt 8, 24, 0, 0)] (by decide +kernel) ?_
        simp only [e_il_3, e_if_lt, e_nil, nol_n, nol_I, nol_R, rsum_0, rsum_I, rsum_R, ps_s, ps_n, true_and, and_true, Nat.reduceAdd, Nat.reduceLeDiff, hd2, rm, e37, Nat.reduceLT]
        refine ⟨fun c16 => ?_, fun c16 => ?_⟩
        · have e : vAfter x y z ((L, pg), (laid, op), t, (f, cs), (im, t2, f2, cs2), (q, w, b)) = -102 := by
            show (if _ then _ else if _ then _ else _) = _
            rw [if_pos (by unfold afB; rw [decide_eq_true c16]; simp)]
          rw [e] at h
          refine go_blk [(.bipush (-102), 0, 0, 0), (.ireturn, 0, 0, 0)] (by decide +kernel) ?_
          simp only [e_bp_m102, e_iret0, e_nil, nol_n, nol_I, nol_R, rsum_0, rsum_I, rsum_R, ps_s, ps_n, true_and, and_true, Nat.reduceAdd, Nat.reduceLeDiff, hd2, rm, e37, Nat.reduceLT]
          exact h μ hR0 rfl
        · refine go_blk [(.iload_n 3, 0, 0, 0), (.iconst 2, 0, 0, 0), (.if_icmp .le 6, 27, 0, 0)] (by decide +kernel) ?_
          simp only [e_il_3, e_ic_2, e_icmp_le, e_nil, nol_n, nol_I, nol_R, rsum_0, rsum_I, rsum_R, ps_s, ps_n, true_and, and_true, Nat.reduceAdd, Nat.reduceLeDiff, hd2, rm, e37, Nat.reduceLT]
          refine ⟨fun c21 => ?_, fun c21 => ?_⟩
          · have hb1 : afB x y z = true := by
              unfold afB
              rw [decide_eq_false c2, decide_eq_false c8, decide_eq_false c12, decide_eq_false c16, decide_eq_false (fun q => absurd c21 (Int32.not_le.mpr q))]
              rfl
            have nb : ¬ afB x y z = false := by rw [hb1]; decide
            obtain ⟨⟨T, hT1, hT2, rfl⟩, ⟨q0, hq0, rfl⟩, ⟨c, hc, rfl⟩⟩ := af_of hb1
            have xs : ix (nI T) = T := nI_ix (by omega)
            have xk : ix (nI q0) = q0 := nI_ix hq0
            have xc : ix (nI c) = c := nI_ix (by omega)
            refine go_blk [(.aload_n 0, 0, 0, 0), (.getfield 28, 7, 2, 0), (.getfield 118, 1, 0, 0), (.getfield 139, 6, 1, 0), (.ifCond .ne 6, 43, 0, 0)] (by decide +kernel) ?_
            simp only [e_al_0, e_gf_7_2, e_gf_1_0, e_gf_6_1, e_if_ne, rd_7_2, rd_1_0, rd_6_1, e_nil, nol_n, nol_I, nol_R, rsum_0, rsum_I, rsum_R, ps_s, ps_n, true_and, and_true, Nat.reduceAdd, Nat.reduceLeDiff, hd2, rm, e37, Nat.reduceLT]
            refine ⟨fun c37 => ?_, fun c37 => ?_⟩
            · have e : vAfter (nI T) (nI q0) (nI c) ((L, pg), (laid, op), t, (f, cs), (im, t2, f2, cs2), (q, w, b)) = aftV (trF op T t q0 0) c := by
                show (if _ then _ else if _ then _ else _) = _
                rw [if_neg nb, if_neg c37, xs, xk, xc]
              rw [e] at h
              have hl : laid = true := by
                cases z : laid
                · exact absurd (iO2 z).2 c37
                · rfl
              subst hl
              refine go_blk [(.aload_n 0, 0, 0, 0), (.getfield 52, 7, 6, 0), (.aload_n 0, 0, 0, 0), (.getfield 28, 7, 2, 0), (.getfield 118, 1, 0, 0), (.iload_n 1, 0, 0, 0), (.iload_n 2, 0, 0, 0), (.invokevirtual 230, 55, 3, 5)] (by decide +kernel) ?_
              simp only [e_al_0, e_gf_7_6, e_gf_7_2, e_gf_1_0, e_il_1, e_il_2, e_iv_5_3, rd_7_6, rd_7_2, rd_1_0, e_nil, nol_n, nol_I, nol_R, rsum_0, rsum_I, rsum_R, ps_s, ps_n, true_and, and_true, Nat.reduceAdd, Nat.reduceLeDiff, hd2, rm, e37, Nat.reduceLT]
              refine ok_run (i2 := 0) (by omega) (by omega) hq0 rT iT (by omega) rC (by omega) (fun μ1 tT s1 s2 o5 => ?_)
              have z2 := rc_sr hR0 (fun c i q1 q2 q3 => o5 c i q2 (by omega))
              have p0 := tT.2.2 0 (by omega)
              have p1 := tT.2.2 1 (by omega)
              have v0 : vp_in 0 2 := vin (j := 0) (by omega) (by omega)
              have x0 : ix 0 = 0 := nI_ix (j := 0) (by omega)
              have v1 : vp_in 1 2 := vin (j := 1) (by omega) (by omega)
              have x1 : ix 1 = 1 := nI_ix (j := 1) (by omega)
              refine go_blk [(.iload_n 3, 0, 0, 0), (.lookupswitch 62 #[(0, 28), (1, 36)], 0, 0, 0)] (by decide +kernel) ?_
              simp only [e_il_3, e_lsw, e_nil, nol_n, nol_I, nol_R, rsum_0, rsum_I, rsum_R, ps_s, ps_n, true_and, and_true, Nat.reduceAdd, Nat.reduceLeDiff, hd2, rm, e37, Nat.reduceLT, s1, s2, p0, p1, v0, x0, v1, x1]
              have hc3 : c = 0 ∨ c = 1 ∨ c = 2 := by omega
              rcases hc3 with zz | zz | zz
              · subst zz
                have ev : aftV (trF op T t q0 0) 0 = nI (trF op T t q0 0).2.2 := rfl
                rw [ev] at h
                refine ⟨88, by decide, ?_⟩
                refine go_blk [(.aload_n 0, 0, 0, 0), (.getfield 52, 7, 6, 0), (.getfield 233, 5, 2, 0), (.ireturn, 0, 0, 0)] (by decide +kernel) ?_
                simp only [e_al_0, e_gf_7_6, e_gf_5_2, e_iret0, rd_7_6, rd_5_2, e_nil, nol_n, nol_I, nol_R, rsum_0, rsum_I, rsum_R, ps_s, ps_n, true_and, and_true, Nat.reduceAdd, Nat.reduceLeDiff, hd2, rm, e37, Nat.reduceLT, s1, s2, p0, p1, v0, x0, v1, x1]
                exact h μ1 z2.1 z2.2
              · subst zz
                have ev : aftV (trF op T t q0 0) 1 = nI ((trF op T t q0 0).1 8 0) + nI ((trF op T t q0 0).1 8 1) := rfl
                rw [ev] at h
                refine ⟨96, by decide, ?_⟩
                refine go_blk [(.aload_n 0, 0, 0, 0), (.getfield 52, 7, 6, 0), (.getfield 236, 5, 0, 0), (.getfield 237, 6, 7, 0), (.iconst 0, 0, 0, 0), (.iaload, 0, 0, 0), (.aload_n 0, 0, 0, 0), (.getfield 52, 7, 6, 0), (.getfield 236, 5, 0, 0), (.getfield 237, 6, 7, 0), (.iconst 1, 0, 0, 0), (.iaload, 0, 0, 0), (.iadd, 0, 0, 0), (.ireturn, 0, 0, 0)] (by decide +kernel) ?_
                simp only [e_al_0, e_gf_7_6, e_gf_5_0, e_gf_6_7, e_ic_0, e_ia, e_ic_1, e_iadd, e_iret0, rd_7_6, rd_5_0, rd_6_7, ai_0_4, ai_1_7, ai_2_1, ai_2_2, ai_3_1, ai_4_1, ai_6_3, ai_6_4, ai_6_5, ai_6_6, ai_6_7, ai_6_8, ai_8_5, ai_8_6, ai_8_17, ai_8_21, ai_8_23, ai_8_24, ai_8_27, ai_8_28, ai_8_38, ai_8_39, ai_8_40, e_nil, nol_n, nol_I, nol_R, rsum_0, rsum_I, rsum_R, ps_s, ps_n, true_and, and_true, Nat.reduceAdd, Nat.reduceLeDiff, hd2, rm, e37, Nat.reduceLT, s1, s2, p0, p1, v0, x0, v1, x1]
                exact h μ1 z2.1 z2.2
              · subst zz
                have ev : aftV (trF op T t q0 0) 2 = nI (trF op T t q0 0).2.1 := rfl
                rw [ev] at h
                refine ⟨122, by decide, ?_⟩
                refine go_blk [(.aload_n 0, 0, 0, 0), (.getfield 52, 7, 6, 0), (.getfield 240, 5, 1, 0), (.ireturn, 0, 0, 0)] (by decide +kernel) ?_
                simp only [e_al_0, e_gf_7_6, e_gf_5_1, e_iret0, rd_7_6, rd_5_1, e_nil, nol_n, nol_I, nol_R, rsum_0, rsum_I, rsum_R, ps_s, ps_n, true_and, and_true, Nat.reduceAdd, Nat.reduceLeDiff, hd2, rm, e37, Nat.reduceLT, s1, s2, p0, p1, v0, x0, v1, x1]
                exact h μ1 z2.1 z2.2
            · have e : vAfter (nI T) (nI q0) (nI c) ((L, pg), (laid, op), t, (f, cs), (im, t2, f2, cs2), (q, w, b)) = -103 := by
                show (if _ then _ else if _ then _ else _) = _
                rw [if_neg nb, if_pos c37]
              rw [e] at h
              refine go_blk [(.bipush (-103), 0, 0, 0), (.ireturn, 0, 0, 0)] (by decide +kernel) ?_
              simp only [e_bp_m103, e_iret0, e_nil, nol_n, nol_I, nol_R, rsum_0, rsum_I, rsum_R, ps_s, ps_n, true_and, and_true, Nat.reduceAdd, Nat.reduceLeDiff, hd2, rm, e37, Nat.reduceLT]
              exact h μ hR0 rfl
          · have e : vAfter x y z ((L, pg), (laid, op), t, (f, cs), (im, t2, f2, cs2), (q, w, b)) = -102 := by
              show (if _ then _ else if _ then _ else _) = _
              rw [if_pos (by unfold afB; rw [decide_eq_true (nle32 c21)]; simp)]
            rw [e] at h
            refine go_blk [(.bipush (-102), 0, 0, 0), (.ireturn, 0, 0, 0)] (by decide +kernel) ?_
            simp only [e_bp_m102, e_iret0, e_nil, nol_n, nol_I, nol_R, rsum_0, rsum_I, rsum_R, ps_s, ps_n, true_and, and_true, Nat.reduceAdd, Nat.reduceLeDiff, hd2, rm, e37, Nat.reduceLT]
            exact h μ hR0 rfl
theorem xc_count {l : Launch} {K : KK} {d : Nat} {μ : Mm} {P : Option AV → Mm → Prop} {N : Nat} {S : SS} {x : Int32} (hV : Inv N S) (hR : RC μ S) (hd1 : 14 ≤ d) (h : ∀ μ2, RC μ2 (S) → Off8 μ μ2 → P (some (vI (vCount x S))) μ2) : Ok l K d 96 [vR 7 0 0, vI x] μ P := by
  refine ok_go 2 (by decide +kernel) [some (vR 7 0 0), some (vI x)] rfl (Nat.le_of_ble_eq_true rfl) ?_
  have hR0 := hR
  have hV0 := hV
  obtain ⟨⟨L, pg⟩, ⟨laid, op⟩, t, ⟨f, cs⟩, ⟨im, t2, f2, cs2⟩, q, w, b⟩ := S
  obtain ⟨⟨rP, rC, rW⟩, ⟨rT, rG⟩, ⟨r7, rK⟩, ⟨r8, r9, r10⟩, rN⟩ := hR
  obtain ⟨⟨iL, iP⟩, ⟨iO, iO2⟩, ⟨iT, iF⟩, iK, ⟨iq, iw, ib⟩⟩ := hV
  have hd2 : 1 ≤ d := by omega
  have rm := rT.1
  have hn := iT.1
  have rO := rC.2.1
  have p0 := rT.2.2 0 (by omega)
  have p1 := rT.2.2 1 (by omega)
  have v0 : vp_in 0 2 := vin (j := 0) (by omega) (by omega)
  have x0 : ix 0 = 0 := nI_ix (j := 0) (by omega)
  have v1 : vp_in 1 2 := vin (j := 1) (by omega) (by omega)
  have x1 : ix 1 = 1 := nI_ix (j := 1) (by omega)
  have g1 := rG.1 1 (by omega) (by omega)
  have g3 : μ 1 0 0 3 = nI (ix (f 3)) := (rG.1 3 (by omega) (by omega)).trans iF.1.2
  have g4 := rG.1 4 (by omega) (by omega)
  have g5 := rG.1 5 (by omega) (by omega)
  have rL := rP.1
  have b3 := iF.1.1
  refine go_blk [(.iload_n 1, 0, 0, 0), (.tableswitch 198 0 13 #[71, 79, 92, 105, 116, 128, 140, 148, 159, 167, 175, 183, 188, 193], 0, 0, 0)] (by decide +kernel) ?_
  simp only [e_il_1, e_tsw, e_nil, nol_n, nol_I, nol_R, rsum_0, rsum_I, rsum_R, ps_s, ps_n, true_and, and_true, Nat.reduceAdd, Nat.reduceLeDiff, hd2, rm, p0, p1, v0, x0, v1, x1, g1, g3, g4, g5, rL, r8, r9, r10, Nat.reduceLT]
  rcases sw13 x with yy | yy | yy | yy | yy | yy | yy | yy | yy | yy | yy | yy | yy | yy | yy
  · subst yy
    have e : vCount 0 ((L, pg), (laid, op), t, (f, cs), (im, t2, f2, cs2), (q, w, b)) = nI (pop op) := by
      unfold vCount
      rw [if_pos (by decide), show ix (0 : Int32) = 0 from nI_ix (j := 0) (by omega)]
      rfl
    rw [e] at h
    refine ⟨72, by decide, ?_⟩
    refine go_blk [(.aload_n 0, 0, 0, 0), (.getfield 19, 7, 1, 0), (.invokevirtual 99, 4, 0, 0)] (by decide +kernel) ?_
    simp only [e_al_0, e_gf_7_1, e_iv_0_0, rd_7_1, e_nil, nol_n, nol_I, nol_R, rsum_0, rsum_I, rsum_R, ps_s, ps_n, true_and, and_true, Nat.reduceAdd, Nat.reduceLeDiff, hd2, rm, p0, p1, v0, x0, v1, x1, g1, g3, g4, g5, rL, r8, r9, r10, Nat.reduceLT]
    refine ok_openCells rO iO (by omega) ?_
    refine go_blk [(.ireturn, 0, 0, 0)] (by decide +kernel) ?_
    simp only [e_iret0, e_nil, nol_n, nol_I, nol_R, rsum_0, rsum_I, rsum_R, ps_s, ps_n, true_and, and_true, Nat.reduceAdd, Nat.reduceLeDiff, hd2, rm, p0, p1, v0, x0, v1, x1, g1, g3, g4, g5, rL, r8, r9, r10, Nat.reduceLT]
    exact h μ hR0 rfl
  · subst yy
    have e : vCount 1 ((L, pg), (laid, op), t, (f, cs), (im, t2, f2, cs2), (q, w, b)) = nI (t 8 0) := by
      unfold vCount
      rw [if_pos (by decide), show ix (1 : Int32) = 1 from nI_ix (j := 1) (by omega)]
      rfl
    rw [e] at h
    refine ⟨80, by decide, ?_⟩
    refine go_blk [(.aload_n 0, 0, 0, 0), (.getfield 28, 7, 2, 0), (.getfield 118, 1, 0, 0), (.getfield 237, 6, 7, 0), (.iconst 0, 0, 0, 0), (.iaload, 0, 0, 0), (.ireturn, 0, 0, 0)] (by decide +kernel) ?_
    simp only [e_al_0, e_gf_7_2, e_gf_1_0, e_gf_6_7, e_ic_0, e_ia, e_iret0, rd_7_2, rd_1_0, rd_6_7, ai_0_4, ai_1_7, ai_2_1, ai_2_2, ai_3_1, ai_4_1, ai_6_3, ai_6_4, ai_6_5, ai_6_6, ai_6_7, ai_6_8, ai_8_5, ai_8_6, ai_8_17, ai_8_21, ai_8_23, ai_8_24, ai_8_27, ai_8_28, ai_8_38, ai_8_39, ai_8_40, e_nil, nol_n, nol_I, nol_R, rsum_0, rsum_I, rsum_R, ps_s, ps_n, true_and, and_true, Nat.reduceAdd, Nat.reduceLeDiff, hd2, rm, p0, p1, v0, x0, v1, x1, g1, g3, g4, g5, rL, r8, r9, r10, Nat.reduceLT]
    exact h μ hR0 rfl
  · subst yy
    have e : vCount 2 ((L, pg), (laid, op), t, (f, cs), (im, t2, f2, cs2), (q, w, b)) = nI (t 8 1) := by
      unfold vCount
      rw [if_pos (by decide), show ix (2 : Int32) = 2 from nI_ix (j := 2) (by omega)]
      rfl
    rw [e] at h
    refine ⟨93, by decide, ?_⟩
    refine go_blk [(.aload_n 0, 0, 0, 0), (.getfield 28, 7, 2, 0), (.getfield 118, 1, 0, 0), (.getfield 237, 6, 7, 0), (.iconst 1, 0, 0, 0), (.iaload, 0, 0, 0), (.ireturn, 0, 0, 0)] (by decide +kernel) ?_
    simp only [e_al_0, e_gf_7_2, e_gf_1_0, e_gf_6_7, e_ic_1, e_ia, e_iret0, rd_7_2, rd_1_0, rd_6_7, ai_0_4, ai_1_7, ai_2_1, ai_2_2, ai_3_1, ai_4_1, ai_6_3, ai_6_4, ai_6_5, ai_6_6, ai_6_7, ai_6_8, ai_8_5, ai_8_6, ai_8_17, ai_8_21, ai_8_23, ai_8_24, ai_8_27, ai_8_28, ai_8_38, ai_8_39, ai_8_40, e_nil, nol_n, nol_I, nol_R, rsum_0, rsum_I, rsum_R, ps_s, ps_n, true_and, and_true, Nat.reduceAdd, Nat.reduceLeDiff, hd2, rm, p0, p1, v0, x0, v1, x1, g1, g3, g4, g5, rL, r8, r9, r10, Nat.reduceLT]
    exact h μ hR0 rfl
  · subst yy
    have e : vCount 3 ((L, pg), (laid, op), t, (f, cs), (im, t2, f2, cs2), (q, w, b)) = nI (t 0 1) := by
      unfold vCount
      rw [if_pos (by decide), show ix (3 : Int32) = 3 from nI_ix (j := 3) (by omega)]
      rfl
    rw [e] at h
    refine ⟨106, by decide, ?_⟩
    refine go_blk [(.aload_n 0, 0, 0, 0), (.getfield 28, 7, 2, 0), (.getfield 118, 1, 0, 0), (.getfield 139, 6, 1, 0), (.ireturn, 0, 0, 0)] (by decide +kernel) ?_
    simp only [e_al_0, e_gf_7_2, e_gf_1_0, e_gf_6_1, e_iret0, rd_7_2, rd_1_0, rd_6_1, e_nil, nol_n, nol_I, nol_R, rsum_0, rsum_I, rsum_R, ps_s, ps_n, true_and, and_true, Nat.reduceAdd, Nat.reduceLeDiff, hd2, rm, p0, p1, v0, x0, v1, x1, g1, g3, g4, g5, rL, r8, r9, r10, Nat.reduceLT]
    exact h μ hR0 rfl
  · subst yy
    have e : vCount 4 ((L, pg), (laid, op), t, (f, cs), (im, t2, f2, cs2), (q, w, b)) = nI (std t 0) := by
      unfold vCount
      rw [if_pos (by decide), show ix (4 : Int32) = 4 from nI_ix (j := 4) (by omega)]
      rfl
    rw [e] at h
    refine ⟨117, by decide, ?_⟩
    refine go_blk [(.aload_n 0, 0, 0, 0), (.getfield 28, 7, 2, 0), (.getfield 118, 1, 0, 0), (.iconst 0, 0, 0, 0), (.invokevirtual 249, 65, 1, 6)] (by decide +kernel) ?_
    simp only [e_al_0, e_gf_7_2, e_gf_1_0, e_ic_0, e_iv_6_1, rd_7_2, rd_1_0, e_nil, nol_n, nol_I, nol_R, rsum_0, rsum_I, rsum_R, ps_s, ps_n, true_and, and_true, Nat.reduceAdd, Nat.reduceLeDiff, hd2, rm, p0, p1, v0, x0, v1, x1, g1, g3, g4, g5, rL, r8, r9, r10, Nat.reduceLT]
    refine ok_standing (sd := 0) (by omega) rT iT (by omega) ?_
    refine go_blk [(.ireturn, 0, 0, 0)] (by decide +kernel) ?_
    simp only [e_iret0, e_nil, nol_n, nol_I, nol_R, rsum_0, rsum_I, rsum_R, ps_s, ps_n, true_and, and_true, Nat.reduceAdd, Nat.reduceLeDiff, hd2, rm, p0, p1, v0, x0, v1, x1, g1, g3, g4, g5, rL, r8, r9, r10, Nat.reduceLT]
    exact h μ hR0 rfl
  · subst yy
    have e : vCount 5 ((L, pg), (laid, op), t, (f, cs), (im, t2, f2, cs2), (q, w, b)) = nI (std t 1) := by
      unfold vCount
      rw [if_pos (by decide), show ix (5 : Int32) = 5 from nI_ix (j := 5) (by omega)]
      rfl
    rw [e] at h
    refine ⟨129, by decide, ?_⟩
    refine go_blk [(.aload_n 0, 0, 0, 0), (.getfield 28, 7, 2, 0), (.getfield 118, 1, 0, 0), (.iconst 1, 0, 0, 0), (.invokevirtual 249, 65, 1, 6)] (by decide +kernel) ?_
    simp only [e_al_0, e_gf_7_2, e_gf_1_0, e_ic_1, e_iv_6_1, rd_7_2, rd_1_0, e_nil, nol_n, nol_I, nol_R, rsum_0, rsum_I, rsum_R, ps_s, ps_n, true_and, and_true, Nat.reduceAdd, Nat.reduceLeDiff, hd2, rm, p0, p1, v0, x0, v1, x1, g1, g3, g4, g5, rL, r8, r9, r10, Nat.reduceLT]
    refine ok_standing (sd := 1) (by omega) rT iT (by omega) ?_
    refine go_blk [(.ireturn, 0, 0, 0)] (by decide +kernel) ?_
    simp only [e_iret0, e_nil, nol_n, nol_I, nol_R, rsum_0, rsum_I, rsum_R, ps_s, ps_n, true_and, and_true, Nat.reduceAdd, Nat.reduceLeDiff, hd2, rm, p0, p1, v0, x0, v1, x1, g1, g3, g4, g5, rL, r8, r9, r10, Nat.reduceLT]
    exact h μ hR0 rfl
  · subst yy
    have e : vCount 6 ((L, pg), (laid, op), t, (f, cs), (im, t2, f2, cs2), (q, w, b)) = f 1 := by
      unfold vCount
      rw [if_pos (by decide), show ix (6 : Int32) = 6 from nI_ix (j := 6) (by omega)]
      rfl
    rw [e] at h
    refine ⟨141, by decide, ?_⟩
    refine go_blk [(.aload_n 0, 0, 0, 0), (.getfield 28, 7, 2, 0), (.getfield 246, 1, 1, 0), (.ireturn, 0, 0, 0)] (by decide +kernel) ?_
    simp only [e_al_0, e_gf_7_2, e_gf_1_1, e_iret0, rd_7_2, rd_1_1, e_nil, nol_n, nol_I, nol_R, rsum_0, rsum_I, rsum_R, ps_s, ps_n, true_and, and_true, Nat.reduceAdd, Nat.reduceLeDiff, hd2, rm, p0, p1, v0, x0, v1, x1, g1, g3, g4, g5, rL, r8, r9, r10, Nat.reduceLT]
    exact h μ hR0 rfl
  · subst yy
    have e : vCount 7 ((L, pg), (laid, op), t, (f, cs), (im, t2, f2, cs2), (q, w, b)) = nI (pop (ix (f 3))) := by
      unfold vCount
      rw [if_pos (by decide), show ix (7 : Int32) = 7 from nI_ix (j := 7) (by omega)]
      rfl
    rw [e] at h
    refine ⟨149, by decide, ?_⟩
    refine go_blk [(.aload_n 0, 0, 0, 0), (.getfield 28, 7, 2, 0), (.getfield 252, 1, 3, 0), (.invokestatic 195, 178, 1, 0)] (by decide +kernel) ?_
    simp only [e_al_0, e_gf_7_2, e_gf_1_3, e_ivs_1, rd_7_2, rd_1_3, e_nil, Nat.reduceLT, nol_n, nol_I, nol_R, rsum_0, rsum_I, rsum_R, ps_s, ps_n, true_and, and_true, Nat.reduceAdd, Nat.reduceLeDiff, hd2, rm, p0, p1, v0, x0, v1, x1, g1, g3, g4, g5, rL, r8, r9, r10, Nat.reduceLT]
    refine ok_bitCount (by omega) ?_
    refine go_blk [(.ireturn, 0, 0, 0)] (by decide +kernel) ?_
    simp only [e_iret0, e_nil, nol_n, nol_I, nol_R, rsum_0, rsum_I, rsum_R, ps_s, ps_n, true_and, and_true, Nat.reduceAdd, Nat.reduceLeDiff, hd2, rm, p0, p1, v0, x0, v1, x1, g1, g3, g4, g5, rL, r8, r9, r10, Nat.reduceLT]
    exact h μ hR0 rfl
  · subst yy
    have e : vCount 8 ((L, pg), (laid, op), t, (f, cs), (im, t2, f2, cs2), (q, w, b)) = f 4 := by
      unfold vCount
      rw [if_pos (by decide), show ix (8 : Int32) = 8 from nI_ix (j := 8) (by omega)]
      rfl
    rw [e] at h
    refine ⟨160, by decide, ?_⟩
    refine go_blk [(.aload_n 0, 0, 0, 0), (.getfield 28, 7, 2, 0), (.getfield 255, 1, 4, 0), (.ireturn, 0, 0, 0)] (by decide +kernel) ?_
    simp only [e_al_0, e_gf_7_2, e_gf_1_4, e_iret0, rd_7_2, rd_1_4, e_nil, nol_n, nol_I, nol_R, rsum_0, rsum_I, rsum_R, ps_s, ps_n, true_and, and_true, Nat.reduceAdd, Nat.reduceLeDiff, hd2, rm, p0, p1, v0, x0, v1, x1, g1, g3, g4, g5, rL, r8, r9, r10, Nat.reduceLT]
    exact h μ hR0 rfl
  · subst yy
    have e : vCount 9 ((L, pg), (laid, op), t, (f, cs), (im, t2, f2, cs2), (q, w, b)) = f 5 := by
      unfold vCount
      rw [if_pos (by decide), show ix (9 : Int32) = 9 from nI_ix (j := 9) (by omega)]
      rfl
    rw [e] at h
    refine ⟨168, by decide, ?_⟩
    refine go_blk [(.aload_n 0, 0, 0, 0), (.getfield 28, 7, 2, 0), (.getfield 213, 1, 5, 0), (.ireturn, 0, 0, 0)] (by decide +kernel) ?_
    simp only [e_al_0, e_gf_7_2, e_gf_1_5, e_iret0, rd_7_2, rd_1_5, e_nil, nol_n, nol_I, nol_R, rsum_0, rsum_I, rsum_R, ps_s, ps_n, true_and, and_true, Nat.reduceAdd, Nat.reduceLeDiff, hd2, rm, p0, p1, v0, x0, v1, x1, g1, g3, g4, g5, rL, r8, r9, r10, Nat.reduceLT]
    exact h μ hR0 rfl
  · subst yy
    have e : vCount 10 ((L, pg), (laid, op), t, (f, cs), (im, t2, f2, cs2), (q, w, b)) = nI L := by
      unfold vCount
      rw [if_pos (by decide), show ix (10 : Int32) = 10 from nI_ix (j := 10) (by omega)]
      rfl
    rw [e] at h
    refine ⟨176, by decide, ?_⟩
    refine go_blk [(.aload_n 0, 0, 0, 0), (.getfield 12, 7, 0, 0), (.getfield 70, 3, 1, 0), (.ireturn, 0, 0, 0)] (by decide +kernel) ?_
    simp only [e_al_0, e_gf_7_0, e_gf_3_1, e_iret0, rd_7_0, rd_3_1, e_nil, nol_n, nol_I, nol_R, rsum_0, rsum_I, rsum_R, ps_s, ps_n, true_and, and_true, Nat.reduceAdd, Nat.reduceLeDiff, hd2, rm, p0, p1, v0, x0, v1, x1, g1, g3, g4, g5, rL, r8, r9, r10, Nat.reduceLT]
    exact h μ hR0 rfl
  · subst yy
    have e : vCount 11 ((L, pg), (laid, op), t, (f, cs), (im, t2, f2, cs2), (q, w, b)) = nI q := by
      unfold vCount
      rw [if_pos (by decide), show ix (11 : Int32) = 11 from nI_ix (j := 11) (by omega)]
      rfl
    rw [e] at h
    refine ⟨184, by decide, ?_⟩
    refine go_blk [(.aload_n 0, 0, 0, 0), (.getfield 60, 7, 8, 0), (.ireturn, 0, 0, 0)] (by decide +kernel) ?_
    simp only [e_al_0, e_gf_7_8, e_iret0, rd_7_8, e_nil, nol_n, nol_I, nol_R, rsum_0, rsum_I, rsum_R, ps_s, ps_n, true_and, and_true, Nat.reduceAdd, Nat.reduceLeDiff, hd2, rm, p0, p1, v0, x0, v1, x1, g1, g3, g4, g5, rL, r8, r9, r10, Nat.reduceLT]
    exact h μ hR0 rfl
  · subst yy
    have e : vCount 12 ((L, pg), (laid, op), t, (f, cs), (im, t2, f2, cs2), (q, w, b)) = nI w := by
      unfold vCount
      rw [if_pos (by decide), show ix (12 : Int32) = 12 from nI_ix (j := 12) (by omega)]
      rfl
    rw [e] at h
    refine ⟨189, by decide, ?_⟩
    refine go_blk [(.aload_n 0, 0, 0, 0), (.getfield 64, 7, 9, 0), (.ireturn, 0, 0, 0)] (by decide +kernel) ?_
    simp only [e_al_0, e_gf_7_9, e_iret0, rd_7_9, e_nil, nol_n, nol_I, nol_R, rsum_0, rsum_I, rsum_R, ps_s, ps_n, true_and, and_true, Nat.reduceAdd, Nat.reduceLeDiff, hd2, rm, p0, p1, v0, x0, v1, x1, g1, g3, g4, g5, rL, r8, r9, r10, Nat.reduceLT]
    exact h μ hR0 rfl
  · subst yy
    have e : vCount 13 ((L, pg), (laid, op), t, (f, cs), (im, t2, f2, cs2), (q, w, b)) = nI b := by
      unfold vCount
      rw [if_pos (by decide), show ix (13 : Int32) = 13 from nI_ix (j := 13) (by omega)]
      rfl
    rw [e] at h
    refine ⟨194, by decide, ?_⟩
    refine go_blk [(.aload_n 0, 0, 0, 0), (.getfield 67, 7, 10, 0), (.ireturn, 0, 0, 0)] (by decide +kernel) ?_
    simp only [e_al_0, e_gf_7_10, e_iret0, rd_7_10, e_nil, nol_n, nol_I, nol_R, rsum_0, rsum_I, rsum_R, ps_s, ps_n, true_and, and_true, Nat.reduceAdd, Nat.reduceLeDiff, hd2, rm, p0, p1, v0, x0, v1, x1, g1, g3, g4, g5, rL, r8, r9, r10, Nat.reduceLT]
    exact h μ hR0 rfl
  · have e : vCount x ((L, pg), (laid, op), t, (f, cs), (im, t2, f2, cs2), (q, w, b)) = -102 := by
      unfold vCount
      refine if_neg (fun z => ?_)
      obtain ⟨j, hj, hx⟩ := in_of (n := 14) (by omega) z
      exact yy j (by omega) (by omega) (by rw [hx, nI_toInt (by omega)])
    rw [e] at h
    refine ⟨199, sw_df (n := 13) (sw_out yy) (by decide), ?_⟩
    refine go_blk [(.bipush (-102), 0, 0, 0), (.ireturn, 0, 0, 0)] (by decide +kernel) ?_
    simp only [e_bp_m102, e_iret0, e_nil, nol_n, nol_I, nol_R, rsum_0, rsum_I, rsum_R, ps_s, ps_n, true_and, and_true, Nat.reduceAdd, Nat.reduceLeDiff, hd2, rm, p0, p1, v0, x0, v1, x1, g1, g3, g4, g5, rL, r8, r9, r10, Nat.reduceLT]
    exact h μ hR0 rfl
