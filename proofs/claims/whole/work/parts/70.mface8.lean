theorem rm_ct {μ μ2 : Mm} {P : Nat × (Nat → Nat)} {C : Bool × Nat} {t : TS} {f cs : Nat → Int32} {I : Bool × TS × (Nat → Int32) × (Nat → Int32)} {q w b w' b' : Nat} (hR : RM μ (P, C, t, (f, cs), I, (q, w, b))) (o : ∀ c i s j, ¬ (c = 8 ∧ i = 0 ∧ (Scr s j ∨ (s = 0 ∧ (j = 17 ∨ j = 18)))) → μ2 c i s j = μ c i s j) (h17 : μ2 8 0 0 17 = nI w') (h18 : μ2 8 0 0 18 = nI b') (hM : MRep μ2 t) : RM μ2 (P, C, t, (f, cs), I, (q, w', b')) ∧ OffX μ μ2 := by
  have z1 : RM (up (up μ2 8 0 0 17 (μ 8 0 0 17)) 8 0 0 18 (μ 8 0 0 18)) (P, C, t, (f, cs), I, (q, w, b)) ∧ OffX μ (up (up μ2 8 0 0 17 (μ 8 0 0 17)) 8 0 0 18 (μ 8 0 0 18)) := by
    refine rm_scr hR (fun c i s j hc => ?_) (mr_off hM (fun s j hs => by rw [up_ne (by omega), up_ne (by omega)]))
    by_cases a8 : c = 8 ∧ i = 0 ∧ s = 0 ∧ j = 18
    · obtain ⟨rfl, rfl, rfl, rfl⟩ := a8; exact up_self _ _ _ _ _ _
    · rw [up_ne a8]
      by_cases a7 : c = 8 ∧ i = 0 ∧ s = 0 ∧ j = 17
      · obtain ⟨rfl, rfl, rfl, rfl⟩ := a7; exact up_self _ _ _ _ _ _
      · rw [up_ne a7]
        refine o c i s j (fun z => ?_)
        rcases z.2.2 with y | y
        · exact hc ⟨z.1, z.2.1, y⟩
        · rcases y.2 with x | x
          · exact a7 ⟨z.1, z.2.1, y.1, x⟩
          · exact a8 ⟨z.1, z.2.1, y.1, x⟩
  have e : ∀ s j, ¬ (s = 0 ∧ (j = 17 ∨ j = 18)) → (up (up μ2 8 0 0 17 (μ 8 0 0 17)) 8 0 0 18 (μ 8 0 0 18)) 8 0 s j = μ2 8 0 s j := fun s j hs => by rw [up_ne (by omega), up_ne (by omega)]
  obtain ⟨L, pg⟩ := P
  obtain ⟨laid, op⟩ := C
  obtain ⟨im, t2, f2, cs2⟩ := I
  obtain ⟨⟨⟨⟨a1, a2⟩, a3, a4⟩, ⟨-, ⟨⟨c1, c2, c3, c4, c5⟩, c6⟩⟩, ⟨k1, k2⟩, ⟨b1, -, -⟩⟩, oX⟩ := z1
  refine ⟨⟨⟨⟨(e 0 19 (by omega)).symm.trans a1, fun j hj => (e 21 j (by omega)).symm.trans (a2 j hj)⟩, (e 0 0 (by omega)).symm.trans a3, (e 0 2 (by omega)).symm.trans a4⟩, ⟨hM, ⟨⟨(e 0 11 (by omega)).symm.trans c1, (e 0 12 (by omega)).symm.trans c2, (e 0 13 (by omega)).symm.trans c3, (e 0 14 (by omega)).symm.trans c4, (e 0 15 (by omega)).symm.trans c5⟩, fun j hj => (e 17 j (by omega)).symm.trans (c6 j hj)⟩⟩, ⟨fun z => ?_, fun z => ?_⟩, ⟨(e 0 1 (by omega)).symm.trans b1, h17, h18⟩⟩, fun c hc => by funext i s j; exact o c i s j (by omega)⟩
  · obtain ⟨⟨x1, x2, x3⟩, ⟨x4, x5, x6, x7, x8⟩, ⟨y1, y2, y3, y4, y5⟩, y6, y7⟩ := k1 z
    exact ⟨⟨(e 0 29 (by omega)).symm.trans x1, (e 0 30 (by omega)).symm.trans x2, (e 0 31 (by omega)).symm.trans x3⟩, ⟨(e 0 32 (by omega)).symm.trans x4, (e 0 33 (by omega)).symm.trans x5, (e 0 34 (by omega)).symm.trans x6, (e 0 35 (by omega)).symm.trans x7, (e 0 36 (by omega)).symm.trans x8⟩, ⟨(e 38 0 (by omega)).symm.trans y1, (e 38 1 (by omega)).symm.trans y2, (e 38 2 (by omega)).symm.trans y3, (e 38 3 (by omega)).symm.trans y4, (e 38 4 (by omega)).symm.trans y5⟩, fun j hj => (e 39 j (by omega)).symm.trans (y6 j hj), fun j hj => (e 40 j (by omega)).symm.trans (y7 j hj)⟩
  · rcases k2 z with y | ⟨q', y1, y2⟩
    · exact Or.inl ((e 0 29 (by omega)).symm.trans y)
    · exact Or.inr ⟨q', y1, (e 0 30 (by omega)).symm.trans y2⟩
def O23 (μ μ2 : Mm) : Prop := ∀ c i s j, ¬ (c = 8 ∧ i = 0 ∧ s = 23) → μ2 c i s j = μ c i s j
theorem lp_mw {l : Launch} {K : KK} {d : Nat} {P : Option AV → Mm → Prop} {μ0 : Mm} {op : Nat} {x1 : Int32} (ho : μ0 8 0 0 2 = nI op) (hop : op < 2 ^ 15) (hd1 : 4 ≤ d) (hk : ∀ μ2, O23 μ0 μ2 → WtR μ2 op → ∀ x, Go l K d 147 66 [some (vR 8 0 0), some (vI x1), some (vI x)] [] μ2 P) : ∀ (r e : Nat) (μ : Mm), e + r = 15 → O23 μ0 μ → (∀ c, c < e → μ 8 0 23 c = nI (sn op c)) → Go l K d 147 43 [some (vR 8 0 0), some (vI x1), some (vI (nI e))] [] μ P := by
  have hd2 : 1 ≤ d := by omega
  intro r
  induction r with
  | zero =>
    intro e μ he hO hA
    have e0 : e = 15 := by omega
    subst e0
    refine go_blk [(.iload_n 2, 0, 0, 0), (.bipush 15, 0, 0, 0), (.if_icmp .ge 20, 66, 0, 0)] (by decide +kernel) ?_
    simp only [e_il_2, e_bp_15, e_icmp_ge, e_nil, nol_n, nol_I, nol_R, rsum_0, rsum_I, rsum_R, ps_s, ps_n, true_and, and_true, Nat.reduceAdd, Nat.reduceLeDiff]
    refine ⟨fun c46 => ?_, fun c46 => ?_⟩
    · exact hk μ hO hA _
    · exact absurd (by decide) c46
  | succ r ih =>
    intro e μ he hO hA
    have v1 : vp_in (nI e) 15 := vin (by omega) (by omega)
    have x2 : ix (nI e) = e := nI_ix (by omega)
    refine go_blk [(.iload_n 2, 0, 0, 0), (.bipush 15, 0, 0, 0), (.if_icmp .ge 20, 66, 0, 0)] (by decide +kernel) ?_
    simp only [e_il_2, e_bp_15, e_icmp_ge, e_nil, nol_n, nol_I, nol_R, rsum_0, rsum_I, rsum_R, ps_s, ps_n, true_and, and_true, Nat.reduceAdd, Nat.reduceLeDiff, hd2, v1, x2]
    refine ⟨fun c46 => ?_, fun c46 => ?_⟩
    · exact absurd c46 (nI_ge (b := 15) (by omega) (by omega))
    · refine go_blk [(.aload_n 0, 0, 0, 0), (.getfield 30, 8, 22, 0), (.iload_n 2, 0, 0, 0), (.aload_n 0, 0, 0, 0), (.iload_n 2, 0, 0, 0), (.invokevirtual 146, 125, 1, 8)] (by decide +kernel) ?_
      simp only [e_al_0, e_gf_8_22, e_il_2, e_iv_8_1, rd_8_22, e_nil, nol_n, nol_I, nol_R, rsum_0, rsum_I, rsum_R, ps_s, ps_n, true_and, and_true, Nat.reduceAdd, Nat.reduceLeDiff, hd2, v1, x2]
      refine okm_seen (by omega) ((hO 8 0 0 2 (by omega)).trans ho) hop (by omega) ?_
      refine go_blk [(.iastore, 0, 0, 0)] (by decide +kernel) ?_
      simp only [e_iast, ai_0_4, ai_1_7, ai_2_1, ai_2_2, ai_3_1, ai_4_1, ai_6_3, ai_6_4, ai_6_5, ai_6_6, ai_6_7, ai_6_8, ai_8_5, ai_8_6, ai_8_17, ai_8_21, ai_8_23, ai_8_24, ai_8_27, ai_8_28, ai_8_38, ai_8_39, ai_8_40, e_nil, nol_n, nol_I, nol_R, rsum_0, rsum_I, rsum_R, ps_s, ps_n, true_and, and_true, Nat.reduceAdd, Nat.reduceLeDiff, hd2, v1, x2]
      refine go_blk [(.iinc 2 1, 0, 0, 0), (.goto (-20), 43, 0, 0)] (by decide +kernel) ?_
      simp only [e_inc_2_1n, e_inc_2_1I, e_inc_2_1R, e_goto, e_nil, nol_n, nol_I, nol_R, rsum_0, rsum_I, rsum_R, ps_s, ps_n, true_and, and_true, Nat.reduceAdd, Nat.reduceLeDiff, hd2, v1, x2]
      rw [nI_1]
      refine ih (e + 1) _ (by omega) (fun c i s j hc => (up_ne (by omega)).trans (hO c i s j hc)) (fun c hc => ?_)
      by_cases z : c = e
      · rw [z, up_self]
      · rw [up_ne (by omega)]; exact hA c (by omega)
theorem xm_watch {l : Launch} {K : KK} {d : Nat} {μ : Mm} {P : Option AV → Mm → Prop} {N : Nat} {S : SS} {x : Int32} (hV : Inv N S) (hR : RM μ S) (hd1 : 14 ≤ d) (h : ∀ μ2, RM μ2 ((aWatch x S).2) → OffX μ μ2 → P (some (vI ((aWatch x S).1))) μ2) : Ok l K d 147 [vR 8 0 0, vI x] μ P := by
  refine ok_go 3 (by decide +kernel) [some (vR 8 0 0), some (vI x), none] rfl (Nat.le_of_ble_eq_true rfl) ?_
  have hR0 := hR
  have hV0 := hV
  obtain ⟨⟨L, pg⟩, ⟨laid, op⟩, t, ⟨f, cs⟩, ⟨im, t2, f2, cs2⟩, q, w, b⟩ := S
  obtain ⟨⟨rP, r0, r2⟩, ⟨rM, rG⟩, ⟨rK, rK2⟩, ⟨r1, r17, r18⟩⟩ := hR
  obtain ⟨⟨iL, iP⟩, ⟨iO, iO2⟩, ⟨iT, iF⟩, iK, ⟨iq, iw, ib⟩⟩ := hV
  have hd2 : 1 ≤ d := by omega
  have e25 : (nI w = 20) = (w = 20) := propext (nI_eq (b := 20) (by omega) (by omega))
  have ew1 : nI w + 1 = nI (w + 1) := nI_1 w
  refine go_blk [(.iload_n 1, 0, 0, 0), (.iconst 0, 0, 0, 0), (.iconst 1, 0, 0, 0), (.invokestatic 51, 103, 3, 0)] (by decide +kernel) ?_
  simp only [e_il_1, e_ic_0, e_ic_1, e_ivs_3, e_nil, Nat.reduceLT, nol_n, nol_I, nol_R, rsum_0, rsum_I, rsum_R, ps_s, ps_n, true_and, and_true, Nat.reduceAdd, Nat.reduceLeDiff, hd2, bi_0, r0, r17, e25, ew1]
  refine okm_within ?_
  refine go_blk [(.ifCond .ne 6, 12, 0, 0)] (by decide +kernel) ?_
  simp only [e_if_ne, e_nil, nol_n, nol_I, nol_R, rsum_0, rsum_I, rsum_R, ps_s, ps_n, true_and, and_true, Nat.reduceAdd, Nat.reduceLeDiff, hd2, bi_0, r0, r17, e25, ew1]
  refine ⟨fun c6 => ?_, fun c6 => ?_⟩
  · have x01 : ∃ v, v < 2 ∧ x = nI v := by
      have z := eq_true_of_ne_false c6
      rw [lt1b] at z
      exact sd_of z
    obtain ⟨v, hv, rfl⟩ := x01
    have nx : ¬ (¬ nI v = 0 ∧ ¬ nI v = 1) := by
      rcases (show v = 0 ∨ v = 1 by omega) with z | z
      · subst z; exact fun y => y.1 rfl
      · subst z; exact fun y => y.2 rfl
    refine go_blk [(.aload_n 0, 0, 0, 0), (.getfield 89, 8, 0, 0), (.ifCond .eq 12, 28, 0, 0)] (by decide +kernel) ?_
    simp only [e_al_0, e_gf_8_0, e_if_eq, rd_8_0, e_nil, nol_n, nol_I, nol_R, rsum_0, rsum_I, rsum_R, ps_s, ps_n, true_and, and_true, Nat.reduceAdd, Nat.reduceLeDiff, hd2, bi_0, r0, r17, e25, ew1]
    refine ⟨fun c16 => ?_, fun c16 => ?_⟩
    · have e : aWatch (nI v) ((L, pg), (laid, op), t, (f, cs), (im, t2, f2, cs2), (q, w, b)) = (-103, ((L, pg), (laid, op), t, (f, cs), (im, t2, f2, cs2), (q, w, b))) := by
        show (if _ then _ else if _ then _ else _) = _
        rw [if_neg nx, if_pos (Or.inl c16)]
      rw [e] at h
      refine go_blk [(.bipush (-103), 0, 0, 0), (.ireturn, 0, 0, 0)] (by decide +kernel) ?_
      simp only [e_bp_m103, e_iret0, e_nil, nol_n, nol_I, nol_R, rsum_0, rsum_I, rsum_R, ps_s, ps_n, true_and, and_true, Nat.reduceAdd, Nat.reduceLeDiff, hd2, bi_0, r0, r17, e25, ew1]
      exact h μ hR0 (offx_rf μ)
    · refine go_blk [(.aload_n 0, 0, 0, 0), (.getfield 190, 8, 17, 0), (.bipush 20, 0, 0, 0), (.if_icmp .ne 6, 31, 0, 0)] (by decide +kernel) ?_
      simp only [e_al_0, e_gf_8_17, e_bp_20, e_icmp_ne, rd_8_17, e_nil, nol_n, nol_I, nol_R, rsum_0, rsum_I, rsum_R, ps_s, ps_n, true_and, and_true, Nat.reduceAdd, Nat.reduceLeDiff, hd2, bi_0, r0, r17, e25, ew1]
      refine ⟨fun c25 => ?_, fun c25 => ?_⟩
      · have e : aWatch (nI v) ((L, pg), (laid, op), t, (f, cs), (im, t2, f2, cs2), (q, w, b)) = (if nI v = 0 then nI (pop (cF op op)) else nI (cF op op), ((L, pg), (laid, op), t, (f, cs), (im, t2, f2, cs2), (q, w + 1, b))) := by
          show (if _ then _ else if _ then _ else _) = _
          rw [if_neg nx, if_neg (fun z => z.elim c16 (fun y => by omega))]
        rw [e] at h
        refine go_blk [(.aload_n 0, 0, 0, 0), (.dup, 0, 0, 0), (.getfield 190, 8, 17, 0), (.iconst 1, 0, 0, 0), (.iadd, 0, 0, 0), (.putfield 190, 8, 17, 0)] (by decide +kernel) ?_
        simp only [e_al_0, e_dupI, e_dupR, e_gf_8_17, e_ic_1, e_iadd, e_pf_8_17, rd_8_17, e_nil, nol_n, nol_I, nol_R, rsum_0, rsum_I, rsum_R, ps_s, ps_n, true_and, and_true, Nat.reduceAdd, Nat.reduceLeDiff, hd2, bi_0, r0, r17, e25, ew1]
        refine go_blk [(.iconst 0, 0, 0, 0), (.istore_n 2, 0, 0, 0)] (by decide +kernel) ?_
        simp only [e_ic_0, e_is_2n, e_is_2I, e_is_2R, e_nil, nol_n, nol_I, nol_R, rsum_0, rsum_I, rsum_R, ps_s, ps_n, true_and, and_true, Nat.reduceAdd, Nat.reduceLeDiff, hd2, bi_0, r0, r17, e25, ew1]
        refine lp_mw (μ0 := up μ 8 0 0 17 (nI (w + 1))) (op := op) ((up_ne (by omega)).trans r2) iO (by omega) (fun μ1 o1 wt x => ?_) 15 0 _ (by omega) (fun c i s j hc => rfl) (fun c hc => by omega)
        refine go_blk [(.aload_n 0, 0, 0, 0), (.iload_n 1, 0, 0, 0), (.invokevirtual 193, 146, 1, 8)] (by decide +kernel) ?_
        simp only [e_al_0, e_il_1, e_iv_8_1, e_nil, nol_n, nol_I, nol_R, rsum_0, rsum_I, rsum_R, ps_s, ps_n, true_and, and_true, Nat.reduceAdd, Nat.reduceLeDiff, hd2]
        refine okm_watchNow iO ((o1 8 0 0 2 (by omega)).trans ((up_ne (by omega)).trans r2)) wt hv (by omega) ?_
        refine go_blk [(.ireturn, 0, 0, 0)] (by decide +kernel) ?_
        simp only [e_iret0, e_nil, nol_n, nol_I, nol_R, rsum_0, rsum_I, rsum_R, ps_s, ps_n, true_and, and_true, Nat.reduceAdd, Nat.reduceLeDiff, hd2]
        have ev : (if nI v = 0 then nI (pop (cF op op)) else nI (cF op op)) = (if v = 1 then nI (cF op op) else nI (pop (cF op op))) := by
          rcases (show v = 0 ∨ v = 1 by omega) with z | z <;> subst z <;> rfl
        rw [ev] at h
        have z2 := rm_ct (w' := w + 1) (b' := b) hR0 (fun c i s j hc => (o1 c i s j (fun z => hc ⟨z.1, z.2.1, by unfold Scr; omega⟩)).trans (up_ne (fun z => hc ⟨z.1, z.2.1, by omega⟩))) ((o1 8 0 0 17 (by omega)).trans (up_self _ _ _ _ _ _)) ((o1 8 0 0 18 (by omega)).trans ((up_ne (by omega)).trans r18)) (mr_off rM (fun s j hs => (o1 8 0 s j (by omega)).trans (up_ne (by omega))))
        exact h μ1 z2.1 z2.2
      · have e : aWatch (nI v) ((L, pg), (laid, op), t, (f, cs), (im, t2, f2, cs2), (q, w, b)) = (-103, ((L, pg), (laid, op), t, (f, cs), (im, t2, f2, cs2), (q, w, b))) := by
          show (if _ then _ else if _ then _ else _) = _
          rw [if_neg nx, if_pos (Or.inr (by omega))]
        rw [e] at h
        refine go_blk [(.bipush (-103), 0, 0, 0), (.ireturn, 0, 0, 0)] (by decide +kernel) ?_
        simp only [e_bp_m103, e_iret0, e_nil, nol_n, nol_I, nol_R, rsum_0, rsum_I, rsum_R, ps_s, ps_n, true_and, and_true, Nat.reduceAdd, Nat.reduceLeDiff, hd2, bi_0, r0, r17, e25, ew1]
        exact h μ hR0 (offx_rf μ)
  · have e : aWatch x ((L, pg), (laid, op), t, (f, cs), (im, t2, f2, cs2), (q, w, b)) = (-102, ((L, pg), (laid, op), t, (f, cs), (im, t2, f2, cs2), (q, w, b))) := by
      show (if _ then _ else if _ then _ else _) = _
      rw [if_pos ⟨fun z => by rw [z] at c6; revert c6; decide, fun z => by rw [z] at c6; revert c6; decide⟩]
    rw [e] at h
    refine go_blk [(.bipush (-102), 0, 0, 0), (.ireturn, 0, 0, 0)] (by decide +kernel) ?_
    simp only [e_bp_m102, e_iret0, e_nil, nol_n, nol_I, nol_R, rsum_0, rsum_I, rsum_R, ps_s, ps_n, true_and, and_true, Nat.reduceAdd, Nat.reduceLeDiff, hd2, bi_0, r0, r17, e25, ew1]
    exact h μ hR0 (offx_rf μ)
theorem xm_best {l : Launch} {K : KK} {d : Nat} {μ : Mm} {P : Option AV → Mm → Prop} {N : Nat} {S : SS} {x y z : Int32} (hV : Inv N S) (hR : RM μ S) (hd1 : 14 ≤ d) (h : ∀ μ2, RM μ2 ((aBest x y z S).2) → OffX μ μ2 → P (some (vI ((aBest x y z S).1))) μ2) : Ok l K d 158 [vR 8 0 0, vI x, vI y, vI z] μ P := by
  refine ok_go 6 (by decide +kernel) [some (vR 8 0 0), some (vI x), some (vI y), some (vI z), none, none] rfl (Nat.le_of_ble_eq_true rfl) ?_
  have hR0 := hR
  have hV0 := hV
  obtain ⟨⟨L, pg⟩, ⟨laid, op⟩, t, ⟨f, cs⟩, ⟨im, t2, f2, cs2⟩, q, w, b⟩ := S
  obtain ⟨⟨rP, r0, r2⟩, ⟨rM, rG⟩, ⟨rK, rK2⟩, ⟨r1, r17, r18⟩⟩ := hR
  obtain ⟨⟨iL, iP⟩, ⟨iO, iO2⟩, ⟨iT, iF⟩, iK, ⟨iq, iw, ib⟩⟩ := hV
  have hd2 : 1 ≤ d := by omega
  have e43 : (nI b = 20) = (b = 20) := propext (nI_eq (b := 20) (by omega) (by omega))
  have eb1 : nI b + 1 = nI (b + 1) := nI_1 b
  refine go_blk [(.iload_n 1, 0, 0, 0), (.iconst 0, 0, 0, 0), (.iconst 1, 0, 0, 0), (.invokestatic 51, 103, 3, 0)] (by decide +kernel) ?_
  simp only [e_il_1, e_ic_0, e_ic_1, e_ivs_3, e_nil, Nat.reduceLT, nol_n, nol_I, nol_R, rsum_0, rsum_I, rsum_R, ps_s, ps_n, true_and, and_true, Nat.reduceAdd, Nat.reduceLeDiff, hd2, bi_0, r0, r18, e43, eb1]
  refine okm_within ?_
  rw [lt1b]
  refine go_blk [(.ifCond .eq 21, 27, 0, 0)] (by decide +kernel) ?_
  simp only [e_if_eq, e_nil, nol_n, nol_I, nol_R, rsum_0, rsum_I, rsum_R, ps_s, ps_n, true_and, and_true, Nat.reduceAdd, Nat.reduceLeDiff, hd2, bi_0, r0, r18, e43, eb1]
  refine ⟨fun c6 => ?_, fun c6 => ?_⟩
  · have e : aBest x y z ((L, pg), (laid, op), t, (f, cs), (im, t2, f2, cs2), (q, w, b)) = (-102, ((L, pg), (laid, op), t, (f, cs), (im, t2, f2, cs2), (q, w, b))) := by
      show (if _ then _ else if _ then _ else _) = _
      rw [if_pos (by unfold bsB; rw [show sdB x = false from c6]; rfl)]
    rw [e] at h
    refine go_blk [(.bipush (-102), 0, 0, 0), (.ireturn, 0, 0, 0)] (by decide +kernel) ?_
    simp only [e_bp_m102, e_iret0, e_nil, nol_n, nol_I, nol_R, rsum_0, rsum_I, rsum_R, ps_s, ps_n, true_and, and_true, Nat.reduceAdd, Nat.reduceLeDiff, hd2, bi_0, r0, r18, e43, eb1]
    exact h μ hR0 (offx_rf μ)
  · have sx := eq_true_of_ne_false c6
    refine go_blk [(.iload_n 2, 0, 0, 0), (.iconst 1, 0, 0, 0), (.iconst 3, 0, 0, 0), (.invokestatic 51, 103, 3, 0)] (by decide +kernel) ?_
    simp only [e_il_2, e_ic_1, e_ic_3, e_ivs_3, e_nil, Nat.reduceLT, nol_n, nol_I, nol_R, rsum_0, rsum_I, rsum_R, ps_s, ps_n, true_and, and_true, Nat.reduceAdd, Nat.reduceLeDiff, hd2, bi_0, r0, r18, e43, eb1]
    refine okm_within ?_
    refine go_blk [(.ifCond .eq 12, 27, 0, 0)] (by decide +kernel) ?_
    simp only [e_if_eq, e_nil, nol_n, nol_I, nol_R, rsum_0, rsum_I, rsum_R, ps_s, ps_n, true_and, and_true, Nat.reduceAdd, Nat.reduceLeDiff, hd2, bi_0, r0, r18, e43, eb1]
    refine ⟨fun c15 => ?_, fun c15 => ?_⟩
    · have e : aBest x y z ((L, pg), (laid, op), t, (f, cs), (im, t2, f2, cs2), (q, w, b)) = (-102, ((L, pg), (laid, op), t, (f, cs), (im, t2, f2, cs2), (q, w, b))) := by
        show (if _ then _ else if _ then _ else _) = _
        rw [if_pos (by unfold bsB; rw [Bool.and_assoc (sdB x), c15]; simp)]
      rw [e] at h
      refine go_blk [(.bipush (-102), 0, 0, 0), (.ireturn, 0, 0, 0)] (by decide +kernel) ?_
      simp only [e_bp_m102, e_iret0, e_nil, nol_n, nol_I, nol_R, rsum_0, rsum_I, rsum_R, ps_s, ps_n, true_and, and_true, Nat.reduceAdd, Nat.reduceLeDiff, hd2, bi_0, r0, r18, e43, eb1]
      exact h μ hR0 (offx_rf μ)
    · have sy := eq_true_of_ne_false c15
      refine go_blk [(.iload_n 3, 0, 0, 0), (.iconst 0, 0, 0, 0), (.iconst 2, 0, 0, 0), (.invokestatic 51, 103, 3, 0)] (by decide +kernel) ?_
      simp only [e_il_3, e_ic_0, e_ic_2, e_ivs_3, e_nil, Nat.reduceLT, nol_n, nol_I, nol_R, rsum_0, rsum_I, rsum_R, ps_s, ps_n, true_and, and_true, Nat.reduceAdd, Nat.reduceLeDiff, hd2, bi_0, r0, r18, e43, eb1]
      refine okm_within ?_
      refine go_blk [(.ifCond .ne 6, 30, 0, 0)] (by decide +kernel) ?_
      simp only [e_if_ne, e_nil, nol_n, nol_I, nol_R, rsum_0, rsum_I, rsum_R, ps_s, ps_n, true_and, and_true, Nat.reduceAdd, Nat.reduceLeDiff, hd2, bi_0, r0, r18, e43, eb1]
      refine ⟨fun c24 => ?_, fun c24 => ?_⟩
      · have hb1 : bsB x y z = true := by
          unfold bsB
          rw [Bool.and_assoc (sdB x), Bool.and_assoc, sx, sy, eq_true_of_ne_false c24]
          rfl
        have nb : ¬ bsB x y z = false := by rw [hb1]; decide
        obtain ⟨⟨s, hs, rfl⟩, ⟨k, hk1, hk3, rfl⟩, ⟨c, hc, rfl⟩⟩ := bs_of hb1
        have xs : ix (nI s) = s := nI_ix (by omega)
        have xk : ix (nI k) = k := nI_ix (by omega)
        have e69 : (nI k = 1) = (k = 1) := propext (nI_eq (b := 1) (by omega) (by omega))
        have e79 : (nI k = 2) = (k = 2) := propext (nI_eq (b := 2) (by omega) (by omega))
        have e94 : (nI c = 2) = (c = 2) := propext (nI_eq (b := 2) (by omega) (by omega))
        refine go_blk [(.aload_n 0, 0, 0, 0), (.getfield 89, 8, 0, 0), (.ifCond .eq 12, 46, 0, 0)] (by decide +kernel) ?_
        simp only [e_al_0, e_gf_8_0, e_if_eq, rd_8_0, e_nil, nol_n, nol_I, nol_R, rsum_0, rsum_I, rsum_R, ps_s, ps_n, true_and, and_true, Nat.reduceAdd, Nat.reduceLeDiff, hd2, bi_0, r0, r18, e43, eb1, e69, e79, e94]
        refine ⟨fun c34 => ?_, fun c34 => ?_⟩
        · have e : aBest (nI s) (nI k) (nI c) ((L, pg), (laid, op), t, (f, cs), (im, t2, f2, cs2), (q, w, b)) = (-103, ((L, pg), (laid, op), t, (f, cs), (im, t2, f2, cs2), (q, w, b))) := by
            show (if _ then _ else if _ then _ else _) = _
            rw [if_neg nb, if_pos (Or.inl c34)]
          rw [e] at h
          refine go_blk [(.bipush (-103), 0, 0, 0), (.ireturn, 0, 0, 0)] (by decide +kernel) ?_
          simp only [e_bp_m103, e_iret0, e_nil, nol_n, nol_I, nol_R, rsum_0, rsum_I, rsum_R, ps_s, ps_n, true_and, and_true, Nat.reduceAdd, Nat.reduceLeDiff, hd2, bi_0, r0, r18, e43, eb1, e69, e79, e94]
          exact h μ hR0 (offx_rf μ)
        · refine go_blk [(.aload_n 0, 0, 0, 0), (.getfield 230, 8, 18, 0), (.bipush 20, 0, 0, 0), (.if_icmp .ne 6, 49, 0, 0)] (by decide +kernel) ?_
          simp only [e_al_0, e_gf_8_18, e_bp_20, e_icmp_ne, rd_8_18, e_nil, nol_n, nol_I, nol_R, rsum_0, rsum_I, rsum_R, ps_s, ps_n, true_and, and_true, Nat.reduceAdd, Nat.reduceLeDiff, hd2, bi_0, r0, r18, e43, eb1, e69, e79, e94]
          refine ⟨fun c43 => ?_, fun c43 => ?_⟩
          · have e : aBest (nI s) (nI k) (nI c) ((L, pg), (laid, op), t, (f, cs), (im, t2, f2, cs2), (q, w, b)) = (bstV (mnP op s k t s) k (nI c), ((L, pg), (laid, op), t, (f, cs), (im, t2, f2, cs2), (q, w, b + 1))) := by
              show (if _ then _ else if _ then _ else _) = _
              rw [if_neg nb, if_neg (fun z => z.elim c34 (fun y => by omega)), xs, xk]
            rw [e] at h
            obtain ⟨k', hk'⟩ : ∃ z, k = z + 1 := ⟨k - 1, by omega⟩
            refine go_blk [(.aload_n 0, 0, 0, 0), (.dup, 0, 0, 0), (.getfield 230, 8, 18, 0), (.iconst 1, 0, 0, 0), (.iadd, 0, 0, 0), (.putfield 230, 8, 18, 0)] (by decide +kernel) ?_
            simp only [e_al_0, e_dupI, e_dupR, e_gf_8_18, e_ic_1, e_iadd, e_pf_8_18, rd_8_18, e_nil, nol_n, nol_I, nol_R, rsum_0, rsum_I, rsum_R, ps_s, ps_n, true_and, and_true, Nat.reduceAdd, Nat.reduceLeDiff, hd2, bi_0, r0, r18, e43, eb1, e69, e79, e94]
            refine go_blk [(.aload_n 0, 0, 0, 0), (.iload_n 1, 0, 0, 0), (.iload_n 2, 0, 0, 0), (.invokevirtual 233, 157, 2, 8)] (by decide +kernel) ?_
            simp only [e_al_0, e_il_1, e_il_2, e_iv_8_2, e_nil, nol_n, nol_I, nol_R, rsum_0, rsum_I, rsum_R, ps_s, ps_n, true_and, and_true, Nat.reduceAdd, Nat.reduceLeDiff, hd2, bi_0, r0, r18, e43, eb1, e69, e79, e94]
            rw [hk']
            refine okm_layBest iO hs (by omega) (by omega) iT (mr_off rM (fun s j hs => up_ne (by omega))) ((up_ne (by omega)).trans r2) (fun μ1 nM o1 b25 => ?_)
            rw [← hk'] at b25 ⊢
            refine go_blk [(.istore 4, 0, 0, 0), (.iload_n 2, 0, 0, 0), (.iconst 1, 0, 0, 0), (.if_icmp .ne 8, 77, 0, 0)] (by decide +kernel) ?_
            simp only [e_isw_4n, e_isw_4I, e_isw_4R, e_il_2, e_ic_1, e_icmp_ne, e_nil, nol_n, nol_I, nol_R, rsum_0, rsum_I, rsum_R, ps_s, ps_n, true_and, and_true, Nat.reduceAdd, Nat.reduceLeDiff, hd2, bi_0, r0, r18, e43, eb1, e69, e79, e94]
            refine ⟨fun c69 => ?_, fun c69 => ?_⟩
            · refine go_blk [(.iload_n 2, 0, 0, 0), (.iconst 2, 0, 0, 0), (.if_icmp .ne 8, 87, 0, 0)] (by decide +kernel) ?_
              simp only [e_il_2, e_ic_2, e_icmp_ne, e_nil, nol_n, nol_I, nol_R, rsum_0, rsum_I, rsum_R, ps_s, ps_n, true_and, and_true, Nat.reduceAdd, Nat.reduceLeDiff, hd2, bi_0, r0, r18, e43, eb1, e69, e79, e94]
              refine ⟨fun c79 => ?_, fun c79 => ?_⟩
              · have k3 : k = 3 := by omega
                subst k3
                refine go_blk [(.sipush 1000, 0, 0, 0), (.istore 5, 0, 0, 0), (.iload_n 3, 0, 0, 0), (.iconst 2, 0, 0, 0), (.if_icmp .ne 10, 104, 0, 0)] (by decide +kernel) ?_
                simp only [e_sp_1000, e_isw_5n, e_isw_5I, e_isw_5R, e_il_3, e_ic_2, e_icmp_ne, e_nil, nol_n, nol_I, nol_R, rsum_0, rsum_I, rsum_R, ps_s, ps_n, true_and, and_true, Nat.reduceAdd, Nat.reduceLeDiff, hd2, bi_0, r0, r18, e43, eb1, e69, e79, e94]
                refine ⟨fun c94 => ?_, fun c94 => ?_⟩
                · refine go_blk [(.iload 4, 0, 0, 0), (.iload 5, 0, 0, 0), (.iload_n 3, 0, 0, 0), (.invokestatic 236, 106, 3, 0)] (by decide +kernel) ?_
                  simp only [e_ilw_4, e_ilw_5, e_il_3, e_ivs_3, e_nil, Nat.reduceLT, nol_n, nol_I, nol_R, rsum_0, rsum_I, rsum_R, ps_s, ps_n, true_and, and_true, Nat.reduceAdd, Nat.reduceLeDiff, hd2, bi_0, r0, r18, e43, eb1, e69, e79, e94]
                  have cc : c < 2 := by omega
                  have ev : bstV (mnP op s 3 t s) 3 (nI c) = (if c = 0 then (mnP op s 3 t s).1 / nI (gdV (mnP op s 3 t s).1 3) else nI (10 ^ 3 / gdV (mnP op s 3 t s).1 3)) := by
                    rcases (show c = 0 ∨ c = 1 by omega) with z | z <;> subst z <;> rfl
                  rw [ev] at h
                  refine okm_lowest (k := 3) (pt := c) (by omega) cc (mn_rg _ _ _ (by omega) iT) ?_
                  refine go_blk [(.ireturn, 0, 0, 0)] (by decide +kernel) ?_
                  simp only [e_iret0, e_nil, nol_n, nol_I, nol_R, rsum_0, rsum_I, rsum_R, ps_s, ps_n, true_and, and_true, Nat.reduceAdd, Nat.reduceLeDiff, hd2, bi_0, r0, r18, e43, eb1, e69, e79, e94]
                  have z2 := rm_ct (w' := w) (b' := b + 1) hR0 (fun c i s j hc => (o1 c i s j (fun z => hc ⟨z.1, z.2.1, by unfold Scr; omega⟩) (fun z => hc ⟨z.1, z.2.1, by unfold Scr; omega⟩)).trans (up_ne (fun z => hc ⟨z.1, z.2.1, by omega⟩))) ((o1 8 0 0 17 (by omega) (by omega)).trans ((up_ne (by omega)).trans r17)) ((o1 8 0 0 18 (by omega) (by omega)).trans (up_self _ _ _ _ _ _)) nM
                  exact h μ1 z2.1 z2.2
                · have c2 : c = 2 := by omega
                  subst c2
                  have ev : bstV (mnP op s 3 t s) 3 (nI 2) = (mnP op s 3 t s).2 := rfl
                  rw [ev] at h
                  refine go_blk [(.aload_n 0, 0, 0, 0), (.getfield 224, 8, 25, 0), (.goto 11, 112, 0, 0), (.ireturn, 0, 0, 0)] (by decide +kernel) ?_
                  simp only [e_al_0, e_gf_8_25, e_goto, e_iret0, rd_8_25, e_nil, nol_n, nol_I, nol_R, rsum_0, rsum_I, rsum_R, ps_s, ps_n, true_and, and_true, Nat.reduceAdd, Nat.reduceLeDiff, hd2, bi_0, r0, r18, e43, eb1, e69, e79, e94, b25]
                  have z2 := rm_ct (w' := w) (b' := b + 1) hR0 (fun c i s j hc => (o1 c i s j (fun z => hc ⟨z.1, z.2.1, by unfold Scr; omega⟩) (fun z => hc ⟨z.1, z.2.1, by unfold Scr; omega⟩)).trans (up_ne (fun z => hc ⟨z.1, z.2.1, by omega⟩))) ((o1 8 0 0 17 (by omega) (by omega)).trans ((up_ne (by omega)).trans r17)) ((o1 8 0 0 18 (by omega) (by omega)).trans (up_self _ _ _ _ _ _)) nM
                  exact h μ1 z2.1 z2.2
              · subst c79
                refine go_blk [(.bipush 100, 0, 0, 0), (.goto 6, 90, 0, 0), (.istore 5, 0, 0, 0), (.iload_n 3, 0, 0, 0), (.iconst 2, 0, 0, 0), (.if_icmp .ne 10, 104, 0, 0)] (by decide +kernel) ?_
                simp only [e_bp_100, e_goto, e_isw_5n, e_isw_5I, e_isw_5R, e_il_3, e_ic_2, e_icmp_ne, e_nil, nol_n, nol_I, nol_R, rsum_0, rsum_I, rsum_R, ps_s, ps_n, true_and, and_true, Nat.reduceAdd, Nat.reduceLeDiff, hd2, bi_0, r0, r18, e43, eb1, e69, e79, e94]
                refine ⟨fun c94 => ?_, fun c94 => ?_⟩
                · refine go_blk [(.iload 4, 0, 0, 0), (.iload 5, 0, 0, 0), (.iload_n 3, 0, 0, 0), (.invokestatic 236, 106, 3, 0)] (by decide +kernel) ?_
                  simp only [e_ilw_4, e_ilw_5, e_il_3, e_ivs_3, e_nil, Nat.reduceLT, nol_n, nol_I, nol_R, rsum_0, rsum_I, rsum_R, ps_s, ps_n, true_and, and_true, Nat.reduceAdd, Nat.reduceLeDiff, hd2, bi_0, r0, r18, e43, eb1, e69, e79, e94]
                  have cc : c < 2 := by omega
                  have ev : bstV (mnP op s 2 t s) 2 (nI c) = (if c = 0 then (mnP op s 2 t s).1 / nI (gdV (mnP op s 2 t s).1 2) else nI (10 ^ 2 / gdV (mnP op s 2 t s).1 2)) := by
                    rcases (show c = 0 ∨ c = 1 by omega) with z | z <;> subst z <;> rfl
                  rw [ev] at h
                  refine okm_lowest (k := 2) (pt := c) (by omega) cc (mn_rg _ _ _ (by omega) iT) ?_
                  refine go_blk [(.ireturn, 0, 0, 0)] (by decide +kernel) ?_
                  simp only [e_iret0, e_nil, nol_n, nol_I, nol_R, rsum_0, rsum_I, rsum_R, ps_s, ps_n, true_and, and_true, Nat.reduceAdd, Nat.reduceLeDiff, hd2, bi_0, r0, r18, e43, eb1, e69, e79, e94]
                  have z2 := rm_ct (w' := w) (b' := b + 1) hR0 (fun c i s j hc => (o1 c i s j (fun z => hc ⟨z.1, z.2.1, by unfold Scr; omega⟩) (fun z => hc ⟨z.1, z.2.1, by unfold Scr; omega⟩)).trans (up_ne (fun z => hc ⟨z.1, z.2.1, by omega⟩))) ((o1 8 0 0 17 (by omega) (by omega)).trans ((up_ne (by omega)).trans r17)) ((o1 8 0 0 18 (by omega) (by omega)).trans (up_self _ _ _ _ _ _)) nM
                  exact h μ1 z2.1 z2.2
                · have c2 : c = 2 := by omega
                  subst c2
                  have ev : bstV (mnP op s 2 t s) 2 (nI 2) = (mnP op s 2 t s).2 := rfl
                  rw [ev] at h
                  refine go_blk [(.aload_n 0, 0, 0, 0), (.getfield 224, 8, 25, 0), (.goto 11, 112, 0, 0), (.ireturn, 0, 0, 0)] (by decide +kernel) ?_
                  simp only [e_al_0, e_gf_8_25, e_goto, e_iret0, rd_8_25, e_nil, nol_n, nol_I, nol_R, rsum_0, rsum_I, rsum_R, ps_s, ps_n, true_and, and_true, Nat.reduceAdd, Nat.reduceLeDiff, hd2, bi_0, r0, r18, e43, eb1, e69, e79, e94, b25]
                  have z2 := rm_ct (w' := w) (b' := b + 1) hR0 (fun c i s j hc => (o1 c i s j (fun z => hc ⟨z.1, z.2.1, by unfold Scr; omega⟩) (fun z => hc ⟨z.1, z.2.1, by unfold Scr; omega⟩)).trans (up_ne (fun z => hc ⟨z.1, z.2.1, by omega⟩))) ((o1 8 0 0 17 (by omega) (by omega)).trans ((up_ne (by omega)).trans r17)) ((o1 8 0 0 18 (by omega) (by omega)).trans (up_self _ _ _ _ _ _)) nM
                  exact h μ1 z2.1 z2.2
            · subst c69
              refine go_blk [(.bipush 10, 0, 0, 0), (.goto 16, 90, 0, 0), (.istore 5, 0, 0, 0), (.iload_n 3, 0, 0, 0), (.iconst 2, 0, 0, 0), (.if_icmp .ne 10, 104, 0, 0)] (by decide +kernel) ?_
              simp only [e_bp_10, e_goto, e_isw_5n, e_isw_5I, e_isw_5R, e_il_3, e_ic_2, e_icmp_ne, e_nil, nol_n, nol_I, nol_R, rsum_0, rsum_I, rsum_R, ps_s, ps_n, true_and, and_true, Nat.reduceAdd, Nat.reduceLeDiff, hd2, bi_0, r0, r18, e43, eb1, e69, e79, e94]
              refine ⟨fun c94 => ?_, fun c94 => ?_⟩
              · refine go_blk [(.iload 4, 0, 0, 0), (.iload 5, 0, 0, 0), (.iload_n 3, 0, 0, 0), (.invokestatic 236, 106, 3, 0)] (by decide +kernel) ?_
                simp only [e_ilw_4, e_ilw_5, e_il_3, e_ivs_3, e_nil, Nat.reduceLT, nol_n, nol_I, nol_R, rsum_0, rsum_I, rsum_R, ps_s, ps_n, true_and, and_true, Nat.reduceAdd, Nat.reduceLeDiff, hd2, bi_0, r0, r18, e43, eb1, e69, e79, e94]
                have cc : c < 2 := by omega
                have ev : bstV (mnP op s 1 t s) 1 (nI c) = (if c = 0 then (mnP op s 1 t s).1 / nI (gdV (mnP op s 1 t s).1 1) else nI (10 ^ 1 / gdV (mnP op s 1 t s).1 1)) := by
                  rcases (show c = 0 ∨ c = 1 by omega) with z | z <;> subst z <;> rfl
                rw [ev] at h
                refine okm_lowest (k := 1) (pt := c) (by omega) cc (mn_rg _ _ _ (by omega) iT) ?_
                refine go_blk [(.ireturn, 0, 0, 0)] (by decide +kernel) ?_
                simp only [e_iret0, e_nil, nol_n, nol_I, nol_R, rsum_0, rsum_I, rsum_R, ps_s, ps_n, true_and, and_true, Nat.reduceAdd, Nat.reduceLeDiff, hd2, bi_0, r0, r18, e43, eb1, e69, e79, e94]
                have z2 := rm_ct (w' := w) (b' := b + 1) hR0 (fun c i s j hc => (o1 c i s j (fun z => hc ⟨z.1, z.2.1, by unfold Scr; omega⟩) (fun z => hc ⟨z.1, z.2.1, by unfold Scr; omega⟩)).trans (up_ne (fun z => hc ⟨z.1, z.2.1, by omega⟩))) ((o1 8 0 0 17 (by omega) (by omega)).trans ((up_ne (by omega)).trans r17)) ((o1 8 0 0 18 (by omega) (by omega)).trans (up_self _ _ _ _ _ _)) nM
                exact h μ1 z2.1 z2.2
              · have c2 : c = 2 := by omega
                subst c2
                have ev : bstV (mnP op s 1 t s) 1 (nI 2) = (mnP op s 1 t s).2 := rfl
                rw [ev] at h
                refine go_blk [(.aload_n 0, 0, 0, 0), (.getfield 224, 8, 25, 0), (.goto 11, 112, 0, 0), (.ireturn, 0, 0, 0)] (by decide +kernel) ?_
                simp only [e_al_0, e_gf_8_25, e_goto, e_iret0, rd_8_25, e_nil, nol_n, nol_I, nol_R, rsum_0, rsum_I, rsum_R, ps_s, ps_n, true_and, and_true, Nat.reduceAdd, Nat.reduceLeDiff, hd2, bi_0, r0, r18, e43, eb1, e69, e79, e94, b25]
                have z2 := rm_ct (w' := w) (b' := b + 1) hR0 (fun c i s j hc => (o1 c i s j (fun z => hc ⟨z.1, z.2.1, by unfold Scr; omega⟩) (fun z => hc ⟨z.1, z.2.1, by unfold Scr; omega⟩)).trans (up_ne (fun z => hc ⟨z.1, z.2.1, by omega⟩))) ((o1 8 0 0 17 (by omega) (by omega)).trans ((up_ne (by omega)).trans r17)) ((o1 8 0 0 18 (by omega) (by omega)).trans (up_self _ _ _ _ _ _)) nM
                exact h μ1 z2.1 z2.2
          · have e : aBest (nI s) (nI k) (nI c) ((L, pg), (laid, op), t, (f, cs), (im, t2, f2, cs2), (q, w, b)) = (-103, ((L, pg), (laid, op), t, (f, cs), (im, t2, f2, cs2), (q, w, b))) := by
              show (if _ then _ else if _ then _ else _) = _
              rw [if_neg nb, if_pos (Or.inr (by omega))]
            rw [e] at h
            refine go_blk [(.bipush (-103), 0, 0, 0), (.ireturn, 0, 0, 0)] (by decide +kernel) ?_
            simp only [e_bp_m103, e_iret0, e_nil, nol_n, nol_I, nol_R, rsum_0, rsum_I, rsum_R, ps_s, ps_n, true_and, and_true, Nat.reduceAdd, Nat.reduceLeDiff, hd2, bi_0, r0, r18, e43, eb1, e69, e79, e94]
            exact h μ hR0 (offx_rf μ)
      · have e : aBest x y z ((L, pg), (laid, op), t, (f, cs), (im, t2, f2, cs2), (q, w, b)) = (-102, ((L, pg), (laid, op), t, (f, cs), (im, t2, f2, cs2), (q, w, b))) := by
          show (if _ then _ else if _ then _ else _) = _
          rw [if_pos (by unfold bsB; rw [Bool.and_assoc (sdB x), Bool.and_assoc, c24, Bool.and_false])]
        rw [e] at h
        refine go_blk [(.bipush (-102), 0, 0, 0), (.ireturn, 0, 0, 0)] (by decide +kernel) ?_
        simp only [e_bp_m102, e_iret0, e_nil, nol_n, nol_I, nol_R, rsum_0, rsum_I, rsum_R, ps_s, ps_n, true_and, and_true, Nat.reduceAdd, Nat.reduceLeDiff, hd2, bi_0, r0, r18, e43, eb1]
        exact h μ hR0 (offx_rf μ)
