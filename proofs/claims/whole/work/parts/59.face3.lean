theorem sw2 (y : Int32) : y = 0 ∨ y = 1 ∨ y = 2 ∨ (∀ j : Int, 0 ≤ j → j ≤ 2 → ¬ y.toInt = j) := by
  by_cases h : 0 ≤ y.toInt ∧ y.toInt ≤ 2
  · have z : y.toInt = 0 ∨ y.toInt = 1 ∨ y.toInt = 2 := by omega
    rcases z with z | z | z
    · exact Or.inl (Int32.toInt_inj.mp z)
    · exact Or.inr (Or.inl (Int32.toInt_inj.mp z))
    · exact Or.inr (Or.inr (Or.inl (Int32.toInt_inj.mp z)))
  · right; right; right
    exact fun j h1 h2 e => h ⟨by omega, by omega⟩
theorem sw5 (y : Int32) : y = 0 ∨ y = 1 ∨ y = 2 ∨ y = 3 ∨ y = 4 ∨ y = 5 ∨ (∀ j : Int, 0 ≤ j → j ≤ 5 → ¬ y.toInt = j) := by
  by_cases h : 0 ≤ y.toInt ∧ y.toInt ≤ 5
  · have z : y.toInt = 0 ∨ y.toInt = 1 ∨ y.toInt = 2 ∨ y.toInt = 3 ∨ y.toInt = 4 ∨ y.toInt = 5 := by omega
    rcases z with z | z | z | z | z | z
    · exact Or.inl (Int32.toInt_inj.mp z)
    · exact Or.inr (Or.inl (Int32.toInt_inj.mp z))
    · exact Or.inr (Or.inr (Or.inl (Int32.toInt_inj.mp z)))
    · exact Or.inr (Or.inr (Or.inr (Or.inl (Int32.toInt_inj.mp z))))
    · exact Or.inr (Or.inr (Or.inr (Or.inr (Or.inl (Int32.toInt_inj.mp z)))))
    · exact Or.inr (Or.inr (Or.inr (Or.inr (Or.inr (Or.inl (Int32.toInt_inj.mp z))))))
  · right; right; right; right; right; right
    exact fun j h1 h2 e => h ⟨by omega, by omega⟩
theorem sw13 (y : Int32) : y = 0 ∨ y = 1 ∨ y = 2 ∨ y = 3 ∨ y = 4 ∨ y = 5 ∨ y = 6 ∨ y = 7 ∨ y = 8 ∨ y = 9 ∨ y = 10 ∨ y = 11 ∨ y = 12 ∨ y = 13 ∨ (∀ j : Int, 0 ≤ j → j ≤ 13 → ¬ y.toInt = j) := by
  by_cases h : 0 ≤ y.toInt ∧ y.toInt ≤ 13
  · have z : y.toInt = 0 ∨ y.toInt = 1 ∨ y.toInt = 2 ∨ y.toInt = 3 ∨ y.toInt = 4 ∨ y.toInt = 5 ∨ y.toInt = 6 ∨ y.toInt = 7 ∨ y.toInt = 8 ∨ y.toInt = 9 ∨ y.toInt = 10 ∨ y.toInt = 11 ∨ y.toInt = 12 ∨ y.toInt = 13 := by omega
    rcases z with z | z | z | z | z | z | z | z | z | z | z | z | z | z
    · exact Or.inl (Int32.toInt_inj.mp z)
    · exact Or.inr (Or.inl (Int32.toInt_inj.mp z))
    · exact Or.inr (Or.inr (Or.inl (Int32.toInt_inj.mp z)))
    · exact Or.inr (Or.inr (Or.inr (Or.inl (Int32.toInt_inj.mp z))))
    · exact Or.inr (Or.inr (Or.inr (Or.inr (Or.inl (Int32.toInt_inj.mp z)))))
    · exact Or.inr (Or.inr (Or.inr (Or.inr (Or.inr (Or.inl (Int32.toInt_inj.mp z))))))
    · exact Or.inr (Or.inr (Or.inr (Or.inr (Or.inr (Or.inr (Or.inl (Int32.toInt_inj.mp z)))))))
    · exact Or.inr (Or.inr (Or.inr (Or.inr (Or.inr (Or.inr (Or.inr (Or.inl (Int32.toInt_inj.mp z))))))))
    · exact Or.inr (Or.inr (Or.inr (Or.inr (Or.inr (Or.inr (Or.inr (Or.inr (Or.inl (Int32.toInt_inj.mp z)))))))))
    · exact Or.inr (Or.inr (Or.inr (Or.inr (Or.inr (Or.inr (Or.inr (Or.inr (Or.inr (Or.inl (Int32.toInt_inj.mp z))))))))))
    · exact Or.inr (Or.inr (Or.inr (Or.inr (Or.inr (Or.inr (Or.inr (Or.inr (Or.inr (Or.inr (Or.inl (Int32.toInt_inj.mp z)))))))))))
    · exact Or.inr (Or.inr (Or.inr (Or.inr (Or.inr (Or.inr (Or.inr (Or.inr (Or.inr (Or.inr (Or.inr (Or.inl (Int32.toInt_inj.mp z))))))))))))
    · exact Or.inr (Or.inr (Or.inr (Or.inr (Or.inr (Or.inr (Or.inr (Or.inr (Or.inr (Or.inr (Or.inr (Or.inr (Or.inl (Int32.toInt_inj.mp z)))))))))))))
    · exact Or.inr (Or.inr (Or.inr (Or.inr (Or.inr (Or.inr (Or.inr (Or.inr (Or.inr (Or.inr (Or.inr (Or.inr (Or.inr (Or.inl (Int32.toInt_inj.mp z))))))))))))))
  · right; right; right; right; right; right; right; right; right; right; right; right; right; right
    exact fun j h1 h2 e => h ⟨by omega, by omega⟩
theorem xc_about {l : Launch} {K : KK} {d : Nat} {μ : Mm} {P : Option AV → Mm → Prop} {N : Nat} {S : SS} {x y : Int32} (hV : Inv N S) (hR : RC μ S) (hd1 : 14 ≤ d) (h : ∀ μ2, RC μ2 (S) → Off8 μ μ2 → P (some (vI (vAbout x y S))) μ2) : Ok l K d 81 [vR 7 0 0, vI x, vI y] μ P := by
  refine ok_go 4 (by decide +kernel) [some (vR 7 0 0), some (vI x), some (vI y), none] rfl (Nat.le_of_ble_eq_true rfl) ?_
  have hR0 := hR
  have hV0 := hV
  obtain ⟨⟨L, pg⟩, ⟨laid, op⟩, t, ⟨f, cs⟩, ⟨im, t2, f2, cs2⟩, q, w, b⟩ := S
  obtain ⟨⟨rP, rC, rW⟩, ⟨rT, rG⟩, ⟨r7, rK⟩, ⟨r8, r9, r10⟩, rN⟩ := hR
  obtain ⟨⟨iL, iP⟩, ⟨iO, iO2⟩, ⟨iT, iF⟩, iK, ⟨iq, iw, ib⟩⟩ := hV
  have hd2 : 1 ≤ d := by omega
  have rm := rT.1
  have hn := iT.1
  refine go_blk [(.aload_n 0, 0, 0, 0), (.getfield 28, 7, 2, 0), (.getfield 118, 1, 0, 0), (.astore_n 3, 0, 0, 0), (.aload_n 3, 0, 0, 0), (.iload_n 1, 0, 0, 0), (.invokevirtual 146, 60, 1, 6)] (by decide +kernel) ?_
  simp only [e_al_0, e_gf_7_2, e_gf_1_0, e_as_3n, e_as_3I, e_as_3R, e_al_3, e_il_1, e_iv_6_1, rd_7_2, rd_1_0, e_nil, nol_n, nol_I, nol_R, rsum_0, rsum_I, rsum_R, ps_s, ps_n, true_and, and_true, Nat.reduceAdd, Nat.reduceLeDiff, hd2, bi_0, rm, Nat.reduceLT]
  refine ok_has (by omega) rm ?_
  refine go_blk [(.ifCond .ne 6, 19, 0, 0)] (by decide +kernel) ?_
  simp only [e_if_ne, e_nil, nol_n, nol_I, nol_R, rsum_0, rsum_I, rsum_R, ps_s, ps_n, true_and, and_true, Nat.reduceAdd, Nat.reduceLeDiff, hd2, bi_0, rm, Nat.reduceLT]
  refine ⟨fun c13 => ?_, fun c13 => ?_⟩
  · obtain ⟨a, ha, rfl⟩ := has_of hn c13
    have xa : ix (nI a) = a := nI_ix (by omega)
    have va : vp_in (nI a) 6 := vin (by omega) (by omega)
    obtain ⟨a3, a4, a5, a6, a7⟩ := rT.row ha
    have ra := iT.2.1 a ha
    have e87 : (nI (t 7 a) = 0) = (¬ t 7 a = 1) := (b2 _ ra.2.2.2.2.1).1
    refine go_blk [(.iload_n 2, 0, 0, 0), (.tableswitch 89 0 5 #[40, 47, 54, 61, 76, 83], 0, 0, 0)] (by decide +kernel) ?_
    simp only [e_il_2, e_tsw, e_nil, nol_n, nol_I, nol_R, rsum_0, rsum_I, rsum_R, ps_s, ps_n, true_and, and_true, Nat.reduceAdd, Nat.reduceLeDiff, hd2, bi_0, rm, Nat.reduceLT, xa, va, a3, a4, a5, a6, a7, e87]
    rcases sw5 y with yy | yy | yy | yy | yy | yy | yy
    · subst yy
      have e : vAbout (nI a) 0 ((L, pg), (laid, op), t, (f, cs), (im, t2, f2, cs2), (q, w, b)) = nI (t 3 a) := by
        show (if _ then _ else if _ then _ else if _ then _ else if _ then _ else if _ then _ else if _ then _ else if _ then _ else _) = _
        rw [if_neg c13, xa, if_pos rfl]
      rw [e] at h
      refine ⟨60, by decide, ?_⟩
      refine go_blk [(.aload_n 3, 0, 0, 0), (.getfield 147, 6, 2, 0), (.iload_n 1, 0, 0, 0), (.iaload, 0, 0, 0), (.ireturn, 0, 0, 0)] (by decide +kernel) ?_
      simp only [e_al_3, e_gf_6_2, e_il_1, e_ia, e_iret0, rd_6_2, ai_0_4, ai_1_7, ai_2_1, ai_2_2, ai_3_1, ai_4_1, ai_6_3, ai_6_4, ai_6_5, ai_6_6, ai_6_7, ai_6_8, ai_8_5, ai_8_6, ai_8_17, ai_8_21, ai_8_23, ai_8_24, ai_8_27, ai_8_28, ai_8_38, ai_8_39, ai_8_40, e_nil, nol_n, nol_I, nol_R, rsum_0, rsum_I, rsum_R, ps_s, ps_n, true_and, and_true, Nat.reduceAdd, Nat.reduceLeDiff, hd2, bi_0, rm, Nat.reduceLT, xa, va, a3, a4, a5, a6, a7, e87]
      exact h μ hR0 rfl
    · subst yy
      have e : vAbout (nI a) 1 ((L, pg), (laid, op), t, (f, cs), (im, t2, f2, cs2), (q, w, b)) = nI (t 4 a) := by
        show (if _ then _ else if _ then _ else if _ then _ else if _ then _ else if _ then _ else if _ then _ else if _ then _ else _) = _
        rw [if_neg c13, xa, if_neg (by decide), if_pos rfl]
      rw [e] at h
      refine ⟨67, by decide, ?_⟩
      refine go_blk [(.aload_n 3, 0, 0, 0), (.getfield 151, 6, 3, 0), (.iload_n 1, 0, 0, 0), (.iaload, 0, 0, 0), (.ireturn, 0, 0, 0)] (by decide +kernel) ?_
      simp only [e_al_3, e_gf_6_3, e_il_1, e_ia, e_iret0, rd_6_3, ai_0_4, ai_1_7, ai_2_1, ai_2_2, ai_3_1, ai_4_1, ai_6_3, ai_6_4, ai_6_5, ai_6_6, ai_6_7, ai_6_8, ai_8_5, ai_8_6, ai_8_17, ai_8_21, ai_8_23, ai_8_24, ai_8_27, ai_8_28, ai_8_38, ai_8_39, ai_8_40, e_nil, nol_n, nol_I, nol_R, rsum_0, rsum_I, rsum_R, ps_s, ps_n, true_and, and_true, Nat.reduceAdd, Nat.reduceLeDiff, hd2, bi_0, rm, Nat.reduceLT, xa, va, a3, a4, a5, a6, a7, e87]
      exact h μ hR0 rfl
    · subst yy
      have e : vAbout (nI a) 2 ((L, pg), (laid, op), t, (f, cs), (im, t2, f2, cs2), (q, w, b)) = nI (t 5 a) := by
        show (if _ then _ else if _ then _ else if _ then _ else if _ then _ else if _ then _ else if _ then _ else if _ then _ else _) = _
        rw [if_neg c13, xa, if_neg (by decide), if_neg (by decide), if_pos rfl]
      rw [e] at h
      refine ⟨74, by decide, ?_⟩
      refine go_blk [(.aload_n 3, 0, 0, 0), (.getfield 154, 6, 4, 0), (.iload_n 1, 0, 0, 0), (.iaload, 0, 0, 0), (.ireturn, 0, 0, 0)] (by decide +kernel) ?_
      simp only [e_al_3, e_gf_6_4, e_il_1, e_ia, e_iret0, rd_6_4, ai_0_4, ai_1_7, ai_2_1, ai_2_2, ai_3_1, ai_4_1, ai_6_3, ai_6_4, ai_6_5, ai_6_6, ai_6_7, ai_6_8, ai_8_5, ai_8_6, ai_8_17, ai_8_21, ai_8_23, ai_8_24, ai_8_27, ai_8_28, ai_8_38, ai_8_39, ai_8_40, e_nil, nol_n, nol_I, nol_R, rsum_0, rsum_I, rsum_R, ps_s, ps_n, true_and, and_true, Nat.reduceAdd, Nat.reduceLeDiff, hd2, bi_0, rm, Nat.reduceLT, xa, va, a3, a4, a5, a6, a7, e87]
      exact h μ hR0 rfl
    · subst yy
      have e : vAbout (nI a) 3 ((L, pg), (laid, op), t, (f, cs), (im, t2, f2, cs2), (q, w, b)) = nI (t 7 a) := by
        show (if _ then _ else if _ then _ else if _ then _ else if _ then _ else if _ then _ else if _ then _ else if _ then _ else _) = _
        rw [if_neg c13, xa, if_neg (by decide), if_neg (by decide), if_neg (by decide), if_pos rfl]
      rw [e] at h
      refine ⟨81, by decide, ?_⟩
      refine go_blk [(.aload_n 3, 0, 0, 0), (.getfield 157, 6, 6, 0), (.iload_n 1, 0, 0, 0), (.baload, 1, 0, 0), (.ifCond .eq 7, 94, 0, 0)] (by decide +kernel) ?_
      simp only [e_al_3, e_gf_6_6, e_il_1, e_za, e_if_eq, rd_6_6, ai_0_4, ai_1_7, ai_2_1, ai_2_2, ai_3_1, ai_4_1, ai_6_3, ai_6_4, ai_6_5, ai_6_6, ai_6_7, ai_6_8, ai_8_5, ai_8_6, ai_8_17, ai_8_21, ai_8_23, ai_8_24, ai_8_27, ai_8_28, ai_8_38, ai_8_39, ai_8_40, e_nil, nol_n, nol_I, nol_R, rsum_0, rsum_I, rsum_R, ps_s, ps_n, true_and, and_true, Nat.reduceAdd, Nat.reduceLeDiff, hd2, bi_0, rm, Nat.reduceLT, xa, va, a3, a4, a5, a6, a7, e87]
      refine ⟨fun c87 => ?_, fun c87 => ?_⟩
      · rw [show t 7 a = 0 by have := ra.2.2.2.2.1; omega] at h
        refine go_blk [(.iconst 0, 0, 0, 0), (.ireturn, 0, 0, 0)] (by decide +kernel) ?_
        simp only [e_ic_0, e_iret0, e_nil, nol_n, nol_I, nol_R, rsum_0, rsum_I, rsum_R, ps_s, ps_n, true_and, and_true, Nat.reduceAdd, Nat.reduceLeDiff, hd2, bi_0, rm, Nat.reduceLT, xa, va, a3, a4, a5, a6, a7, e87]
        exact h μ hR0 rfl
      · rw [show t 7 a = 1 from Classical.not_not.mp c87] at h
        refine go_blk [(.iconst 1, 0, 0, 0), (.goto 4, 95, 0, 0), (.ireturn, 0, 0, 0)] (by decide +kernel) ?_
        simp only [e_ic_1, e_goto, e_iret0, e_nil, nol_n, nol_I, nol_R, rsum_0, rsum_I, rsum_R, ps_s, ps_n, true_and, and_true, Nat.reduceAdd, Nat.reduceLeDiff, hd2, bi_0, rm, Nat.reduceLT, xa, va, a3, a4, a5, a6, a7, e87]
        exact h μ hR0 rfl
    · subst yy
      have e : vAbout (nI a) 4 ((L, pg), (laid, op), t, (f, cs), (im, t2, f2, cs2), (q, w, b)) = nI (t 6 a) := by
        show (if _ then _ else if _ then _ else if _ then _ else if _ then _ else if _ then _ else if _ then _ else if _ then _ else _) = _
        rw [if_neg c13, xa, if_neg (by decide), if_neg (by decide), if_neg (by decide), if_neg (by decide), if_pos rfl]
      rw [e] at h
      refine ⟨96, by decide, ?_⟩
      refine go_blk [(.aload_n 3, 0, 0, 0), (.getfield 161, 6, 5, 0), (.iload_n 1, 0, 0, 0), (.iaload, 0, 0, 0), (.ireturn, 0, 0, 0)] (by decide +kernel) ?_
      simp only [e_al_3, e_gf_6_5, e_il_1, e_ia, e_iret0, rd_6_5, ai_0_4, ai_1_7, ai_2_1, ai_2_2, ai_3_1, ai_4_1, ai_6_3, ai_6_4, ai_6_5, ai_6_6, ai_6_7, ai_6_8, ai_8_5, ai_8_6, ai_8_17, ai_8_21, ai_8_23, ai_8_24, ai_8_27, ai_8_28, ai_8_38, ai_8_39, ai_8_40, e_nil, nol_n, nol_I, nol_R, rsum_0, rsum_I, rsum_R, ps_s, ps_n, true_and, and_true, Nat.reduceAdd, Nat.reduceLeDiff, hd2, bi_0, rm, Nat.reduceLT, xa, va, a3, a4, a5, a6, a7, e87]
      exact h μ hR0 rfl
    · subst yy
      have e : vAbout (nI a) 5 ((L, pg), (laid, op), t, (f, cs), (im, t2, f2, cs2), (q, w, b)) = nI (tgs op t a) := by
        show (if _ then _ else if _ then _ else if _ then _ else if _ then _ else if _ then _ else if _ then _ else if _ then _ else _) = _
        rw [if_neg c13, xa, if_neg (by decide), if_neg (by decide), if_neg (by decide), if_neg (by decide), if_neg (by decide), if_pos rfl]
      rw [e] at h
      refine ⟨103, by decide, ?_⟩
      refine go_blk [(.aload_n 3, 0, 0, 0), (.iload_n 1, 0, 0, 0), (.invokevirtual 164, 66, 1, 6)] (by decide +kernel) ?_
      simp only [e_al_3, e_il_1, e_iv_6_1, e_nil, nol_n, nol_I, nol_R, rsum_0, rsum_I, rsum_R, ps_s, ps_n, true_and, and_true, Nat.reduceAdd, Nat.reduceLeDiff, hd2, bi_0, rm, Nat.reduceLT, xa, va, a3, a4, a5, a6, a7, e87]
      have hl : laid = true := by
        cases z : laid
        · have := (iO2 z).2; omega
        · rfl
      subst hl
      refine ok_targetsOf (by omega) rT iT rC (by omega) (by omega) ?_
      refine go_blk [(.ireturn, 0, 0, 0)] (by decide +kernel) ?_
      simp only [e_iret0, e_nil, nol_n, nol_I, nol_R, rsum_0, rsum_I, rsum_R, ps_s, ps_n, true_and, and_true, Nat.reduceAdd, Nat.reduceLeDiff, hd2, bi_0, rm, Nat.reduceLT, xa, va, a3, a4, a5, a6, a7, e87]
      exact h μ hR0 rfl
    · have e : vAbout (nI a) y ((L, pg), (laid, op), t, (f, cs), (im, t2, f2, cs2), (q, w, b)) = -102 := by
        show (if _ then _ else if _ then _ else if _ then _ else if _ then _ else if _ then _ else if _ then _ else if _ then _ else _) = _
        rw [if_neg c13, if_neg (fun z => yy 0 (by omega) (by omega) (by rw [z]; rfl)), if_neg (fun z => yy 1 (by omega) (by omega) (by rw [z]; rfl)), if_neg (fun z => yy 2 (by omega) (by omega) (by rw [z]; rfl)), if_neg (fun z => yy 3 (by omega) (by omega) (by rw [z]; rfl)), if_neg (fun z => yy 4 (by omega) (by omega) (by rw [z]; rfl)), if_neg (fun z => yy 5 (by omega) (by omega) (by rw [z]; rfl))]
      rw [e] at h
      refine ⟨109, sw_df (n := 5) (sw_out yy) (by decide), ?_⟩
      refine go_blk [(.bipush (-102), 0, 0, 0), (.ireturn, 0, 0, 0)] (by decide +kernel) ?_
      simp only [e_bp_m102, e_iret0, e_nil, nol_n, nol_I, nol_R, rsum_0, rsum_I, rsum_R, ps_s, ps_n, true_and, and_true, Nat.reduceAdd, Nat.reduceLeDiff, hd2, bi_0, rm, Nat.reduceLT, xa, va, a3, a4, a5, a6, a7, e87]
      exact h μ hR0 rfl
  · have e : vAbout x y ((L, pg), (laid, op), t, (f, cs), (im, t2, f2, cs2), (q, w, b)) = -101 := by
      show (if _ then _ else if _ then _ else if _ then _ else if _ then _ else if _ then _ else if _ then _ else if _ then _ else _) = _
      rw [if_pos c13]
    rw [e] at h
    refine go_blk [(.bipush (-101), 0, 0, 0), (.ireturn, 0, 0, 0)] (by decide +kernel) ?_
    simp only [e_bp_m101, e_iret0, e_nil, nol_n, nol_I, nol_R, rsum_0, rsum_I, rsum_R, ps_s, ps_n, true_and, and_true, Nat.reduceAdd, Nat.reduceLeDiff, hd2, bi_0, rm, Nat.reduceLT]
    exact h μ hR0 rfl
theorem xc_tally {l : Launch} {K : KK} {d : Nat} {μ : Mm} {P : Option AV → Mm → Prop} {N : Nat} {S : SS} {x : Int32} (hV : Inv N S) (hR : RC μ S) (hd1 : 14 ≤ d) (h : ∀ μ2, RC μ2 ((aTally x S).2) → Off8 μ μ2 → P (some (vI ((aTally x S).1))) μ2) : Ok l K d 89 [vR 7 0 0, vI x] μ P := by
  refine ok_go 2 (by decide +kernel) [some (vR 7 0 0), some (vI x)] rfl (Nat.le_of_ble_eq_true rfl) ?_
  have hR0 := hR
  have hV0 := hV
  obtain ⟨⟨L, pg⟩, ⟨laid, op⟩, t, ⟨f, cs⟩, ⟨im, t2, f2, cs2⟩, q, w, b⟩ := S
  obtain ⟨⟨rP, rC, rW⟩, ⟨rT, rG⟩, ⟨r7, rK⟩, ⟨r8, r9, r10⟩, rN⟩ := hR
  obtain ⟨⟨iL, iP⟩, ⟨iO, iO2⟩, ⟨iT, iF⟩, iK, ⟨iq, iw, ib⟩⟩ := hV
  have hd2 : 1 ≤ d := by omega
  have g5 : μ 1 0 0 5 = nI (ix (f 5)) := (rG.1 5 (by omega) (by omega)).trans iF.2.2
  have m6 := iF.2.1
  have e22 : (nI (ix (f 5)) < 6) = (ix (f 5) < 6) := propext (nI_ltI (b := 6) (by omega) (by omega))
  refine go_blk [(.iload_n 1, 0, 0, 0), (.ifCond .lt 9, 10, 0, 0)] (by decide +kernel) ?_
  simp only [e_il_1, e_if_lt, e_nil, nol_n, nol_I, nol_R, rsum_0, rsum_I, rsum_R, ps_s, ps_n, true_and, and_true, Nat.reduceAdd, Nat.reduceLeDiff, hd2, g5, e22, Nat.reduceLT]
  refine ⟨fun c1 => ?_, fun c1 => ?_⟩
  · have e : aTally x ((L, pg), (laid, op), t, (f, cs), (im, t2, f2, cs2), (q, w, b)) = (-102, ((L, pg), (laid, op), t, (f, cs), (im, t2, f2, cs2), (q, w, b))) := by
      show (if _ then _ else if _ then _ else _) = _
      rw [if_pos (Or.inl c1)]
    rw [e] at h
    refine go_blk [(.bipush (-102), 0, 0, 0), (.ireturn, 0, 0, 0)] (by decide +kernel) ?_
    simp only [e_bp_m102, e_iret0, e_nil, nol_n, nol_I, nol_R, rsum_0, rsum_I, rsum_R, ps_s, ps_n, true_and, and_true, Nat.reduceAdd, Nat.reduceLeDiff, hd2, g5, e22, Nat.reduceLT]
    exact h μ hR0 rfl
  · refine go_blk [(.iload_n 1, 0, 0, 0), (.bipush 6, 0, 0, 0), (.if_icmp .le 6, 13, 0, 0)] (by decide +kernel) ?_
    simp only [e_il_1, e_bp_6, e_icmp_le, e_nil, nol_n, nol_I, nol_R, rsum_0, rsum_I, rsum_R, ps_s, ps_n, true_and, and_true, Nat.reduceAdd, Nat.reduceLeDiff, hd2, g5, e22, Nat.reduceLT]
    refine ⟨fun c7 => ?_, fun c7 => ?_⟩
    · have nx : ¬ (x < 0 ∨ 6 < x) := fun z => z.elim c1 (fun y => absurd c7 (Int32.not_le.mpr y))
      refine go_blk [(.aload_n 0, 0, 0, 0), (.getfield 28, 7, 2, 0), (.getfield 213, 1, 5, 0), (.bipush 6, 0, 0, 0), (.if_icmp .lt 6, 28, 0, 0)] (by decide +kernel) ?_
      simp only [e_al_0, e_gf_7_2, e_gf_1_5, e_bp_6, e_icmp_lt, rd_7_2, rd_1_5, e_nil, nol_n, nol_I, nol_R, rsum_0, rsum_I, rsum_R, ps_s, ps_n, true_and, and_true, Nat.reduceAdd, Nat.reduceLeDiff, hd2, g5, e22, Nat.reduceLT]
      refine ⟨fun c22 => ?_, fun c22 => ?_⟩
      · have e : aTally x ((L, pg), (laid, op), t, (f, cs), (im, t2, f2, cs2), (q, w, b)) = (nI (ix (f 5) + 1), ((L, pg), (laid, op), t, (fu f 5 (nI (ix (f 5) + 1)), fu cs (ix (f 5)) x), (im, t2, f2, cs2), (q, w, b))) := by
          show (if _ then _ else if _ then _ else _) = _
          rw [if_neg nx, if_neg (by omega)]
        rw [e] at h
        refine go_blk [(.aload_n 0, 0, 0, 0), (.getfield 28, 7, 2, 0), (.iload_n 1, 0, 0, 0), (.invokevirtual 216, 18, 1, 1)] (by decide +kernel) ?_
        simp only [e_al_0, e_gf_7_2, e_il_1, e_iv_1_1, rd_7_2, e_nil, nol_n, nol_I, nol_R, rsum_0, rsum_I, rsum_R, ps_s, ps_n, true_and, and_true, Nat.reduceAdd, Nat.reduceLeDiff, hd2, g5, e22, Nat.reduceLT]
        refine ok_tell (by omega) rG iF.2.2 c22 (fun μ2 tG tE => ?_)
        refine go_blk [(.ireturn, 0, 0, 0)] (by decide +kernel) ?_
        simp only [e_iret0, e_nil, nol_n, nol_I, nol_R, rsum_0, rsum_I, rsum_R, ps_s, ps_n, true_and, and_true, Nat.reduceAdd, Nat.reduceLeDiff, hd2, g5, e22, Nat.reduceLT]
        have oo : Off1 0 μ μ2 := by rw [tE]; exact off1_up (off1_up (off1_rf 0 μ) _ _ _) _ _ _
        have z2 := rc_gm hR0 oo.g (rT.off (oo 6 0 (by omega))) tG
        exact h μ2 z2.1 z2.2
      · have e : aTally x ((L, pg), (laid, op), t, (f, cs), (im, t2, f2, cs2), (q, w, b)) = (-104, ((L, pg), (laid, op), t, (f, cs), (im, t2, f2, cs2), (q, w, b))) := by
          show (if _ then _ else if _ then _ else _) = _
          rw [if_neg nx, if_pos (by omega)]
        rw [e] at h
        refine go_blk [(.bipush (-104), 0, 0, 0), (.ireturn, 0, 0, 0)] (by decide +kernel) ?_
        simp only [e_bp_m104, e_iret0, e_nil, nol_n, nol_I, nol_R, rsum_0, rsum_I, rsum_R, ps_s, ps_n, true_and, and_true, Nat.reduceAdd, Nat.reduceLeDiff, hd2, g5, e22, Nat.reduceLT]
        exact h μ hR0 rfl
    · have e : aTally x ((L, pg), (laid, op), t, (f, cs), (im, t2, f2, cs2), (q, w, b)) = (-102, ((L, pg), (laid, op), t, (f, cs), (im, t2, f2, cs2), (q, w, b))) := by
        show (if _ then _ else if _ then _ else _) = _
        rw [if_pos (Or.inr (nle32 c7))]
      rw [e] at h
      refine go_blk [(.bipush (-102), 0, 0, 0), (.ireturn, 0, 0, 0)] (by decide +kernel) ?_
      simp only [e_bp_m102, e_iret0, e_nil, nol_n, nol_I, nol_R, rsum_0, rsum_I, rsum_R, ps_s, ps_n, true_and, and_true, Nat.reduceAdd, Nat.reduceLeDiff, hd2, g5, e22, Nat.reduceLT]
      exact h μ hR0 rfl
theorem xc_forget {l : Launch} {K : KK} {d : Nat} {μ : Mm} {P : Option AV → Mm → Prop} {N : Nat} {S : SS} (hV : Inv N S) (hR : RC μ S) (hd1 : 14 ≤ d) (h : ∀ μ2, RC μ2 ((aForget S).2) → Off8 μ μ2 → P (some (vI ((aForget S).1))) μ2) : Ok l K d 90 [vR 7 0 0] μ P := by
  refine ok_go 2 (by decide +kernel) [some (vR 7 0 0), none] rfl (Nat.le_of_ble_eq_true rfl) ?_
  have hR0 := hR
  have hV0 := hV
  obtain ⟨⟨L, pg⟩, ⟨laid, op⟩, t, ⟨f, cs⟩, ⟨im, t2, f2, cs2⟩, q, w, b⟩ := S
  obtain ⟨⟨rP, rC, rW⟩, ⟨rT, rG⟩, ⟨r7, rK⟩, ⟨r8, r9, r10⟩, rN⟩ := hR
  obtain ⟨⟨iL, iP⟩, ⟨iO, iO2⟩, ⟨iT, iF⟩, iK, ⟨iq, iw, ib⟩⟩ := hV
  have hd2 : 1 ≤ d := by omega
  have g5 : μ 1 0 0 5 = f 5 := rG.1 5 (by omega) (by omega)
  refine go_blk [(.aload_n 0, 0, 0, 0), (.getfield 28, 7, 2, 0), (.getfield 213, 1, 5, 0), (.istore_n 1, 0, 0, 0), (.aload_n 0, 0, 0, 0), (.getfield 28, 7, 2, 0), (.iconst 0, 0, 0, 0), (.putfield 213, 1, 5, 0)] (by decide +kernel) ?_
  simp only [e_al_0, e_gf_7_2, e_gf_1_5, e_is_1n, e_is_1I, e_is_1R, e_ic_0, e_pf_1_5, rd_7_2, rd_1_5, e_nil, nol_n, nol_I, nol_R, rsum_0, rsum_I, rsum_R, ps_s, ps_n, true_and, and_true, Nat.reduceAdd, Nat.reduceLeDiff, hd2, g5, Nat.reduceLT]
  refine go_blk [(.iload_n 1, 0, 0, 0), (.ireturn, 0, 0, 0)] (by decide +kernel) ?_
  simp only [e_il_1, e_iret0, e_nil, nol_n, nol_I, nol_R, rsum_0, rsum_I, rsum_R, ps_s, ps_n, true_and, and_true, Nat.reduceAdd, Nat.reduceLeDiff, hd2, g5, Nat.reduceLT]
  have oo : Off1 0 μ (up μ 1 0 0 5 0) := off1_up (off1_rf 0 μ) _ _ _
  have z2 := rc_gm hR0 oo.g (rT.off (oo 6 0 (by omega))) (gr_up rG 5 0)
  exact h _ z2.1 z2.2
theorem xc_image {l : Launch} {K : KK} {d : Nat} {μ : Mm} {P : Option AV → Mm → Prop} {N : Nat} {S : SS} (hV : Inv N S) (hR : RC μ S) (hd1 : 14 ≤ d) (h : ∀ μ2, RC μ2 ((aImage S).2) → Off8 μ μ2 → P (some (vI ((aImage S).1))) μ2) : Ok l K d 94 [vR 7 0 0] μ P := by
  refine ok_go 1 (by decide +kernel) [some (vR 7 0 0)] rfl (Nat.le_of_ble_eq_true rfl) ?_
  have hR0 := hR
  have hV0 := hV
  obtain ⟨⟨L, pg⟩, ⟨laid, op⟩, t, ⟨f, cs⟩, ⟨im, t2, f2, cs2⟩, q, w, b⟩ := S
  obtain ⟨⟨rP, rC, rW⟩, ⟨rT, rG⟩, ⟨r7, rK⟩, ⟨r8, r9, r10⟩, rN⟩ := hR
  obtain ⟨⟨iL, iP⟩, ⟨iO, iO2⟩, ⟨iT, iF⟩, iK, ⟨iq, iw, ib⟩⟩ := hV
  have hd2 : 1 ≤ d := by omega
  have rL0 := rC.1
  have e7 := bi_0 laid
  refine go_blk [(.aload_n 0, 0, 0, 0), (.getfield 19, 7, 1, 0), (.getfield 105, 0, 0, 0), (.ifCond .ne 6, 13, 0, 0)] (by decide +kernel) ?_
  simp only [e_al_0, e_gf_7_1, e_gf_0_0, e_if_ne, rd_7_1, rd_0_0, e_nil, nol_n, nol_I, nol_R, rsum_0, rsum_I, rsum_R, ps_s, ps_n, true_and, and_true, Nat.reduceAdd, Nat.reduceLeDiff, hd2, rL0, e7, or_true, true_or, Nat.reduceLT]
  refine ⟨fun c7 => ?_, fun c7 => ?_⟩
  · have e : aImage ((L, pg), (laid, op), t, (f, cs), (im, t2, f2, cs2), (q, w, b)) = (f 1, ((L, pg), (laid, op), t, (f, cs), (true, t, f, cs), (q, w, b))) := by
      show (if _ then _ else _) = _
      rw [if_neg c7]
    rw [e] at h
    refine go_blk [(.aload_n 0, 0, 0, 0), (.getfield 32, 7, 3, 0), (.aload_n 0, 0, 0, 0), (.getfield 28, 7, 2, 0), (.invokevirtual 243, 15, 1, 1)] (by decide +kernel) ?_
    simp only [e_al_0, e_gf_7_3, e_gf_7_2, e_iv_1_1, rd_7_3, rd_7_2, e_nil, nol_n, nol_I, nol_R, rsum_0, rsum_I, rsum_R, ps_s, ps_n, true_and, and_true, Nat.reduceAdd, Nat.reduceLeDiff, hd2, rL0, e7, or_true, true_or, Nat.reduceLT]
    refine ok_g_copyFrom (g := 1) (g2 := 0) (by omega) (by omega) (by omega) rT iT rG (by omega) (fun μ1 tT tG tO => ?_)
    have g1 : up μ1 7 0 0 7 1 1 0 0 1 = f 1 := by rw [up_ne (by omega), tO 1 0 (by omega) (by omega)]; exact rG.1 1 (by omega) (by omega)
    refine go_blk [(.aload_n 0, 0, 0, 0), (.iconst 1, 0, 0, 0), (.putfield 56, 7, 7, 0)] (by decide +kernel) ?_
    simp only [e_al_0, e_ic_1, e_pf_7_7, e_nil, nol_n, nol_I, nol_R, rsum_0, rsum_I, rsum_R, ps_s, ps_n, true_and, and_true, Nat.reduceAdd, Nat.reduceLeDiff, hd2, rL0, e7, or_true, true_or, Nat.reduceLT, g1]
    refine go_blk [(.aload_n 0, 0, 0, 0), (.getfield 28, 7, 2, 0), (.getfield 246, 1, 1, 0), (.ireturn, 0, 0, 0)] (by decide +kernel) ?_
    simp only [e_al_0, e_gf_7_2, e_gf_1_1, e_iret0, rd_7_2, rd_1_1, e_nil, nol_n, nol_I, nol_R, rsum_0, rsum_I, rsum_R, ps_s, ps_n, true_and, and_true, Nat.reduceAdd, Nat.reduceLeDiff, hd2, rL0, e7, or_true, true_or, Nat.reduceLT, g1]
    have o7 : ∀ c, ¬ c = 7 → up μ1 7 0 0 7 1 c = μ1 c := fun c hc => by funext i s j; exact up_ne (by omega)
    have o1 : ∀ c, ¬ c = 1 → ¬ c = 6 → μ1 c = μ c := fun c h1 h6 => by funext i; exact tO c i (by omega) (by omega)
    have k7 : ∀ j, ¬ j = 7 → up μ1 7 0 0 7 1 7 0 0 j = μ 7 0 0 j := fun j hj => by rw [up_ne (by omega), o1 7 (by omega) (by omega)]
    refine h _ ⟨⟨rP.off (by rw [o7 3 (by omega), o1 3 (by omega) (by omega)]), rC.off (by rw [o7 0 (by omega), o1 0 (by omega) (by omega)]), fun z => by unfold WRep; rw [o7 0 (by omega), o1 0 (by omega) (by omega)]; exact rW z⟩, ⟨rT.off (by rw [o7 6 (by omega)]; exact tO 6 0 (by omega) (by omega)), rG.off (by rw [o7 1 (by omega)]; exact tO 1 0 (by omega) (by omega))⟩, ⟨up_self _ _ _ _ _ _, fun _ => ⟨tT.off (by rw [o7 6 (by omega)]), tG.off (by rw [o7 1 (by omega)])⟩⟩, ⟨by rw [k7 8 (by omega)]; exact r8, by rw [k7 9 (by omega)]; exact r9, by rw [k7 10 (by omega)]; exact r10⟩, by unfold NtR; rw [o7 2 (by omega), o1 2 (by omega) (by omega)]; exact rN⟩ (by unfold Off8; rw [o7 8 (by omega), o1 8 (by omega) (by omega)])
  · have e : aImage ((L, pg), (laid, op), t, (f, cs), (im, t2, f2, cs2), (q, w, b)) = (-103, ((L, pg), (laid, op), t, (f, cs), (im, t2, f2, cs2), (q, w, b))) := by
      show (if _ then _ else _) = _
      rw [if_pos c7]
    rw [e] at h
    refine go_blk [(.bipush (-103), 0, 0, 0), (.ireturn, 0, 0, 0)] (by decide +kernel) ?_
    simp only [e_bp_m103, e_iret0, e_nil, nol_n, nol_I, nol_R, rsum_0, rsum_I, rsum_R, ps_s, ps_n, true_and, and_true, Nat.reduceAdd, Nat.reduceLeDiff, hd2, rL0, e7, or_true, true_or, Nat.reduceLT]
    exact h μ hR0 rfl
theorem xc_restore {l : Launch} {K : KK} {d : Nat} {μ : Mm} {P : Option AV → Mm → Prop} {N : Nat} {S : SS} (hV : Inv N S) (hR : RC μ S) (hd1 : 14 ≤ d) (h : ∀ μ2, RC μ2 ((aRestore S).2) → Off8 μ μ2 → P (some (vI ((aRestore S).1))) μ2) : Ok l K d 95 [vR 7 0 0] μ P := by
  refine ok_go 1 (by decide +kernel) [some (vR 7 0 0)] rfl (Nat.le_of_ble_eq_true rfl) ?_
  have hR0 := hR
  have hV0 := hV
  obtain ⟨⟨L, pg⟩, ⟨laid, op⟩, t, ⟨f, cs⟩, ⟨im, t2, f2, cs2⟩, q, w, b⟩ := S
  obtain ⟨⟨rP, rC, rW⟩, ⟨rT, rG⟩, ⟨r7, rK⟩, ⟨r8, r9, r10⟩, rN⟩ := hR
  obtain ⟨⟨iL, iP⟩, ⟨iO, iO2⟩, ⟨iT, iF⟩, iK, ⟨iq, iw, ib⟩⟩ := hV
  have hd2 : 1 ≤ d := by omega
  have e7 := bi_0 im
  refine go_blk [(.aload_n 0, 0, 0, 0), (.getfield 56, 7, 7, 0), (.ifCond .ne 6, 10, 0, 0)] (by decide +kernel) ?_
  simp only [e_al_0, e_gf_7_7, e_if_ne, rd_7_7, e_nil, nol_n, nol_I, nol_R, rsum_0, rsum_I, rsum_R, ps_s, ps_n, true_and, and_true, Nat.reduceAdd, Nat.reduceLeDiff, hd2, r7, e7, Nat.reduceLT]
  refine ⟨fun c4 => ?_, fun c4 => ?_⟩
  · have e : aRestore ((L, pg), (laid, op), t, (f, cs), (im, t2, f2, cs2), (q, w, b)) = (f2 1, ((L, pg), (laid, op), t2, (f2, cs2), (im, t2, f2, cs2), (q, w, b))) := by
      show (if _ then _ else _) = _
      rw [if_neg c4]
    rw [e] at h
    have im1 := eq_true_of_ne_false c4
    obtain ⟨kT, kG⟩ := rK im1
    obtain ⟨⟨-, jT, -⟩, -, -⟩ := iK im1
    refine go_blk [(.aload_n 0, 0, 0, 0), (.getfield 28, 7, 2, 0), (.aload_n 0, 0, 0, 0), (.getfield 32, 7, 3, 0), (.invokevirtual 243, 15, 1, 1)] (by decide +kernel) ?_
    simp only [e_al_0, e_gf_7_2, e_gf_7_3, e_iv_1_1, rd_7_2, rd_7_3, e_nil, nol_n, nol_I, nol_R, rsum_0, rsum_I, rsum_R, ps_s, ps_n, true_and, and_true, Nat.reduceAdd, Nat.reduceLeDiff, hd2, r7, e7, Nat.reduceLT]
    refine ok_g_copyFrom (g := 0) (g2 := 1) (by omega) (by omega) (by omega) kT jT kG (by omega) (fun μ1 tT tG tO => ?_)
    have g1 : μ1 1 0 0 1 = f2 1 := tG.1 1 (by omega) (by omega)
    refine go_blk [(.aload_n 0, 0, 0, 0), (.getfield 28, 7, 2, 0), (.getfield 246, 1, 1, 0), (.ireturn, 0, 0, 0)] (by decide +kernel) ?_
    simp only [e_al_0, e_gf_7_2, e_gf_1_1, e_iret0, rd_7_2, rd_1_1, e_nil, nol_n, nol_I, nol_R, rsum_0, rsum_I, rsum_R, ps_s, ps_n, true_and, and_true, Nat.reduceAdd, Nat.reduceLeDiff, hd2, r7, e7, Nat.reduceLT, g1]
    have z2 := rc_gm hR0 tO tT tG
    exact h μ1 z2.1 z2.2
  · have e : aRestore ((L, pg), (laid, op), t, (f, cs), (im, t2, f2, cs2), (q, w, b)) = (-103, ((L, pg), (laid, op), t, (f, cs), (im, t2, f2, cs2), (q, w, b))) := by
      show (if _ then _ else _) = _
      rw [if_pos c4]
    rw [e] at h
    refine go_blk [(.bipush (-103), 0, 0, 0), (.ireturn, 0, 0, 0)] (by decide +kernel) ?_
    simp only [e_bp_m103, e_iret0, e_nil, nol_n, nol_I, nol_R, rsum_0, rsum_I, rsum_R, ps_s, ps_n, true_and, and_true, Nat.reduceAdd, Nat.reduceLeDiff, hd2, r7, e7, Nat.reduceLT]
    exact h μ hR0 rfl
theorem rc_n {μ μ2 : Mm} {S : SS} (hR : RC μ S) (o : ∀ c i, ¬ c = 2 → μ2 c i = μ c i) (hN : NtR μ2) : RC μ2 S ∧ Off8 μ μ2 := by
  obtain ⟨⟨L, pg⟩, ⟨laid, op⟩, t, ⟨f, cs⟩, ⟨im, t2, f2, cs2⟩, q, w, b⟩ := S
  obtain ⟨⟨rP, rC, rW⟩, ⟨rT, rG⟩, ⟨r7, rK⟩, ⟨r8, r9, r10⟩, rN⟩ := hR
  have o1 : ∀ c, ¬ c = 2 → μ2 c = μ c := fun c h => by funext i; exact o c i h
  exact ⟨⟨⟨rP.off (o1 3 (by omega)), rC.off (o 0 0 (by omega)), fun z => by unfold WRep; rw [o1 0 (by omega)]; exact rW z⟩, ⟨rT.off (o 6 0 (by omega)), rG.off (o 1 0 (by omega))⟩, ⟨by rw [o1 7 (by omega)]; exact r7, fun z => ⟨(rK z).1.off (o 6 1 (by omega)), (rK z).2.off (o 1 1 (by omega))⟩⟩, ⟨by rw [o1 7 (by omega)]; exact r8, by rw [o1 7 (by omega)]; exact r9, by rw [o1 7 (by omega)]; exact r10⟩, hN⟩, o1 8 (by omega)⟩
theorem nSt_le {op : Nat} {t : TS} (hI : TInv op t) (m : Nat) : nSt t m ≤ 64 := by
  unfold nSt
  split
  · omega
  · exact pw6 (spN_le hI)
theorem xc_fits {l : Launch} {K : KK} {d : Nat} {μ : Mm} {P : Option AV → Mm → Prop} {N : Nat} {S : SS} (hV : Inv N S) (hR : RC μ S) (hd1 : 14 ≤ d) (h : ∀ μ2, RC μ2 (S) → Off8 μ μ2 → P (some (vI (vFits S))) μ2) : Ok l K d 91 [vR 7 0 0] μ P := by
  refine ok_go 1 (by decide +kernel) [some (vR 7 0 0)] rfl (Nat.le_of_ble_eq_true rfl) ?_
  have hR0 := hR
  have hV0 := hV
  obtain ⟨⟨L, pg⟩, ⟨laid, op⟩, t, ⟨f, cs⟩, ⟨im, t2, f2, cs2⟩, q, w, b⟩ := S
  obtain ⟨⟨rP, rC, rW⟩, ⟨rT, rG⟩, ⟨r7, rK⟩, ⟨r8, r9, r10⟩, rN⟩ := hR
  obtain ⟨⟨iL, iP⟩, ⟨iO, iO2⟩, ⟨iT, iF⟩, iK, ⟨iq, iw, ib⟩⟩ := hV
  have hd2 : 1 ≤ d := by omega
  have rL0 := rC.1
  have e7 := bi_0 laid
  obtain ⟨v, hv, n0, n1⟩ := rN
  refine go_blk [(.aload_n 0, 0, 0, 0), (.getfield 19, 7, 1, 0), (.getfield 105, 0, 0, 0), (.ifCond .ne 6, 13, 0, 0)] (by decide +kernel) ?_
  simp only [e_al_0, e_gf_7_1, e_gf_0_0, e_if_ne, rd_7_1, rd_0_0, e_nil, nol_n, nol_I, nol_R, rsum_0, rsum_I, rsum_R, ps_s, ps_n, true_and, and_true, Nat.reduceAdd, Nat.reduceLeDiff, hd2, rL0, e7, Nat.reduceLT]
  refine ⟨fun c7 => ?_, fun c7 => ?_⟩
  · have e : vFits ((L, pg), (laid, op), t, (f, cs), (im, t2, f2, cs2), (q, w, b)) = fitV t (ix (f 5)) cs := if_neg c7
    rw [e] at h
    refine go_blk [(.aload_n 0, 0, 0, 0), (.getfield 38, 7, 4, 0), (.aload_n 0, 0, 0, 0), (.getfield 28, 7, 2, 0), (.invokevirtual 219, 32, 1, 2)] (by decide +kernel) ?_
    simp only [e_al_0, e_gf_7_4, e_gf_7_2, e_iv_2_1, rd_7_4, rd_7_2, e_nil, nol_n, nol_I, nol_R, rsum_0, rsum_I, rsum_R, ps_s, ps_n, true_and, and_true, Nat.reduceAdd, Nat.reduceLeDiff, hd2, rL0, e7, Nat.reduceLT]
    refine ok_unfold (by omega) rT iT rG iF.2.2 iF.2.1 hv n0 n1 (by omega) (fun μ1 v1 hN1 => ?_)
    obtain ⟨hv1, k0, k1, k3, kA, kO⟩ := hN1
    refine go_blk [(.aload_n 0, 0, 0, 0), (.getfield 38, 7, 4, 0), (.invokevirtual 223, 33, 0, 2)] (by decide +kernel) ?_
    simp only [e_al_0, e_gf_7_4, e_iv_2_0, rd_7_4, e_nil, nol_n, nol_I, nol_R, rsum_0, rsum_I, rsum_R, ps_s, ps_n, true_and, and_true, Nat.reduceAdd, Nat.reduceLeDiff, hd2, rL0, e7, Nat.reduceLT]
    refine ok_allWays hv1 k0 k3 (nSt_le iT _) kA ?_
    refine go_blk [(.ireturn, 0, 0, 0)] (by decide +kernel) ?_
    simp only [e_iret0, e_nil, nol_n, nol_I, nol_R, rsum_0, rsum_I, rsum_R, ps_s, ps_n, true_and, and_true, Nat.reduceAdd, Nat.reduceLeDiff, hd2, rL0, e7, Nat.reduceLT]
    have z2 := rc_n hR0 kO ⟨v1, hv1, k0, k1⟩
    have ev : nI (smN (wyA cs (otN t) (spN t) (ix (f 5))) (nSt t (ix (f 5)))) = fitV t (ix (f 5)) cs := by
      unfold fitV nSt
      by_cases z : ix (f 5) = 0
      · rw [if_pos z, if_pos z, z]; rfl
      · rw [if_neg z, if_neg z]
    rw [ev]
    exact h μ1 z2.1 z2.2
  · have e : vFits ((L, pg), (laid, op), t, (f, cs), (im, t2, f2, cs2), (q, w, b)) = -103 := if_pos c7
    rw [e] at h
    refine go_blk [(.bipush (-103), 0, 0, 0), (.ireturn, 0, 0, 0)] (by decide +kernel) ?_
    simp only [e_bp_m103, e_iret0, e_nil, nol_n, nol_I, nol_R, rsum_0, rsum_I, rsum_R, ps_s, ps_n, true_and, and_true, Nat.reduceAdd, Nat.reduceLeDiff, hd2, rL0, e7, Nat.reduceLT]
    exact h μ hR0 rfl
theorem xc_last {l : Launch} {K : KK} {d : Nat} {μ : Mm} {P : Option AV → Mm → Prop} {N : Nat} {S : SS} {x : Int32} (hV : Inv N S) (hR : RC μ S) (hd1 : 14 ≤ d) (h : ∀ μ2, RC μ2 (S) → Off8 μ μ2 → P (some (vI (vLast x S))) μ2) : Ok l K d 92 [vR 7 0 0, vI x] μ P := by
  refine ok_go 2 (by decide +kernel) [some (vR 7 0 0), some (vI x)] rfl (Nat.le_of_ble_eq_true rfl) ?_
  have hR0 := hR
  have hV0 := hV
  obtain ⟨⟨L, pg⟩, ⟨laid, op⟩, t, ⟨f, cs⟩, ⟨im, t2, f2, cs2⟩, q, w, b⟩ := S
  obtain ⟨⟨rP, rC, rW⟩, ⟨rT, rG⟩, ⟨r7, rK⟩, ⟨r8, r9, r10⟩, rN⟩ := hR
  obtain ⟨⟨iL, iP⟩, ⟨iO, iO2⟩, ⟨iT, iF⟩, iK, ⟨iq, iw, ib⟩⟩ := hV
  have hd2 : 1 ≤ d := by omega
  have rm := rT.1
  have hn := iT.1
  have g5 : μ 1 0 0 5 = nI (ix (f 5)) := (rG.1 5 (by omega) (by omega)).trans iF.2.2
  have m6 := iF.2.1
  have e42 : (nI (ix (f 5)) = 0) = (ix (f 5) = 0) := propext (nI_eq (b := 0) (by omega) (by omega))
  obtain ⟨v, hv, n0, n1⟩ := rN
  refine go_blk [(.aload_n 0, 0, 0, 0), (.getfield 28, 7, 2, 0), (.getfield 118, 1, 0, 0), (.iload_n 1, 0, 0, 0), (.invokevirtual 146, 60, 1, 6)] (by decide +kernel) ?_
  simp only [e_al_0, e_gf_7_2, e_gf_1_0, e_il_1, e_iv_6_1, rd_7_2, rd_1_0, e_nil, nol_n, nol_I, nol_R, rsum_0, rsum_I, rsum_R, ps_s, ps_n, true_and, and_true, Nat.reduceAdd, Nat.reduceLeDiff, hd2, bi_0, rm, g5, e42, Nat.reduceLT]
  refine ok_has (by omega) rm ?_
  refine go_blk [(.ifCond .ne 6, 17, 0, 0)] (by decide +kernel) ?_
  simp only [e_if_ne, e_nil, nol_n, nol_I, nol_R, rsum_0, rsum_I, rsum_R, ps_s, ps_n, true_and, and_true, Nat.reduceAdd, Nat.reduceLeDiff, hd2, bi_0, rm, g5, e42, Nat.reduceLT]
  refine ⟨fun c11 => ?_, fun c11 => ?_⟩
  · obtain ⟨a, ha, rfl⟩ := has_of hn c11
    have xa : ix (nI a) = a := nI_ix (by omega)
    have va : vp_in (nI a) 6 := vin (by omega) (by omega)
    obtain ⟨-, -, -, -, a7⟩ := rT.row ha
    have ra := iT.2.1 a ha
    have e87 : (nI (t 7 a) = 0) = (¬ t 7 a = 1) := (b2 _ ra.2.2.2.2.1).1
    refine go_blk [(.aload_n 0, 0, 0, 0), (.getfield 28, 7, 2, 0), (.getfield 118, 1, 0, 0), (.getfield 157, 6, 6, 0), (.iload_n 1, 0, 0, 0), (.baload, 1, 0, 0), (.ifCond .ne 6, 35, 0, 0)] (by decide +kernel) ?_
    simp only [e_al_0, e_gf_7_2, e_gf_1_0, e_gf_6_6, e_il_1, e_za, e_if_ne, rd_7_2, rd_1_0, rd_6_6, ai_0_4, ai_1_7, ai_2_1, ai_2_2, ai_3_1, ai_4_1, ai_6_3, ai_6_4, ai_6_5, ai_6_6, ai_6_7, ai_6_8, ai_8_5, ai_8_6, ai_8_17, ai_8_21, ai_8_23, ai_8_24, ai_8_27, ai_8_28, ai_8_38, ai_8_39, ai_8_40, e_nil, nol_n, nol_I, nol_R, rsum_0, rsum_I, rsum_R, ps_s, ps_n, true_and, and_true, Nat.reduceAdd, Nat.reduceLeDiff, hd2, bi_0, rm, g5, e42, Nat.reduceLT, xa, va, a7, e87]
    refine ⟨fun c29 => ?_, fun c29 => ?_⟩
    · have t7 : t 7 a = 1 := Classical.not_not.mp c29
      have nt7 : ¬ ¬ t 7 (ix (nI a)) = 1 := by rw [xa]; exact c29
      refine go_blk [(.aload_n 0, 0, 0, 0), (.getfield 28, 7, 2, 0), (.getfield 213, 1, 5, 0), (.ifCond .ne 5, 47, 0, 0)] (by decide +kernel) ?_
      simp only [e_al_0, e_gf_7_2, e_gf_1_5, e_if_ne, rd_7_2, rd_1_5, e_nil, nol_n, nol_I, nol_R, rsum_0, rsum_I, rsum_R, ps_s, ps_n, true_and, and_true, Nat.reduceAdd, Nat.reduceLeDiff, hd2, bi_0, rm, g5, e42, Nat.reduceLT, xa, va, a7, e87]
      refine ⟨fun c42 => ?_, fun c42 => ?_⟩
      · have e : vLast (nI a) ((L, pg), (laid, op), t, (f, cs), (im, t2, f2, cs2), (q, w, b)) = laV t cs (ix (f 5)) a := by
          show (if _ then _ else if _ then _ else if _ then _ else _) = _
          rw [if_neg c11, if_neg nt7, if_neg c42, xa]
        rw [e] at h
        refine go_blk [(.aload_n 0, 0, 0, 0), (.getfield 38, 7, 4, 0), (.aload_n 0, 0, 0, 0), (.getfield 28, 7, 2, 0), (.invokevirtual 219, 32, 1, 2)] (by decide +kernel) ?_
        simp only [e_al_0, e_gf_7_4, e_gf_7_2, e_iv_2_1, rd_7_4, rd_7_2, e_nil, nol_n, nol_I, nol_R, rsum_0, rsum_I, rsum_R, ps_s, ps_n, true_and, and_true, Nat.reduceAdd, Nat.reduceLeDiff, hd2, bi_0, rm, g5, e42, Nat.reduceLT, xa, va, a7, e87]
        refine ok_unfold (by omega) rT iT rG iF.2.2 iF.2.1 hv n0 n1 (by omega) (fun μ1 v1 hN1 => ?_)
        obtain ⟨hv1, k0, k1, k3, kA, kO⟩ := hN1
        have en : nSt t (ix (f 5)) = 2 ^ spN t := if_neg c42
        rw [en] at k3 kA
        have bd : ∀ (g : Nat → Nat), (∀ s, g s ≤ wyA cs (otN t) (spN t) (ix (f 5)) s) → smN g (2 ^ spN t) < 2 ^ 31 := fun g hg => by
          have h1 := smN_le (f := g) (B := 117649) (2 ^ spN t) (fun j _ => Nat.le_trans (hg j) (Nat.le_trans (wyA_le (spN_le iT) _ _) (Nat.pow_le_pow_right (n := 7) (by decide) m6)))
          have h2 : 2 ^ spN t * 117649 ≤ 64 * 117649 := Nat.mul_le_mul_right _ (pw6 (spN_le iT))
          omega
        refine go_blk [(.aload_n 0, 0, 0, 0), (.getfield 38, 7, 4, 0), (.iload_n 1, 0, 0, 0), (.aload_n 0, 0, 0, 0), (.getfield 28, 7, 2, 0), (.getfield 118, 1, 0, 0), (.invokevirtual 226, 34, 2, 2)] (by decide +kernel) ?_
        simp only [e_al_0, e_gf_7_4, e_il_1, e_gf_7_2, e_gf_1_0, e_iv_2_2, rd_7_4, rd_7_2, rd_1_0, e_nil, nol_n, nol_I, nol_R, rsum_0, rsum_I, rsum_R, ps_s, ps_n, true_and, and_true, Nat.reduceAdd, Nat.reduceLeDiff, hd2, bi_0, rm, g5, e42, Nat.reduceLT, xa, va, a7, e87]
        refine ok_lastSideOf (by omega) (rT.off (kO 6 0 (by omega))) iT ha hv1 k0 k3 (pw6 (spN_le iT)) kA (bd _ (fun s => by show (if _ then _ else _) ≤ _; split <;> omega)) (bd _ (fun s => by show (if _ then _ else _) ≤ _; split <;> omega)) (by omega) ?_
        refine go_blk [(.ireturn, 0, 0, 0)] (by decide +kernel) ?_
        simp only [e_iret0, e_nil, nol_n, nol_I, nol_R, rsum_0, rsum_I, rsum_R, ps_s, ps_n, true_and, and_true, Nat.reduceAdd, Nat.reduceLeDiff, hd2, bi_0, rm, g5, e42, Nat.reduceLT, xa, va, a7, e87]
        have z2 := rc_n hR0 kO ⟨v1, hv1, k0, k1⟩
        exact h μ1 z2.1 z2.2
      · have e : vLast (nI a) ((L, pg), (laid, op), t, (f, cs), (im, t2, f2, cs2), (q, w, b)) = -1 := by
          show (if _ then _ else if _ then _ else if _ then _ else _) = _
          rw [if_neg c11, if_neg nt7, if_pos c42]
        rw [e] at h
        refine go_blk [(.iconst (-1), 0, 0, 0), (.ireturn, 0, 0, 0)] (by decide +kernel) ?_
        simp only [e_ic_m1, e_iret0, e_nil, nol_n, nol_I, nol_R, rsum_0, rsum_I, rsum_R, ps_s, ps_n, true_and, and_true, Nat.reduceAdd, Nat.reduceLeDiff, hd2, bi_0, rm, g5, e42, Nat.reduceLT, xa, va, a7, e87]
        exact h μ hR0 rfl
    · have e : vLast (nI a) ((L, pg), (laid, op), t, (f, cs), (im, t2, f2, cs2), (q, w, b)) = -103 := by
        show (if _ then _ else if _ then _ else if _ then _ else _) = _
        rw [if_neg c11, xa, if_pos c29]
      rw [e] at h
      refine go_blk [(.bipush (-103), 0, 0, 0), (.ireturn, 0, 0, 0)] (by decide +kernel) ?_
      simp only [e_bp_m103, e_iret0, e_nil, nol_n, nol_I, nol_R, rsum_0, rsum_I, rsum_R, ps_s, ps_n, true_and, and_true, Nat.reduceAdd, Nat.reduceLeDiff, hd2, bi_0, rm, g5, e42, Nat.reduceLT, xa, va, a7, e87]
      exact h μ hR0 rfl
  · have e : vLast x ((L, pg), (laid, op), t, (f, cs), (im, t2, f2, cs2), (q, w, b)) = -101 := by
      show (if _ then _ else if _ then _ else if _ then _ else _) = _
      rw [if_pos c11]
    rw [e] at h
    refine go_blk [(.bipush (-101), 0, 0, 0), (.ireturn, 0, 0, 0)] (by decide +kernel) ?_
    simp only [e_bp_m101, e_iret0, e_nil, nol_n, nol_I, nol_R, rsum_0, rsum_I, rsum_R, ps_s, ps_n, true_and, and_true, Nat.reduceAdd, Nat.reduceLeDiff, hd2, bi_0, rm, g5, e42, Nat.reduceLT]
    exact h μ hR0 rfl
