theorem rc_gm {μ μ2 : Mm} {P : Nat × (Nat → Nat)} {C : Bool × Nat} {t t' : TS} {f f' cs cs' : Nat → Int32} {I : Bool × TS × (Nat → Int32) × (Nat → Int32)} {n : Nat × Nat × Nat} (hR : RC μ (P, C, t, (f, cs), I, n)) (hO : OffG 0 μ μ2) (hT : TRep μ2 0 t') (hG : GRep μ2 0 f' cs') : RC μ2 (P, C, t', (f', cs'), I, n) ∧ Off8 μ μ2 := by
  obtain ⟨L, pg⟩ := P
  obtain ⟨laid, op⟩ := C
  obtain ⟨im, t2, f2, cs2⟩ := I
  obtain ⟨q, w, b⟩ := n
  obtain ⟨⟨rP, rC, rW⟩, ⟨rT, rG⟩, ⟨r7, rK⟩, ⟨r8, r9, r10⟩, rN⟩ := hR
  have o : ∀ c, ¬ c = 1 → ¬ c = 6 → μ2 c = μ c := fun c h1 h6 => by funext i; exact hO c i (by omega) (by omega)
  exact ⟨⟨⟨rP.off (o 3 (by omega) (by omega)), rC.off (by rw [o 0 (by omega) (by omega)]), fun z => by unfold WRep; rw [o 0 (by omega) (by omega)]; exact rW z⟩, ⟨hT, hG⟩, ⟨by rw [o 7 (by omega) (by omega)]; exact r7, fun z => ⟨(rK z).1.off (hO 6 1 (by omega) (by omega)), (rK z).2.off (hO 1 1 (by omega) (by omega))⟩⟩, ⟨by rw [o 7 (by omega) (by omega)]; exact r8, by rw [o 7 (by omega) (by omega)]; exact r9, by rw [o 7 (by omega) (by omega)]; exact r10⟩, by unfold NtR; rw [o 2 (by omega) (by omega)]; exact rN⟩, o 8 (by omega) (by omega)⟩
theorem has_of {n : Nat} {x : Int32} (hn : n ≤ 6) (h : ¬ hasI n x = false) : ∃ a, a < n ∧ x = nI a := hasI_of hn (eq_true_of_ne_false h)
theorem xc_soldier {l : Launch} {K : KK} {d : Nat} {μ : Mm} {P : Option AV → Mm → Prop} {N : Nat} {S : SS} {x y z : Int32} (hV : Inv N S) (hR : RC μ S) (hd1 : 14 ≤ d) (h : ∀ μ2, RC μ2 ((aSoldier x y z S).2) → Off8 μ μ2 → P (some (vI ((aSoldier x y z S).1))) μ2) : Ok l K d 80 [vR 7 0 0, vI x, vI y, vI z] μ P := by
  refine ok_go 4 (by decide +kernel) [some (vR 7 0 0), some (vI x), some (vI y), some (vI z)] rfl (Nat.le_of_ble_eq_true rfl) ?_
  have hR0 := hR
  have hV0 := hV
  obtain ⟨⟨L, pg⟩, ⟨laid, op⟩, t, ⟨f, cs⟩, ⟨im, t2, f2, cs2⟩, q, w, b⟩ := S
  obtain ⟨⟨rP, rC, rW⟩, ⟨rT, rG⟩, ⟨r7, rK⟩, ⟨r8, r9, r10⟩, rN⟩ := hR
  obtain ⟨⟨iL, iP⟩, ⟨iO, iO2⟩, ⟨iT, iF⟩, iK, ⟨iq, iw, ib⟩⟩ := hV
  have hd2 : 1 ≤ d := by omega
  have rO := rC.2.1
  have rL0 := rC.1
  have rm := rT.1
  have hn := iT.1
  have e60 : (nI (t 0 1) < 6) = (t 0 1 < 6) := propext (nI_ltI (b := 6) (by omega) (by omega))
  refine go_blk [(.iload_n 1, 0, 0, 0), (.invokestatic 130, 100, 1, 0)] (by decide +kernel) ?_
  simp only [e_il_1, e_ivs_1, e_nil, Nat.reduceLT, nol_n, nol_I, nol_R, rsum_0, rsum_I, rsum_R, ps_s, ps_n, true_and, and_true, Nat.reduceAdd, Nat.reduceLeDiff, hd2, bi_0, rm, e60, Nat.reduceLT]
  refine ok_isKind ?_
  refine go_blk [(.ifCond .eq 10, 14, 0, 0)] (by decide +kernel) ?_
  simp only [e_if_eq, e_nil, nol_n, nol_I, nol_R, rsum_0, rsum_I, rsum_R, ps_s, ps_n, true_and, and_true, Nat.reduceAdd, Nat.reduceLeDiff, hd2, bi_0, rm, e60, Nat.reduceLT]
  refine ⟨fun c4 => ?_, fun c4 => ?_⟩
  · have e : aSoldier x y z ((L, pg), (laid, op), t, (f, cs), (im, t2, f2, cs2), (q, w, b)) = (-102, ((L, pg), (laid, op), t, (f, cs), (im, t2, f2, cs2), (q, w, b))) := by
      show (if _ then _ else if _ then _ else if _ then _ else if _ then _ else _) = _
      rw [if_pos (by rw [show kdB x = false from c4]; rfl)]
    rw [e] at h
    refine go_blk [(.bipush (-102), 0, 0, 0), (.ireturn, 0, 0, 0)] (by decide +kernel) ?_
    simp only [e_bp_m102, e_iret0, e_nil, nol_n, nol_I, nol_R, rsum_0, rsum_I, rsum_R, ps_s, ps_n, true_and, and_true, Nat.reduceAdd, Nat.reduceLeDiff, hd2, bi_0, rm, e60, Nat.reduceLT]
    exact h μ hR0 rfl
  · have kx : kdB x = true := eq_true_of_ne_false c4
    refine go_blk [(.iload_n 2, 0, 0, 0), (.invokestatic 133, 101, 1, 0)] (by decide +kernel) ?_
    simp only [e_il_2, e_ivs_1, e_nil, Nat.reduceLT, nol_n, nol_I, nol_R, rsum_0, rsum_I, rsum_R, ps_s, ps_n, true_and, and_true, Nat.reduceAdd, Nat.reduceLeDiff, hd2, bi_0, rm, e60, Nat.reduceLT]
    refine ok_isSide ?_
    refine go_blk [(.ifCond .ne 6, 17, 0, 0)] (by decide +kernel) ?_
    simp only [e_if_ne, e_nil, nol_n, nol_I, nol_R, rsum_0, rsum_I, rsum_R, ps_s, ps_n, true_and, and_true, Nat.reduceAdd, Nat.reduceLeDiff, hd2, bi_0, rm, e60, Nat.reduceLT]
    refine ⟨fun c11 => ?_, fun c11 => ?_⟩
    · have sy : sdB y = true := eq_true_of_ne_false c11
      have ks : ¬ (kdB x && sdB y) = false := by rw [kx, sy]; decide
      refine go_blk [(.aload_n 0, 0, 0, 0), (.getfield 19, 7, 1, 0), (.iload_n 3, 0, 0, 0), (.invokevirtual 111, 2, 1, 0)] (by decide +kernel) ?_
      simp only [e_al_0, e_gf_7_1, e_il_3, e_iv_0_1, rd_7_1, e_nil, nol_n, nol_I, nol_R, rsum_0, rsum_I, rsum_R, ps_s, ps_n, true_and, and_true, Nat.reduceAdd, Nat.reduceLeDiff, hd2, bi_0, rm, e60, Nat.reduceLT]
      refine ok_c_has rL0 ?_
      refine go_blk [(.ifCond .ne 6, 31, 0, 0)] (by decide +kernel) ?_
      simp only [e_if_ne, e_nil, nol_n, nol_I, nol_R, rsum_0, rsum_I, rsum_R, ps_s, ps_n, true_and, and_true, Nat.reduceAdd, Nat.reduceLeDiff, hd2, bi_0, rm, e60, Nat.reduceLT]
      refine ⟨fun c25 => ?_, fun c25 => ?_⟩
      · have cz0 : clB laid z = true := eq_true_of_ne_false c25
        have nz : ¬ clB laid z = false := by rw [cz0]; decide
        obtain ⟨hl, c, hc, rfl⟩ := cl_of cz0
        have xc : ix (nI c) = c := nI_ix (by omega)
        refine go_blk [(.aload_n 0, 0, 0, 0), (.getfield 28, 7, 2, 0), (.getfield 118, 1, 0, 0), (.iload_n 3, 0, 0, 0), (.invokevirtual 136, 63, 1, 6)] (by decide +kernel) ?_
        simp only [e_al_0, e_gf_7_2, e_gf_1_0, e_il_3, e_iv_6_1, rd_7_2, rd_1_0, e_nil, nol_n, nol_I, nol_R, rsum_0, rsum_I, rsum_R, ps_s, ps_n, true_and, and_true, Nat.reduceAdd, Nat.reduceLeDiff, hd2, bi_0, rm, e60, Nat.reduceLT]
        refine ok_isFree (by omega) rT iT hc rO iO (by omega) ?_
        refine go_blk [(.ifCond .ne 6, 48, 0, 0)] (by decide +kernel) ?_
        simp only [e_if_ne, e_nil, nol_n, nol_I, nol_R, rsum_0, rsum_I, rsum_R, ps_s, ps_n, true_and, and_true, Nat.reduceAdd, Nat.reduceLeDiff, hd2, bi_0, rm, e60, Nat.reduceLT]
        refine ⟨fun c42 => ?_, fun c42 => ?_⟩
        · have fz : ¬ (op.testBit (ix (nI c)) && decide (who t (ix (nI c)) = -1)) = false := by rw [xc]; exact c42
          refine go_blk [(.aload_n 0, 0, 0, 0), (.getfield 28, 7, 2, 0), (.getfield 118, 1, 0, 0), (.getfield 139, 6, 1, 0), (.bipush 6, 0, 0, 0), (.if_icmp .lt 6, 66, 0, 0)] (by decide +kernel) ?_
          simp only [e_al_0, e_gf_7_2, e_gf_1_0, e_gf_6_1, e_bp_6, e_icmp_lt, rd_7_2, rd_1_0, rd_6_1, e_nil, nol_n, nol_I, nol_R, rsum_0, rsum_I, rsum_R, ps_s, ps_n, true_and, and_true, Nat.reduceAdd, Nat.reduceLeDiff, hd2, bi_0, rm, e60, Nat.reduceLT]
          refine ⟨fun c60 => ?_, fun c60 => ?_⟩
          · obtain ⟨kd, hkd, rfl⟩ := kd_of kx
            obtain ⟨sd, hsd, rfl⟩ := sd_of sy
            have e : aSoldier (nI kd) (nI sd) (nI c) ((L, pg), (laid, op), t, (f, cs), (im, t2, f2, cs2), (q, w, b)) = (nI (t 0 1), ((L, pg), (laid, op), enl t kd sd c, (f, cs), (im, t2, f2, cs2), (q, w, b))) := by
              show (if _ then _ else if _ then _ else if _ then _ else if _ then _ else _) = _
              rw [if_neg ks, if_neg nz, if_neg fz, if_neg (by omega), xc, nI_ix (by omega), nI_ix (by omega)]
            rw [e] at h
            refine go_blk [(.aload_n 0, 0, 0, 0), (.getfield 28, 7, 2, 0), (.getfield 118, 1, 0, 0), (.iload_n 1, 0, 0, 0), (.iload_n 2, 0, 0, 0), (.iload_n 3, 0, 0, 0), (.invokevirtual 142, 64, 3, 6)] (by decide +kernel) ?_
            simp only [e_al_0, e_gf_7_2, e_gf_1_0, e_il_1, e_il_2, e_il_3, e_iv_6_3, rd_7_2, rd_1_0, e_nil, nol_n, nol_I, nol_R, rsum_0, rsum_I, rsum_R, ps_s, ps_n, true_and, and_true, Nat.reduceAdd, Nat.reduceLeDiff, hd2, bi_0, rm, e60, Nat.reduceLT]
            refine ok_enlist (by omega) rT c60 (fun μ2 tT tO => ?_)
            refine go_blk [(.ireturn, 0, 0, 0)] (by decide +kernel) ?_
            simp only [e_iret0, e_nil, nol_n, nol_I, nol_R, rsum_0, rsum_I, rsum_R, ps_s, ps_n, true_and, and_true, Nat.reduceAdd, Nat.reduceLeDiff, hd2, bi_0, rm, e60, Nat.reduceLT]
            have z2 := rc_gm hR0 tO.g tT (rG.off (tO 1 0 (by omega)))
            exact h μ2 z2.1 z2.2
          · have e : aSoldier x y (nI c) ((L, pg), (laid, op), t, (f, cs), (im, t2, f2, cs2), (q, w, b)) = (-104, ((L, pg), (laid, op), t, (f, cs), (im, t2, f2, cs2), (q, w, b))) := by
              show (if _ then _ else if _ then _ else if _ then _ else if _ then _ else _) = _
              rw [if_neg ks, if_neg nz, if_neg fz, if_pos (by omega)]
            rw [e] at h
            refine go_blk [(.bipush (-104), 0, 0, 0), (.ireturn, 0, 0, 0)] (by decide +kernel) ?_
            simp only [e_bp_m104, e_iret0, e_nil, nol_n, nol_I, nol_R, rsum_0, rsum_I, rsum_R, ps_s, ps_n, true_and, and_true, Nat.reduceAdd, Nat.reduceLeDiff, hd2, bi_0, rm, e60, Nat.reduceLT]
            exact h μ hR0 rfl
        · have e : aSoldier x y (nI c) ((L, pg), (laid, op), t, (f, cs), (im, t2, f2, cs2), (q, w, b)) = (-103, ((L, pg), (laid, op), t, (f, cs), (im, t2, f2, cs2), (q, w, b))) := by
            show (if _ then _ else if _ then _ else if _ then _ else _) = _
            rw [if_neg ks, if_neg nz, if_pos (by rw [xc]; exact c42)]
          rw [e] at h
          refine go_blk [(.bipush (-103), 0, 0, 0), (.ireturn, 0, 0, 0)] (by decide +kernel) ?_
          simp only [e_bp_m103, e_iret0, e_nil, nol_n, nol_I, nol_R, rsum_0, rsum_I, rsum_R, ps_s, ps_n, true_and, and_true, Nat.reduceAdd, Nat.reduceLeDiff, hd2, bi_0, rm, e60, Nat.reduceLT]
          exact h μ hR0 rfl
      · have e : aSoldier x y z ((L, pg), (laid, op), t, (f, cs), (im, t2, f2, cs2), (q, w, b)) = (-101, ((L, pg), (laid, op), t, (f, cs), (im, t2, f2, cs2), (q, w, b))) := by
          show (if _ then _ else if _ then _ else if _ then _ else _) = _
          rw [if_neg ks, if_pos (show clB laid z = false from c25)]
        rw [e] at h
        refine go_blk [(.bipush (-101), 0, 0, 0), (.ireturn, 0, 0, 0)] (by decide +kernel) ?_
        simp only [e_bp_m101, e_iret0, e_nil, nol_n, nol_I, nol_R, rsum_0, rsum_I, rsum_R, ps_s, ps_n, true_and, and_true, Nat.reduceAdd, Nat.reduceLeDiff, hd2, bi_0, rm, e60, Nat.reduceLT]
        exact h μ hR0 rfl
    · have e : aSoldier x y z ((L, pg), (laid, op), t, (f, cs), (im, t2, f2, cs2), (q, w, b)) = (-102, ((L, pg), (laid, op), t, (f, cs), (im, t2, f2, cs2), (q, w, b))) := by
        show (if _ then _ else if _ then _ else if _ then _ else if _ then _ else _) = _
        rw [if_pos (by rw [kx, show sdB y = false from c11]; rfl)]
      rw [e] at h
      refine go_blk [(.bipush (-102), 0, 0, 0), (.ireturn, 0, 0, 0)] (by decide +kernel) ?_
      simp only [e_bp_m102, e_iret0, e_nil, nol_n, nol_I, nol_R, rsum_0, rsum_I, rsum_R, ps_s, ps_n, true_and, and_true, Nat.reduceAdd, Nat.reduceLeDiff, hd2, bi_0, rm, e60, Nat.reduceLT]
      exact h μ hR0 rfl
theorem xc_as {l : Launch} {K : KK} {d : Nat} {μ : Mm} {P : Option AV → Mm → Prop} {N : Nat} {S : SS} {x y : Int32} (hV : Inv N S) (hR : RC μ S) (hd1 : 14 ≤ d) (h : ∀ μ2, RC μ2 (S) → Off8 μ μ2 → P (some (vI (vAs x y S))) μ2) : Ok l K d 82 [vR 7 0 0, vI x, vI y] μ P := by
  refine ok_go 3 (by decide +kernel) [some (vR 7 0 0), some (vI x), some (vI y)] rfl (Nat.le_of_ble_eq_true rfl) ?_
  have hR0 := hR
  have hV0 := hV
  obtain ⟨⟨L, pg⟩, ⟨laid, op⟩, t, ⟨f, cs⟩, ⟨im, t2, f2, cs2⟩, q, w, b⟩ := S
  obtain ⟨⟨rP, rC, rW⟩, ⟨rT, rG⟩, ⟨r7, rK⟩, ⟨r8, r9, r10⟩, rN⟩ := hR
  obtain ⟨⟨iL, iP⟩, ⟨iO, iO2⟩, ⟨iT, iF⟩, iK, ⟨iq, iw, ib⟩⟩ := hV
  have hd2 : 1 ≤ d := by omega
  have rm := rT.1
  have hn := iT.1
  refine go_blk [(.aload_n 0, 0, 0, 0), (.getfield 28, 7, 2, 0), (.getfield 118, 1, 0, 0), (.iload_n 1, 0, 0, 0), (.invokevirtual 146, 60, 1, 6)] (by decide +kernel) ?_
  simp only [e_al_0, e_gf_7_2, e_gf_1_0, e_il_1, e_iv_6_1, rd_7_2, rd_1_0, e_nil, nol_n, nol_I, nol_R, rsum_0, rsum_I, rsum_R, ps_s, ps_n, true_and, and_true, Nat.reduceAdd, Nat.reduceLeDiff, hd2, bi_0, rm, Nat.reduceLT]
  refine ok_has (by omega) rm ?_
  refine go_blk [(.ifCond .ne 6, 17, 0, 0)] (by decide +kernel) ?_
  simp only [e_if_ne, e_nil, nol_n, nol_I, nol_R, rsum_0, rsum_I, rsum_R, ps_s, ps_n, true_and, and_true, Nat.reduceAdd, Nat.reduceLeDiff, hd2, bi_0, rm, Nat.reduceLT]
  refine ⟨fun c11 => ?_, fun c11 => ?_⟩
  · obtain ⟨a, ha, rfl⟩ := has_of hn c11
    have xa : ix (nI a) = a := nI_ix (by omega)
    refine go_blk [(.iload_n 2, 0, 0, 0), (.invokestatic 130, 100, 1, 0)] (by decide +kernel) ?_
    simp only [e_il_2, e_ivs_1, e_nil, Nat.reduceLT, nol_n, nol_I, nol_R, rsum_0, rsum_I, rsum_R, ps_s, ps_n, true_and, and_true, Nat.reduceAdd, Nat.reduceLeDiff, hd2, bi_0, rm, Nat.reduceLT]
    refine ok_isKind ?_
    refine go_blk [(.ifCond .ne 6, 27, 0, 0)] (by decide +kernel) ?_
    simp only [e_if_ne, e_nil, nol_n, nol_I, nol_R, rsum_0, rsum_I, rsum_R, ps_s, ps_n, true_and, and_true, Nat.reduceAdd, Nat.reduceLeDiff, hd2, bi_0, rm, Nat.reduceLT]
    refine ⟨fun c21 => ?_, fun c21 => ?_⟩
    · have ky : kdB y = true := eq_true_of_ne_false c21
      have nky : ¬ kdB y = false := by rw [ky]; decide
      obtain ⟨kd, hkd, rfl⟩ := kd_of ky
      have xk : ix (nI kd) = kd := nI_ix (by omega)
      have vk : vp_in (nI kd) 5 := vin hkd (by omega)
      have k3 := (iT.2.1 a ha).1
      refine go_blk [(.aload_n 0, 0, 0, 0), (.getfield 28, 7, 2, 0), (.getfield 118, 1, 0, 0), (.iload_n 1, 0, 0, 0), (.invokevirtual 167, 61, 1, 6)] (by decide +kernel) ?_
      simp only [e_al_0, e_gf_7_2, e_gf_1_0, e_il_1, e_iv_6_1, rd_7_2, rd_1_0, e_nil, nol_n, nol_I, nol_R, rsum_0, rsum_I, rsum_R, ps_s, ps_n, true_and, and_true, Nat.reduceAdd, Nat.reduceLeDiff, hd2, bi_0, rm, Nat.reduceLT, xk, vk, k3]
      refine ok_kindOf (by omega) rT hn ha (iT.2.1 a ha).1 (by omega) ?_
      refine go_blk [(.getstatic 171, 10, 0, 0), (.iload_n 2, 0, 0, 0), (.aaload, 10, 0, 0), (.invokevirtual 175, 30, 1, 9)] (by decide +kernel) ?_
      simp only [e_stK, e_il_2, e_aK, e_iv_9_1, e_nil, nol_n, nol_I, nol_R, rsum_0, rsum_I, rsum_R, ps_s, ps_n, true_and, and_true, Nat.reduceAdd, Nat.reduceLeDiff, hd2, bi_0, rm, Nat.reduceLT, xk, vk, k3]
      refine ok_isA k3 hkd ?_
      refine go_blk [(.ifCond .eq 7, 53, 0, 0)] (by decide +kernel) ?_
      simp only [e_if_eq, e_nil, nol_n, nol_I, nol_R, rsum_0, rsum_I, rsum_R, ps_s, ps_n, true_and, and_true, Nat.reduceAdd, Nat.reduceLeDiff, hd2, bi_0, rm, Nat.reduceLT, xk, vk, k3]
      refine ⟨fun c46 => ?_, fun c46 => ?_⟩
      · have e : vAs (nI a) (nI kd) ((L, pg), (laid, op), t, (f, cs), (im, t2, f2, cs2), (q, w, b)) = -1 := by
          show (if _ then _ else if _ then _ else if _ then _ else _) = _
          rw [if_neg c11, if_neg nky, if_neg (fun z => by rw [xa, xk] at z; revert c46; rcases z with z | z | z <;> simp [z])]
        rw [e] at h
        refine go_blk [(.iconst (-1), 0, 0, 0), (.ireturn, 0, 0, 0)] (by decide +kernel) ?_
        simp only [e_ic_m1, e_iret0, e_nil, nol_n, nol_I, nol_R, rsum_0, rsum_I, rsum_R, ps_s, ps_n, true_and, and_true, Nat.reduceAdd, Nat.reduceLeDiff, hd2, bi_0, rm, Nat.reduceLT, xk, vk, k3]
        exact h μ hR0 rfl
      · have zz : t 3 a = kd ∨ kd = 0 ∨ (t 3 a = 4 ∧ kd = 1) := by
          simp only [Bool.or_eq_false_iff, Bool.and_eq_false_iff, decide_eq_false_iff_not] at c46
          omega
        have e : vAs (nI a) (nI kd) ((L, pg), (laid, op), t, (f, cs), (im, t2, f2, cs2), (q, w, b)) = nI a := by
          show (if _ then _ else if _ then _ else if _ then _ else _) = _
          rw [if_neg c11, if_neg nky, if_pos (by rw [xa, xk]; exact zz)]
        rw [e] at h
        refine go_blk [(.iload_n 1, 0, 0, 0), (.goto 4, 54, 0, 0), (.ireturn, 0, 0, 0)] (by decide +kernel) ?_
        simp only [e_il_1, e_goto, e_iret0, e_nil, nol_n, nol_I, nol_R, rsum_0, rsum_I, rsum_R, ps_s, ps_n, true_and, and_true, Nat.reduceAdd, Nat.reduceLeDiff, hd2, bi_0, rm, Nat.reduceLT, xk, vk, k3]
        exact h μ hR0 rfl
    · have e : vAs (nI a) y ((L, pg), (laid, op), t, (f, cs), (im, t2, f2, cs2), (q, w, b)) = -102 := by
        show (if _ then _ else if _ then _ else if _ then _ else _) = _
        rw [if_neg c11, if_pos (show kdB y = false from c21)]
      rw [e] at h
      refine go_blk [(.bipush (-102), 0, 0, 0), (.ireturn, 0, 0, 0)] (by decide +kernel) ?_
      simp only [e_bp_m102, e_iret0, e_nil, nol_n, nol_I, nol_R, rsum_0, rsum_I, rsum_R, ps_s, ps_n, true_and, and_true, Nat.reduceAdd, Nat.reduceLeDiff, hd2, bi_0, rm, Nat.reduceLT]
      exact h μ hR0 rfl
  · have e : vAs x y ((L, pg), (laid, op), t, (f, cs), (im, t2, f2, cs2), (q, w, b)) = -101 := by
      show (if _ then _ else if _ then _ else if _ then _ else _) = _
      rw [if_pos c11]
    rw [e] at h
    refine go_blk [(.bipush (-101), 0, 0, 0), (.ireturn, 0, 0, 0)] (by decide +kernel) ?_
    simp only [e_bp_m101, e_iret0, e_nil, nol_n, nol_I, nol_R, rsum_0, rsum_I, rsum_R, ps_s, ps_n, true_and, and_true, Nat.reduceAdd, Nat.reduceLeDiff, hd2, bi_0, rm, Nat.reduceLT]
    exact h μ hR0 rfl
theorem xc_move {l : Launch} {K : KK} {d : Nat} {μ : Mm} {P : Option AV → Mm → Prop} {N : Nat} {S : SS} {x y : Int32} (hV : Inv N S) (hR : RC μ S) (hd1 : 14 ≤ d) (h : ∀ μ2, RC μ2 ((aMove x y S).2) → Off8 μ μ2 → P (some (vI ((aMove x y S).1))) μ2) : Ok l K d 83 [vR 7 0 0, vI x, vI y] μ P := by
  refine ok_go 5 (by decide +kernel) [some (vR 7 0 0), some (vI x), some (vI y), none, none] rfl (Nat.le_of_ble_eq_true rfl) ?_
  have hR0 := hR
  have hV0 := hV
  obtain ⟨⟨L, pg⟩, ⟨laid, op⟩, t, ⟨f, cs⟩, ⟨im, t2, f2, cs2⟩, q, w, b⟩ := S
  obtain ⟨⟨rP, rC, rW⟩, ⟨rT, rG⟩, ⟨r7, rK⟩, ⟨r8, r9, r10⟩, rN⟩ := hR
  obtain ⟨⟨iL, iP⟩, ⟨iO, iO2⟩, ⟨iT, iF⟩, iK, ⟨iq, iw, ib⟩⟩ := hV
  have hd2 : 1 ≤ d := by omega
  have rO := rC.2.1
  have rL0 := rC.1
  have rm := rT.1
  have hn := iT.1
  refine go_blk [(.aload_n 0, 0, 0, 0), (.getfield 28, 7, 2, 0), (.getfield 118, 1, 0, 0), (.astore_n 3, 0, 0, 0), (.aload_n 3, 0, 0, 0), (.iload_n 1, 0, 0, 0), (.invokevirtual 146, 60, 1, 6)] (by decide +kernel) ?_
  simp only [e_al_0, e_gf_7_2, e_gf_1_0, e_as_3n, e_as_3I, e_as_3R, e_al_3, e_il_1, e_iv_6_1, rd_7_2, rd_1_0, e_nil, nol_n, nol_I, nol_R, rsum_0, rsum_I, rsum_R, ps_s, ps_n, true_and, and_true, Nat.reduceAdd, Nat.reduceLeDiff, hd2, bi_0, rm, Nat.reduceLT]
  refine ok_has (by omega) rm ?_
  refine go_blk [(.ifCond .eq 14, 27, 0, 0)] (by decide +kernel) ?_
  simp only [e_if_eq, e_nil, nol_n, nol_I, nol_R, rsum_0, rsum_I, rsum_R, ps_s, ps_n, true_and, and_true, Nat.reduceAdd, Nat.reduceLeDiff, hd2, bi_0, rm, Nat.reduceLT]
  refine ⟨fun c13 => ?_, fun c13 => ?_⟩
  · have e : aMove x y ((L, pg), (laid, op), t, (f, cs), (im, t2, f2, cs2), (q, w, b)) = (-101, ((L, pg), (laid, op), t, (f, cs), (im, t2, f2, cs2), (q, w, b))) := by
      show (if _ then _ else if _ then _ else _) = _
      rw [if_pos (by rw [c13]; rfl)]
    rw [e] at h
    refine go_blk [(.bipush (-101), 0, 0, 0), (.ireturn, 0, 0, 0)] (by decide +kernel) ?_
    simp only [e_bp_m101, e_iret0, e_nil, nol_n, nol_I, nol_R, rsum_0, rsum_I, rsum_R, ps_s, ps_n, true_and, and_true, Nat.reduceAdd, Nat.reduceLeDiff, hd2, bi_0, rm, Nat.reduceLT]
    exact h μ hR0 rfl
  · obtain ⟨a, ha, rfl⟩ := has_of hn c13
    have xa : ix (nI a) = a := nI_ix (by omega)
    have va : vp_in (nI a) 6 := vin (by omega) (by omega)
    have a5 := (rT.row ha).2.2.1
    have hx1 := eq_true_of_ne_false c13
    refine go_blk [(.aload_n 0, 0, 0, 0), (.getfield 19, 7, 1, 0), (.iload_n 2, 0, 0, 0), (.invokevirtual 111, 2, 1, 0)] (by decide +kernel) ?_
    simp only [e_al_0, e_gf_7_1, e_il_2, e_iv_0_1, rd_7_1, e_nil, nol_n, nol_I, nol_R, rsum_0, rsum_I, rsum_R, ps_s, ps_n, true_and, and_true, Nat.reduceAdd, Nat.reduceLeDiff, hd2, bi_0, rm, Nat.reduceLT, xa, va, a5]
    refine ok_c_has rL0 ?_
    refine go_blk [(.ifCond .ne 6, 30, 0, 0)] (by decide +kernel) ?_
    simp only [e_if_ne, e_nil, nol_n, nol_I, nol_R, rsum_0, rsum_I, rsum_R, ps_s, ps_n, true_and, and_true, Nat.reduceAdd, Nat.reduceLeDiff, hd2, bi_0, rm, Nat.reduceLT, xa, va, a5]
    refine ⟨fun c24 => ?_, fun c24 => ?_⟩
    · have cz0 : clB laid y = true := eq_true_of_ne_false c24
      obtain ⟨hl, c, hc, rfl⟩ := cl_of cz0
      have xc : ix (nI c) = c := nI_ix (by omega)
      have nb : ¬ (hasI (t 0 1) (nI a) && clB laid (nI c)) = false := by rw [hx1, cz0]; decide
      refine go_blk [(.aload_n 3, 0, 0, 0), (.iload_n 2, 0, 0, 0), (.invokevirtual 136, 63, 1, 6)] (by decide +kernel) ?_
      simp only [e_al_3, e_il_2, e_iv_6_1, e_nil, nol_n, nol_I, nol_R, rsum_0, rsum_I, rsum_R, ps_s, ps_n, true_and, and_true, Nat.reduceAdd, Nat.reduceLeDiff, hd2, bi_0, rm, Nat.reduceLT, xa, va, a5]
      refine ok_isFree (by omega) rT iT hc rO iO (by omega) ?_
      refine go_blk [(.ifCond .ne 6, 41, 0, 0)] (by decide +kernel) ?_
      simp only [e_if_ne, e_nil, nol_n, nol_I, nol_R, rsum_0, rsum_I, rsum_R, ps_s, ps_n, true_and, and_true, Nat.reduceAdd, Nat.reduceLeDiff, hd2, bi_0, rm, Nat.reduceLT, xa, va, a5]
      refine ⟨fun c35 => ?_, fun c35 => ?_⟩
      · have e : aMove (nI a) (nI c) ((L, pg), (laid, op), t, (f, cs), (im, t2, f2, cs2), (q, w, b)) = (nI (t 5 a), ((L, pg), (laid, op), tu t 5 a c, (f, cs), (im, t2, f2, cs2), (q, w, b))) := by
          show (if _ then _ else if _ then _ else _) = _
          rw [if_neg nb, if_neg (by rw [xc]; exact c35), xa, xc]
        rw [e] at h
        refine go_blk [(.aload_n 3, 0, 0, 0), (.getfield 154, 6, 4, 0), (.iload_n 1, 0, 0, 0), (.iaload, 0, 0, 0), (.istore 4, 0, 0, 0), (.aload_n 3, 0, 0, 0), (.getfield 154, 6, 4, 0), (.iload_n 1, 0, 0, 0), (.iload_n 2, 0, 0, 0), (.iastore, 0, 0, 0)] (by decide +kernel) ?_
        simp only [e_al_3, e_gf_6_4, e_il_1, e_ia, e_isw_4n, e_isw_4I, e_isw_4R, e_il_2, e_iast, rd_6_4, ai_0_4, ai_1_7, ai_2_1, ai_2_2, ai_3_1, ai_4_1, ai_6_3, ai_6_4, ai_6_5, ai_6_6, ai_6_7, ai_6_8, ai_8_5, ai_8_6, ai_8_17, ai_8_21, ai_8_23, ai_8_24, ai_8_27, ai_8_28, ai_8_38, ai_8_39, ai_8_40, e_nil, nol_n, nol_I, nol_R, rsum_0, rsum_I, rsum_R, ps_s, ps_n, true_and, and_true, Nat.reduceAdd, Nat.reduceLeDiff, hd2, bi_0, rm, Nat.reduceLT, xa, va, a5]
        refine go_blk [(.iload 4, 0, 0, 0), (.ireturn, 0, 0, 0)] (by decide +kernel) ?_
        simp only [e_ilw_4, e_iret0, e_nil, nol_n, nol_I, nol_R, rsum_0, rsum_I, rsum_R, ps_s, ps_n, true_and, and_true, Nat.reduceAdd, Nat.reduceLeDiff, hd2, bi_0, rm, Nat.reduceLT, xa, va, a5]
        have z2 := rc_gm hR0 ((OffT.rf 0 μ).up 5 a (nI c)).g (rT.up (by omega) rfl) (rG.off (((OffT.rf 0 μ).up 5 a (nI c)) 1 0 (by omega)))
        exact h _ z2.1 z2.2
      · have e : aMove (nI a) (nI c) ((L, pg), (laid, op), t, (f, cs), (im, t2, f2, cs2), (q, w, b)) = (-103, ((L, pg), (laid, op), t, (f, cs), (im, t2, f2, cs2), (q, w, b))) := by
          show (if _ then _ else if _ then _ else _) = _
          rw [if_neg nb, if_pos (by rw [xc]; exact c35)]
        rw [e] at h
        refine go_blk [(.bipush (-103), 0, 0, 0), (.ireturn, 0, 0, 0)] (by decide +kernel) ?_
        simp only [e_bp_m103, e_iret0, e_nil, nol_n, nol_I, nol_R, rsum_0, rsum_I, rsum_R, ps_s, ps_n, true_and, and_true, Nat.reduceAdd, Nat.reduceLeDiff, hd2, bi_0, rm, Nat.reduceLT, xa, va, a5]
        exact h μ hR0 rfl
    · have e : aMove (nI a) y ((L, pg), (laid, op), t, (f, cs), (im, t2, f2, cs2), (q, w, b)) = (-101, ((L, pg), (laid, op), t, (f, cs), (im, t2, f2, cs2), (q, w, b))) := by
        show (if _ then _ else if _ then _ else _) = _
        rw [if_pos (by rw [show clB laid y = false from c24, Bool.and_false])]
      rw [e] at h
      refine go_blk [(.bipush (-101), 0, 0, 0), (.ireturn, 0, 0, 0)] (by decide +kernel) ?_
      simp only [e_bp_m101, e_iret0, e_nil, nol_n, nol_I, nol_R, rsum_0, rsum_I, rsum_R, ps_s, ps_n, true_and, and_true, Nat.reduceAdd, Nat.reduceLeDiff, hd2, bi_0, rm, Nat.reduceLT, xa, va, a5]
      exact h μ hR0 rfl
theorem xc_tenths {l : Launch} {K : KK} {d : Nat} {μ : Mm} {P : Option AV → Mm → Prop} {N : Nat} {S : SS} {x y : Int32} (hV : Inv N S) (hR : RC μ S) (hd1 : 14 ≤ d) (h : ∀ μ2, RC μ2 (S) → Off8 μ μ2 → P (some (vI (vTenths x y S))) μ2) : Ok l K d 84 [vR 7 0 0, vI x, vI y] μ P := by
  refine ok_go 3 (by decide +kernel) [some (vR 7 0 0), some (vI x), some (vI y)] rfl (Nat.le_of_ble_eq_true rfl) ?_
  have hR0 := hR
  have hV0 := hV
  obtain ⟨⟨L, pg⟩, ⟨laid, op⟩, t, ⟨f, cs⟩, ⟨im, t2, f2, cs2⟩, q, w, b⟩ := S
  obtain ⟨⟨rP, rC, rW⟩, ⟨rT, rG⟩, ⟨r7, rK⟩, ⟨r8, r9, r10⟩, rN⟩ := hR
  obtain ⟨⟨iL, iP⟩, ⟨iO, iO2⟩, ⟨iT, iF⟩, iK, ⟨iq, iw, ib⟩⟩ := hV
  have hd2 : 1 ≤ d := by omega
  have rm := rT.1
  have hn := iT.1
  refine go_blk [(.aload_n 0, 0, 0, 0), (.getfield 28, 7, 2, 0), (.getfield 118, 1, 0, 0), (.iload_n 1, 0, 0, 0), (.invokevirtual 146, 60, 1, 6)] (by decide +kernel) ?_
  simp only [e_al_0, e_gf_7_2, e_gf_1_0, e_il_1, e_iv_6_1, rd_7_2, rd_1_0, e_nil, nol_n, nol_I, nol_R, rsum_0, rsum_I, rsum_R, ps_s, ps_n, true_and, and_true, Nat.reduceAdd, Nat.reduceLeDiff, hd2, bi_0, rm, Nat.reduceLT]
  refine ok_has (by omega) rm ?_
  refine go_blk [(.ifCond .eq 17, 28, 0, 0)] (by decide +kernel) ?_
  simp only [e_if_eq, e_nil, nol_n, nol_I, nol_R, rsum_0, rsum_I, rsum_R, ps_s, ps_n, true_and, and_true, Nat.reduceAdd, Nat.reduceLeDiff, hd2, bi_0, rm, Nat.reduceLT]
  refine ⟨fun c11 => ?_, fun c11 => ?_⟩
  · have e : vTenths x y ((L, pg), (laid, op), t, (f, cs), (im, t2, f2, cs2), (q, w, b)) = -101 := by
      show (if _ then _ else _) = _
      rw [if_pos (by rw [c11]; rfl)]
    rw [e] at h
    refine go_blk [(.bipush (-101), 0, 0, 0), (.ireturn, 0, 0, 0)] (by decide +kernel) ?_
    simp only [e_bp_m101, e_iret0, e_nil, nol_n, nol_I, nol_R, rsum_0, rsum_I, rsum_R, ps_s, ps_n, true_and, and_true, Nat.reduceAdd, Nat.reduceLeDiff, hd2, bi_0, rm, Nat.reduceLT]
    exact h μ hR0 rfl
  · obtain ⟨a, ha, rfl⟩ := has_of hn c11
    have xa : ix (nI a) = a := nI_ix (by omega)
    have hx1 := eq_true_of_ne_false c11
    refine go_blk [(.aload_n 0, 0, 0, 0), (.getfield 28, 7, 2, 0), (.getfield 118, 1, 0, 0), (.iload_n 2, 0, 0, 0), (.invokevirtual 146, 60, 1, 6)] (by decide +kernel) ?_
    simp only [e_al_0, e_gf_7_2, e_gf_1_0, e_il_2, e_iv_6_1, rd_7_2, rd_1_0, e_nil, nol_n, nol_I, nol_R, rsum_0, rsum_I, rsum_R, ps_s, ps_n, true_and, and_true, Nat.reduceAdd, Nat.reduceLeDiff, hd2, bi_0, rm, Nat.reduceLT]
    refine ok_has (by omega) rm ?_
    refine go_blk [(.ifCond .ne 6, 31, 0, 0)] (by decide +kernel) ?_
    simp only [e_if_ne, e_nil, nol_n, nol_I, nol_R, rsum_0, rsum_I, rsum_R, ps_s, ps_n, true_and, and_true, Nat.reduceAdd, Nat.reduceLeDiff, hd2, bi_0, rm, Nat.reduceLT]
    refine ⟨fun c25 => ?_, fun c25 => ?_⟩
    · obtain ⟨b2, hb, rfl⟩ := has_of hn c25
      have xb2 : ix (nI b2) = b2 := nI_ix (by omega)
      have nb : ¬ (hasI (t 0 1) (nI a) && hasI (t 0 1) (nI b2)) = false := by rw [hx1, eq_true_of_ne_false c25]; decide
      have hl : laid = true := by
        cases z : laid
        · have := (iO2 z).2; omega
        · rfl
      subst hl
      refine go_blk [(.aload_n 0, 0, 0, 0), (.getfield 28, 7, 2, 0), (.getfield 118, 1, 0, 0), (.iload_n 1, 0, 0, 0), (.iload_n 2, 0, 0, 0), (.invokevirtual 181, 67, 2, 6)] (by decide +kernel) ?_
      simp only [e_al_0, e_gf_7_2, e_gf_1_0, e_il_1, e_il_2, e_iv_6_2, rd_7_2, rd_1_0, e_nil, nol_n, nol_I, nol_R, rsum_0, rsum_I, rsum_R, ps_s, ps_n, true_and, and_true, Nat.reduceAdd, Nat.reduceLeDiff, hd2, bi_0, rm, Nat.reduceLT]
      refine ok_chance (by omega) rT iT rC (by omega) (by omega) (by omega) ?_
      refine go_blk [(.ireturn, 0, 0, 0)] (by decide +kernel) ?_
      simp only [e_iret0, e_nil, nol_n, nol_I, nol_R, rsum_0, rsum_I, rsum_R, ps_s, ps_n, true_and, and_true, Nat.reduceAdd, Nat.reduceLeDiff, hd2, bi_0, rm, Nat.reduceLT]
      have e : vTenths (nI a) (nI b2) ((L, pg), (true, op), t, (f, cs), (im, t2, f2, cs2), (q, w, b)) = nI (chS op t a b2) := by
        show (if _ then _ else _) = _
        rw [if_neg nb, xa, xb2]
      rw [e] at h
      exact h μ hR0 rfl
    · have e : vTenths (nI a) y ((L, pg), (laid, op), t, (f, cs), (im, t2, f2, cs2), (q, w, b)) = -101 := by
        show (if _ then _ else _) = _
        rw [if_pos (by rw [c25, Bool.and_false])]
      rw [e] at h
      refine go_blk [(.bipush (-101), 0, 0, 0), (.ireturn, 0, 0, 0)] (by decide +kernel) ?_
      simp only [e_bp_m101, e_iret0, e_nil, nol_n, nol_I, nol_R, rsum_0, rsum_I, rsum_R, ps_s, ps_n, true_and, and_true, Nat.reduceAdd, Nat.reduceLeDiff, hd2, bi_0, rm, Nat.reduceLT]
      exact h μ hR0 rfl
theorem xc_shoot {l : Launch} {K : KK} {d : Nat} {μ : Mm} {P : Option AV → Mm → Prop} {N : Nat} {S : SS} {x y : Int32} {hit : Bool} (hV : Inv N S) (hR : RC μ S) (hd1 : 14 ≤ d) (h : ∀ μ2, RC μ2 ((aShoot x y hit S).2) → Off8 μ μ2 → P (some (vI ((aShoot x y hit S).1))) μ2) : Ok l K d 85 [vR 7 0 0, vI x, vI y, vI (bi hit)] μ P := by
  refine ok_go 4 (by decide +kernel) [some (vR 7 0 0), some (vI x), some (vI y), some (vI (bi hit))] rfl (Nat.le_of_ble_eq_true rfl) ?_
  have hR0 := hR
  have hV0 := hV
  obtain ⟨⟨L, pg⟩, ⟨laid, op⟩, t, ⟨f, cs⟩, ⟨im, t2, f2, cs2⟩, q, w, b⟩ := S
  obtain ⟨⟨rP, rC, rW⟩, ⟨rT, rG⟩, ⟨r7, rK⟩, ⟨r8, r9, r10⟩, rN⟩ := hR
  obtain ⟨⟨iL, iP⟩, ⟨iO, iO2⟩, ⟨iT, iF⟩, iK, ⟨iq, iw, ib⟩⟩ := hV
  have hd2 : 1 ≤ d := by omega
  have rm := rT.1
  have hn := iT.1
  refine go_blk [(.aload_n 0, 0, 0, 0), (.getfield 28, 7, 2, 0), (.getfield 118, 1, 0, 0), (.iload_n 1, 0, 0, 0), (.invokevirtual 146, 60, 1, 6)] (by decide +kernel) ?_
  simp only [e_al_0, e_gf_7_2, e_gf_1_0, e_il_1, e_iv_6_1, rd_7_2, rd_1_0, e_nil, nol_n, nol_I, nol_R, rsum_0, rsum_I, rsum_R, ps_s, ps_n, true_and, and_true, Nat.reduceAdd, Nat.reduceLeDiff, hd2, bi_0, rm, Nat.reduceLT]
  refine ok_has (by omega) rm ?_
  refine go_blk [(.ifCond .eq 17, 28, 0, 0)] (by decide +kernel) ?_
  simp only [e_if_eq, e_nil, nol_n, nol_I, nol_R, rsum_0, rsum_I, rsum_R, ps_s, ps_n, true_and, and_true, Nat.reduceAdd, Nat.reduceLeDiff, hd2, bi_0, rm, Nat.reduceLT]
  refine ⟨fun c11 => ?_, fun c11 => ?_⟩
  · have e : aShoot x y hit ((L, pg), (laid, op), t, (f, cs), (im, t2, f2, cs2), (q, w, b)) = (-101, ((L, pg), (laid, op), t, (f, cs), (im, t2, f2, cs2), (q, w, b))) := by
      show (if _ then _ else if _ then _ else _) = _
      rw [if_pos (by rw [c11]; rfl)]
    rw [e] at h
    refine go_blk [(.bipush (-101), 0, 0, 0), (.ireturn, 0, 0, 0)] (by decide +kernel) ?_
    simp only [e_bp_m101, e_iret0, e_nil, nol_n, nol_I, nol_R, rsum_0, rsum_I, rsum_R, ps_s, ps_n, true_and, and_true, Nat.reduceAdd, Nat.reduceLeDiff, hd2, bi_0, rm, Nat.reduceLT]
    exact h μ hR0 rfl
  · obtain ⟨a, ha, rfl⟩ := has_of hn c11
    have xa : ix (nI a) = a := nI_ix (by omega)
    have hx1 := eq_true_of_ne_false c11
    refine go_blk [(.aload_n 0, 0, 0, 0), (.getfield 28, 7, 2, 0), (.getfield 118, 1, 0, 0), (.iload_n 2, 0, 0, 0), (.invokevirtual 146, 60, 1, 6)] (by decide +kernel) ?_
    simp only [e_al_0, e_gf_7_2, e_gf_1_0, e_il_2, e_iv_6_1, rd_7_2, rd_1_0, e_nil, nol_n, nol_I, nol_R, rsum_0, rsum_I, rsum_R, ps_s, ps_n, true_and, and_true, Nat.reduceAdd, Nat.reduceLeDiff, hd2, bi_0, rm, Nat.reduceLT]
    refine ok_has (by omega) rm ?_
    refine go_blk [(.ifCond .ne 6, 31, 0, 0)] (by decide +kernel) ?_
    simp only [e_if_ne, e_nil, nol_n, nol_I, nol_R, rsum_0, rsum_I, rsum_R, ps_s, ps_n, true_and, and_true, Nat.reduceAdd, Nat.reduceLeDiff, hd2, bi_0, rm, Nat.reduceLT]
    refine ⟨fun c25 => ?_, fun c25 => ?_⟩
    · obtain ⟨b2, hb, rfl⟩ := has_of hn c25
      have xb2 : ix (nI b2) = b2 := nI_ix (by omega)
      have nb : ¬ (hasI (t 0 1) (nI a) && hasI (t 0 1) (nI b2)) = false := by rw [hx1, eq_true_of_ne_false c25]; decide
      have hl : laid = true := by
        cases z : laid
        · have := (iO2 z).2; omega
        · rfl
      subst hl
      refine go_blk [(.aload_n 0, 0, 0, 0), (.getfield 28, 7, 2, 0), (.getfield 118, 1, 0, 0), (.iload_n 1, 0, 0, 0), (.iload_n 2, 0, 0, 0), (.invokevirtual 181, 67, 2, 6)] (by decide +kernel) ?_
      simp only [e_al_0, e_gf_7_2, e_gf_1_0, e_il_1, e_il_2, e_iv_6_2, rd_7_2, rd_1_0, e_nil, nol_n, nol_I, nol_R, rsum_0, rsum_I, rsum_R, ps_s, ps_n, true_and, and_true, Nat.reduceAdd, Nat.reduceLeDiff, hd2, bi_0, rm, Nat.reduceLT]
      refine ok_chance (by omega) rT iT rC (by omega) (by omega) (by omega) ?_
      have cl := chS_le op t a b2
      have e43 : (nI (chS op t a b2) = 0) = (chS op t a b2 = 0) := propext (nI_eq (b := 0) (by omega) (by omega))
      refine go_blk [(.ifCond .ne 6, 49, 0, 0)] (by decide +kernel) ?_
      simp only [e_if_ne, e_nil, nol_n, nol_I, nol_R, rsum_0, rsum_I, rsum_R, ps_s, ps_n, true_and, and_true, Nat.reduceAdd, Nat.reduceLeDiff, hd2, bi_0, rm, Nat.reduceLT, e43]
      refine ⟨fun c43 => ?_, fun c43 => ?_⟩
      · have e : aShoot (nI a) (nI b2) hit ((L, pg), (true, op), t, (f, cs), (im, t2, f2, cs2), (q, w, b)) = (nI (fireS op t a b2 hit).2, ((L, pg), (true, op), (fireS op t a b2 hit).1, (plf f (ix (f 3)) t a b2, cs), (im, t2, f2, cs2), (q, w, b))) := by
          show (if _ then _ else if _ then _ else _) = _
          rw [if_neg nb, xa, xb2, if_neg c43]
        rw [e] at h
        refine go_blk [(.aload_n 0, 0, 0, 0), (.getfield 28, 7, 2, 0), (.iload_n 1, 0, 0, 0), (.iload_n 2, 0, 0, 0), (.iload_n 3, 0, 0, 0), (.invokevirtual 185, 17, 3, 1)] (by decide +kernel) ?_
        simp only [e_al_0, e_gf_7_2, e_il_1, e_il_2, e_il_3, e_iv_1_3, rd_7_2, e_nil, nol_n, nol_I, nol_R, rsum_0, rsum_I, rsum_R, ps_s, ps_n, true_and, and_true, Nat.reduceAdd, Nat.reduceLeDiff, hd2, bi_0, rm, Nat.reduceLT, e43]
        refine ok_play (by omega) rT iT rC rG iF.1.2 iF.1.1 c43 (by omega) (fun μ2 tT tG tO => ?_)
        refine go_blk [(.ireturn, 0, 0, 0)] (by decide +kernel) ?_
        simp only [e_iret0, e_nil, nol_n, nol_I, nol_R, rsum_0, rsum_I, rsum_R, ps_s, ps_n, true_and, and_true, Nat.reduceAdd, Nat.reduceLeDiff, hd2, bi_0, rm, Nat.reduceLT, e43]
        have z2 := rc_gm hR0 tO tT tG
        exact h μ2 z2.1 z2.2
      · have e : aShoot (nI a) (nI b2) hit ((L, pg), (true, op), t, (f, cs), (im, t2, f2, cs2), (q, w, b)) = (-103, ((L, pg), (true, op), t, (f, cs), (im, t2, f2, cs2), (q, w, b))) := by
          show (if _ then _ else if _ then _ else _) = _
          rw [if_neg nb, xa, xb2, if_pos c43]
        rw [e] at h
        refine go_blk [(.bipush (-103), 0, 0, 0), (.ireturn, 0, 0, 0)] (by decide +kernel) ?_
        simp only [e_bp_m103, e_iret0, e_nil, nol_n, nol_I, nol_R, rsum_0, rsum_I, rsum_R, ps_s, ps_n, true_and, and_true, Nat.reduceAdd, Nat.reduceLeDiff, hd2, bi_0, rm, Nat.reduceLT, e43]
        exact h μ hR0 rfl
    · have e : aShoot (nI a) y hit ((L, pg), (laid, op), t, (f, cs), (im, t2, f2, cs2), (q, w, b)) = (-101, ((L, pg), (laid, op), t, (f, cs), (im, t2, f2, cs2), (q, w, b))) := by
        show (if _ then _ else if _ then _ else _) = _
        rw [if_pos (by rw [c25, Bool.and_false])]
      rw [e] at h
      refine go_blk [(.bipush (-101), 0, 0, 0), (.ireturn, 0, 0, 0)] (by decide +kernel) ?_
      simp only [e_bp_m101, e_iret0, e_nil, nol_n, nol_I, nol_R, rsum_0, rsum_I, rsum_R, ps_s, ps_n, true_and, and_true, Nat.reduceAdd, Nat.reduceLeDiff, hd2, bi_0, rm, Nat.reduceLT]
      exact h μ hR0 rfl
theorem xc_dinner {l : Launch} {K : KK} {d : Nat} {μ : Mm} {P : Option AV → Mm → Prop} {N : Nat} {S : SS} (hV : Inv N S) (hR : RC μ S) (hd1 : 14 ≤ d) (h : ∀ μ2, RC μ2 ((aDinner S).2) → Off8 μ μ2 → P (some (vI ((aDinner S).1))) μ2) : Ok l K d 86 [vR 7 0 0] μ P := by
  refine ok_go 1 (by decide +kernel) [some (vR 7 0 0)] rfl (Nat.le_of_ble_eq_true rfl) ?_
  have hR0 := hR
  have hV0 := hV
  obtain ⟨⟨L, pg⟩, ⟨laid, op⟩, t, ⟨f, cs⟩, ⟨im, t2, f2, cs2⟩, q, w, b⟩ := S
  obtain ⟨⟨rP, rC, rW⟩, ⟨rT, rG⟩, ⟨r7, rK⟩, ⟨r8, r9, r10⟩, rN⟩ := hR
  obtain ⟨⟨iL, iP⟩, ⟨iO, iO2⟩, ⟨iT, iF⟩, iK, ⟨iq, iw, ib⟩⟩ := hV
  have hd2 : 1 ≤ d := by omega
  refine go_blk [(.aload_n 0, 0, 0, 0), (.getfield 28, 7, 2, 0), (.getfield 118, 1, 0, 0), (.invokevirtual 189, 69, 0, 6)] (by decide +kernel) ?_
  simp only [e_al_0, e_gf_7_2, e_gf_1_0, e_iv_6_0, rd_7_2, rd_1_0, e_nil, nol_n, nol_I, nol_R, rsum_0, rsum_I, rsum_R, ps_s, ps_n, true_and, and_true, Nat.reduceAdd, Nat.reduceLeDiff, hd2, Nat.reduceLT]
  refine ok_standUp (by omega) rT iT (fun μ2 tT tO => ?_)
  refine go_blk [(.ireturn, 0, 0, 0)] (by decide +kernel) ?_
  simp only [e_iret0, e_nil, nol_n, nol_I, nol_R, rsum_0, rsum_I, rsum_R, ps_s, ps_n, true_and, and_true, Nat.reduceAdd, Nat.reduceLeDiff, hd2, Nat.reduceLT]
  have z2 := rc_gm hR0 tO.g tT (rG.off (tO 1 0 (by omega)))
  exact h μ2 z2.1 z2.2
