/-- the page: L letters, by their codes -/
def PRep (μ : Mm) (L : Nat) (pg : Nat → Nat) : Prop := μ 3 0 0 1 = nI L ∧ L ≤ 22 ∧ ∀ j, j < L → μ 3 0 1 j = nI (pg j) ∧ pg j < 127
def cOK (k c : Nat) : Bool := decide (k < 20) && (if k < 18 then (if k = 17 then c == 59 else if k % 6 = 5 then c == 47 else c == 46 || c == 35) else decide (48 ≤ c) && decide (c ≤ 57))
def scE (x y : Int32) : Bool := decide (x < 20) && (if x < 18 then (if x = 17 then decide (y = 59) else if x - x / 6 * 6 = 5 then decide (y = 47) else decide (y = 46) || decide (y = 35)) else (!decide (y < 48) && !decide (57 < y)))
theorem sc_tab : ∀ k, k < 22 → ∀ c, c < 127 → scE (nI k) (nI c) = cOK k c := by decide +kernel
def tOK (pg : Nat → Nat) (k : Nat) : Bool := decide (k < 4) && decide (0 ≤ ixT (pg k)) && allB (fun j => pg j != pg k) k 0
theorem ch_tab : ∀ q, q < 127 → vp_nar .char ((nI q).toUInt32 % 65536).toInt32 = nI q := by decide +kernel
theorem lt4 : ∀ k, k < 22 → ((4 : Int32) ≤ nI k) = (¬ k < 4) := by decide +kernel
theorem ok_suitsCarpet {l : Launch} {K : KK} {d : Nat} {μ : Mm} {P : Option AV → Mm → Prop} {L j : Nat} {pg : Nat → Nat} (hp : PRep μ L pg) (hj : j < L) (h : P (some (vI (bi (cOK j (pg j))))) μ) : Ok l K d 46 [vR 3 0 0, vI (nI j)] μ P := by
  refine ok_go 3 (by decide +kernel) [some (vR 3 0 0), some (vI (nI j)), none] rfl (Nat.le_of_ble_eq_true rfl) ?_
  obtain ⟨hL, hL2, hq⟩ := hp
  have hv : vp_in (nI j) 22 := vin (by omega) (by omega)
  have hx : ix (nI j) = j := nI_ix (by omega)
  have hm := (hq j hj).1
  rw [← sc_tab j (by omega) (pg j) (hq j hj).2] at h
  clear hL hq
  generalize nI (pg j) = y at *
  have hx6 : (¬ (6 : Int32) = 0) = True := by decide
  refine go_blk [(.aload_n 0, 0, 0, 0), (.getfield 9, 3, 0, 0), (.iload_n 1, 0, 0, 0), (.caload, 0, 0, 0), (.istore_n 2, 0, 0, 0), (.iload_n 1, 0, 0, 0), (.bipush 20, 0, 0, 0), (.if_icmp .lt 5, 15, 0, 0)] (by decide +kernel) ?_
  simp only [e_al_0, e_gf_3_0, e_il_1, e_ca, e_is_2n, e_is_2I, e_is_2R, e_bp_20, e_icmp_lt, rd_3_0, ai_0_4, ai_1_7, ai_2_1, ai_2_2, ai_3_1, ai_4_1, ai_6_3, ai_6_4, ai_6_5, ai_6_6, ai_6_7, ai_6_8, ai_8_5, ai_8_6, ai_8_17, ai_8_21, ai_8_23, ai_8_24, ai_8_27, ai_8_28, ai_8_38, ai_8_39, ai_8_40, e_nil, nol_n, nol_I, nol_R, rsum_0, rsum_I, rsum_R, ps_s, ps_n, true_and, and_true, Nat.reduceAdd, Nat.reduceLeDiff, hv, hx, hm, hx6]
  refine ⟨fun c10 => ?_, fun c10 => ?_⟩
  · refine go_blk [(.iload_n 1, 0, 0, 0), (.bipush 18, 0, 0, 0), (.if_icmp .lt 21, 39, 0, 0)] (by decide +kernel) ?_
    simp only [e_il_1, e_bp_18, e_icmp_lt, e_nil, nol_n, nol_I, nol_R, rsum_0, rsum_I, rsum_R, ps_s, ps_n, true_and, and_true, Nat.reduceAdd, Nat.reduceLeDiff, hv, hx, hm, hx6]
    refine ⟨fun c18 => ?_, fun c18 => ?_⟩
    · refine go_blk [(.iload_n 1, 0, 0, 0), (.bipush 17, 0, 0, 0), (.if_icmp .ne 15, 57, 0, 0)] (by decide +kernel) ?_
      simp only [e_il_1, e_bp_17, e_icmp_ne, e_nil, nol_n, nol_I, nol_R, rsum_0, rsum_I, rsum_R, ps_s, ps_n, true_and, and_true, Nat.reduceAdd, Nat.reduceLeDiff, hv, hx, hm, hx6]
      refine ⟨fun c42 => ?_, fun c42 => ?_⟩
      · refine go_blk [(.iload_n 1, 0, 0, 0), (.bipush 6, 0, 0, 0), (.irem, 0, 0, 0), (.iconst 5, 0, 0, 0), (.if_icmp .ne 15, 77, 0, 0)] (by decide +kernel) ?_
        simp only [e_il_1, e_bp_6, e_irem, e_ic_5, e_icmp_ne, e_nil, nol_n, nol_I, nol_R, rsum_0, rsum_I, rsum_R, ps_s, ps_n, true_and, and_true, Nat.reduceAdd, Nat.reduceLeDiff, hv, hx, hm, hx6]
        refine ⟨fun c62 => ?_, fun c62 => ?_⟩
        · refine go_blk [(.iload_n 2, 0, 0, 0), (.bipush 46, 0, 0, 0), (.if_icmp .eq 9, 89, 0, 0)] (by decide +kernel) ?_
          simp only [e_il_2, e_bp_46, e_icmp_eq, e_nil, nol_n, nol_I, nol_R, rsum_0, rsum_I, rsum_R, ps_s, ps_n, true_and, and_true, Nat.reduceAdd, Nat.reduceLeDiff, hv, hx, hm, hx6]
          refine ⟨fun c80 => ?_, fun c80 => ?_⟩
          · refine go_blk [(.iconst 1, 0, 0, 0), (.goto 4, 94, 0, 0), (.ireturn, 1, 0, 0)] (by decide +kernel) ?_
            simp only [e_ic_1, e_goto, e_iret1, e_nil, nol_n, nol_I, nol_R, rsum_0, rsum_I, rsum_R, ps_s, ps_n, true_and, and_true, Nat.reduceAdd, Nat.reduceLeDiff, hv, hx, hm, hx6]
            refine ⟨by decide, ?_⟩
            simp_all [scE, bi]
          · refine go_blk [(.iload_n 2, 0, 0, 0), (.bipush 35, 0, 0, 0), (.if_icmp .ne 7, 93, 0, 0)] (by decide +kernel) ?_
            simp only [e_il_2, e_bp_35, e_icmp_ne, e_nil, nol_n, nol_I, nol_R, rsum_0, rsum_I, rsum_R, ps_s, ps_n, true_and, and_true, Nat.reduceAdd, Nat.reduceLeDiff, hv, hx, hm, hx6]
            refine ⟨fun c86 => ?_, fun c86 => ?_⟩
            · refine go_blk [(.iconst 0, 0, 0, 0), (.ireturn, 1, 0, 0)] (by decide +kernel) ?_
              simp only [e_ic_0, e_iret1, e_nil, nol_n, nol_I, nol_R, rsum_0, rsum_I, rsum_R, ps_s, ps_n, true_and, and_true, Nat.reduceAdd, Nat.reduceLeDiff, hv, hx, hm, hx6]
              refine ⟨by decide, ?_⟩
              simp_all [scE, bi]
            · refine go_blk [(.iconst 1, 0, 0, 0), (.goto 4, 94, 0, 0), (.ireturn, 1, 0, 0)] (by decide +kernel) ?_
              simp only [e_ic_1, e_goto, e_iret1, e_nil, nol_n, nol_I, nol_R, rsum_0, rsum_I, rsum_R, ps_s, ps_n, true_and, and_true, Nat.reduceAdd, Nat.reduceLeDiff, hv, hx, hm, hx6]
              refine ⟨by decide, ?_⟩
              simp_all [scE, bi]
        · refine go_blk [(.iload_n 2, 0, 0, 0), (.bipush 47, 0, 0, 0), (.if_icmp .ne 7, 75, 0, 0)] (by decide +kernel) ?_
          simp only [e_il_2, e_bp_47, e_icmp_ne, e_nil, nol_n, nol_I, nol_R, rsum_0, rsum_I, rsum_R, ps_s, ps_n, true_and, and_true, Nat.reduceAdd, Nat.reduceLeDiff, hv, hx, hm, hx6]
          refine ⟨fun c68 => ?_, fun c68 => ?_⟩
          · refine go_blk [(.iconst 0, 0, 0, 0), (.ireturn, 1, 0, 0)] (by decide +kernel) ?_
            simp only [e_ic_0, e_iret1, e_nil, nol_n, nol_I, nol_R, rsum_0, rsum_I, rsum_R, ps_s, ps_n, true_and, and_true, Nat.reduceAdd, Nat.reduceLeDiff, hv, hx, hm, hx6]
            refine ⟨by decide, ?_⟩
            simp_all [scE, bi]
          · refine go_blk [(.iconst 1, 0, 0, 0), (.goto 4, 76, 0, 0), (.ireturn, 1, 0, 0)] (by decide +kernel) ?_
            simp only [e_ic_1, e_goto, e_iret1, e_nil, nol_n, nol_I, nol_R, rsum_0, rsum_I, rsum_R, ps_s, ps_n, true_and, and_true, Nat.reduceAdd, Nat.reduceLeDiff, hv, hx, hm, hx6]
            refine ⟨by decide, ?_⟩
            simp_all [scE, bi]
      · refine go_blk [(.iload_n 2, 0, 0, 0), (.bipush 59, 0, 0, 0), (.if_icmp .ne 7, 55, 0, 0)] (by decide +kernel) ?_
        simp only [e_il_2, e_bp_59, e_icmp_ne, e_nil, nol_n, nol_I, nol_R, rsum_0, rsum_I, rsum_R, ps_s, ps_n, true_and, and_true, Nat.reduceAdd, Nat.reduceLeDiff, hv, hx, hm, hx6]
        refine ⟨fun c48 => ?_, fun c48 => ?_⟩
        · refine go_blk [(.iconst 0, 0, 0, 0), (.ireturn, 1, 0, 0)] (by decide +kernel) ?_
          simp only [e_ic_0, e_iret1, e_nil, nol_n, nol_I, nol_R, rsum_0, rsum_I, rsum_R, ps_s, ps_n, true_and, and_true, Nat.reduceAdd, Nat.reduceLeDiff, hv, hx, hm, hx6]
          refine ⟨by decide, ?_⟩
          simp_all [scE, bi]
        · refine go_blk [(.iconst 1, 0, 0, 0), (.goto 4, 56, 0, 0), (.ireturn, 1, 0, 0)] (by decide +kernel) ?_
          simp only [e_ic_1, e_goto, e_iret1, e_nil, nol_n, nol_I, nol_R, rsum_0, rsum_I, rsum_R, ps_s, ps_n, true_and, and_true, Nat.reduceAdd, Nat.reduceLeDiff, hv, hx, hm, hx6]
          refine ⟨by decide, ?_⟩
          simp_all [scE, bi]
    · refine go_blk [(.iload_n 2, 0, 0, 0), (.bipush 48, 0, 0, 0), (.if_icmp .lt 13, 37, 0, 0)] (by decide +kernel) ?_
      simp only [e_il_2, e_bp_48, e_icmp_lt, e_nil, nol_n, nol_I, nol_R, rsum_0, rsum_I, rsum_R, ps_s, ps_n, true_and, and_true, Nat.reduceAdd, Nat.reduceLeDiff, hv, hx, hm, hx6]
      refine ⟨fun c24 => ?_, fun c24 => ?_⟩
      · refine go_blk [(.iconst 0, 0, 0, 0), (.ireturn, 1, 0, 0)] (by decide +kernel) ?_
        simp only [e_ic_0, e_iret1, e_nil, nol_n, nol_I, nol_R, rsum_0, rsum_I, rsum_R, ps_s, ps_n, true_and, and_true, Nat.reduceAdd, Nat.reduceLeDiff, hv, hx, hm, hx6]
        refine ⟨by decide, ?_⟩
        simp_all [scE, bi]
      · refine go_blk [(.iload_n 2, 0, 0, 0), (.bipush 57, 0, 0, 0), (.if_icmp .gt 7, 37, 0, 0)] (by decide +kernel) ?_
        simp only [e_il_2, e_bp_57, e_icmp_gt, e_nil, nol_n, nol_I, nol_R, rsum_0, rsum_I, rsum_R, ps_s, ps_n, true_and, and_true, Nat.reduceAdd, Nat.reduceLeDiff, hv, hx, hm, hx6]
        refine ⟨fun c30 => ?_, fun c30 => ?_⟩
        · refine go_blk [(.iconst 0, 0, 0, 0), (.ireturn, 1, 0, 0)] (by decide +kernel) ?_
          simp only [e_ic_0, e_iret1, e_nil, nol_n, nol_I, nol_R, rsum_0, rsum_I, rsum_R, ps_s, ps_n, true_and, and_true, Nat.reduceAdd, Nat.reduceLeDiff, hv, hx, hm, hx6]
          refine ⟨by decide, ?_⟩
          simp_all [scE, bi]
        · refine go_blk [(.iconst 1, 0, 0, 0), (.goto 4, 38, 0, 0), (.ireturn, 1, 0, 0)] (by decide +kernel) ?_
          simp only [e_ic_1, e_goto, e_iret1, e_nil, nol_n, nol_I, nol_R, rsum_0, rsum_I, rsum_R, ps_s, ps_n, true_and, and_true, Nat.reduceAdd, Nat.reduceLeDiff, hv, hx, hm, hx6]
          refine ⟨by decide, ?_⟩
          simp_all [scE, bi]
  · refine go_blk [(.iconst 0, 0, 0, 0), (.ireturn, 1, 0, 0)] (by decide +kernel) ?_
    simp only [e_ic_0, e_iret1, e_nil, nol_n, nol_I, nol_R, rsum_0, rsum_I, rsum_R, ps_s, ps_n, true_and, and_true, Nat.reduceAdd, Nat.reduceLeDiff, hv, hx, hm, hx6]
    refine ⟨by decide, ?_⟩
    simp_all [scE, bi]
theorem lp_st {l : Launch} {K : KK} {d : Nat} {μ : Mm} {P : Option AV → Mm → Prop} {L k : Nat} {pg : Nat → Nat} (hp : PRep μ L pg) (hk : k < L) : ∀ (r j : Nat), j + r = k → P (some (vI (bi (allB (fun j => pg j != pg k) r j)))) μ → Go l K d 47 23 [some (vR 3 0 0), some (vI (nI k)), some (vI (nI j))] [] μ P := by
  obtain ⟨hL, hL2, hq⟩ := hp
  have hv : vp_in (nI k) 22 := vin (by omega) (by omega)
  have hx : ix (nI k) = k := nI_ix (by omega)
  have hm := (hq k hk).1
  intro r
  induction r with
  | zero =>
    intro j hj h
    refine go_blk [(.iload_n 2, 0, 0, 0), (.iload_n 1, 0, 0, 0), (.if_icmp .ge 26, 51, 0, 0)] (by decide +kernel) ?_
    simp only [e_il_2, e_il_1, e_icmp_ge, e_nil, nol_n, nol_I, nol_R, rsum_0, rsum_I, rsum_R, ps_s, ps_n, true_and, and_true, Nat.reduceAdd, Nat.reduceLeDiff]
    refine ⟨fun c25 => ?_, fun c25 => ?_⟩
    · refine go_blk [(.iconst 1, 0, 0, 0), (.ireturn, 1, 0, 0)] (by decide +kernel) ?_
      simp only [e_ic_1, e_iret1, e_nil, nol_n, nol_I, nol_R, rsum_0, rsum_I, rsum_R, ps_s, ps_n, true_and, and_true, Nat.reduceAdd, Nat.reduceLeDiff]
      exact ⟨by decide, h⟩
    · exact absurd (nI_le (by omega) (by omega)) c25
  | succ r ih =>
    intro j hj h
    have hv2 : vp_in (nI j) 22 := vin (by omega) (by omega)
    have hx2 : ix (nI j) = j := nI_ix (by omega)
    have hm2 := (hq j (by omega)).1
    have he : (nI (pg j) = nI (pg k)) = (pg j = pg k) := propext (nI_eq (by have := (hq j (by omega)).2; omega) (by have := (hq k hk).2; omega))
    refine go_blk [(.iload_n 2, 0, 0, 0), (.iload_n 1, 0, 0, 0), (.if_icmp .ge 26, 51, 0, 0)] (by decide +kernel) ?_
    simp only [e_il_2, e_il_1, e_icmp_ge, e_nil, nol_n, nol_I, nol_R, rsum_0, rsum_I, rsum_R, ps_s, ps_n, true_and, and_true, Nat.reduceAdd, Nat.reduceLeDiff, hv, hx, hm, hv2, hx2, hm2, he]
    refine ⟨fun c25 => ?_, fun c25 => ?_⟩
    · exact absurd c25 (nI_ge (by omega) (by omega))
    · refine go_blk [(.aload_n 0, 0, 0, 0), (.getfield 9, 3, 0, 0), (.iload_n 2, 0, 0, 0), (.caload, 0, 0, 0), (.aload_n 0, 0, 0, 0), (.getfield 9, 3, 0, 0), (.iload_n 1, 0, 0, 0), (.caload, 0, 0, 0), (.if_icmp .ne 5, 45, 0, 0)] (by decide +kernel) ?_
      simp only [e_al_0, e_gf_3_0, e_il_2, e_ca, e_il_1, e_icmp_ne, rd_3_0, ai_0_4, ai_1_7, ai_2_1, ai_2_2, ai_3_1, ai_4_1, ai_6_3, ai_6_4, ai_6_5, ai_6_6, ai_6_7, ai_6_8, ai_8_5, ai_8_6, ai_8_17, ai_8_21, ai_8_23, ai_8_24, ai_8_27, ai_8_28, ai_8_38, ai_8_39, ai_8_40, e_nil, nol_n, nol_I, nol_R, rsum_0, rsum_I, rsum_R, ps_s, ps_n, true_and, and_true, Nat.reduceAdd, Nat.reduceLeDiff, hv, hx, hm, hv2, hx2, hm2, he]
      refine ⟨fun c40 => ?_, fun c40 => ?_⟩
      · refine go_blk [(.iinc 2 1, 0, 0, 0), (.goto (-25), 23, 0, 0)] (by decide +kernel) ?_
        simp only [e_inc_2_1n, e_inc_2_1I, e_inc_2_1R, e_goto, e_nil, nol_n, nol_I, nol_R, rsum_0, rsum_I, rsum_R, ps_s, ps_n, true_and, and_true, Nat.reduceAdd, Nat.reduceLeDiff, hv, hx, hm, hv2, hx2, hm2, he]
        rw [nI_1]
        refine ih (j + 1) (by omega) ?_
        have e : (pg j != pg k) = true := by simpa using c40
        rw [allB, e, Bool.true_and] at h
        exact h
      · refine go_blk [(.iconst 0, 0, 0, 0), (.ireturn, 1, 0, 0)] (by decide +kernel) ?_
        simp only [e_ic_0, e_iret1, e_nil, nol_n, nol_I, nol_R, rsum_0, rsum_I, rsum_R, ps_s, ps_n, true_and, and_true, Nat.reduceAdd, Nat.reduceLeDiff, hv, hx, hm, hv2, hx2, hm2, he]
        refine ⟨by decide, ?_⟩
        simpa [allB, c40, bi] using h
theorem ok_suitsTreaty {l : Launch} {K : KK} {d : Nat} {μ : Mm} {P : Option AV → Mm → Prop} {L j : Nat} {pg : Nat → Nat} (hp : PRep μ L pg) (hj : j < L) (hd1 : 4 ≤ d) (h : P (some (vI (bi (tOK pg j)))) μ) : Ok l K d 47 [vR 3 0 0, vI (nI j)] μ P := by
  refine ok_go 3 (by decide +kernel) [some (vR 3 0 0), some (vI (nI j)), none] rfl (Nat.le_of_ble_eq_true rfl) ?_
  obtain ⟨hL, hL2, hq⟩ := hp
  have hd2 : 1 ≤ d := by omega
  have hv : vp_in (nI j) 22 := vin (by omega) (by omega)
  have hx : ix (nI j) = j := nI_ix (by omega)
  have hm := (hq j hj).1
  have h4 := lt4 j (by omega)
  refine go_blk [(.iload_n 1, 0, 0, 0), (.iconst 4, 0, 0, 0), (.if_icmp .ge 17, 19, 0, 0)] (by decide +kernel) ?_
  simp only [e_il_1, e_ic_4, e_icmp_ge, e_nil, nol_n, nol_I, nol_R, rsum_0, rsum_I, rsum_R, ps_s, ps_n, true_and, and_true, Nat.reduceAdd, Nat.reduceLeDiff, hv, hx, hm, hd2, h4]
  refine ⟨fun c2 => ?_, fun c2 => ?_⟩
  · refine go_blk [(.iconst 0, 0, 0, 0), (.ireturn, 1, 0, 0)] (by decide +kernel) ?_
    simp only [e_ic_0, e_iret1, e_nil, nol_n, nol_I, nol_R, rsum_0, rsum_I, rsum_R, ps_s, ps_n, true_and, and_true, Nat.reduceAdd, Nat.reduceLeDiff, hv, hx, hm, hd2, h4]
    refine ⟨by decide, ?_⟩
    simp_all [tOK, bi]
  · refine go_blk [(.ldc 30, 1, 0, 0), (.aload_n 0, 0, 0, 0), (.getfield 9, 3, 0, 0), (.iload_n 1, 0, 0, 0), (.caload, 0, 0, 0), (.invokevirtual 32, 183, 1, 11)] (by decide +kernel) ?_
    simp only [e_ldcS, e_al_0, e_gf_3_0, e_il_1, e_ca, e_iv_11_1, rd_3_0, ai_0_4, ai_1_7, ai_2_1, ai_2_2, ai_3_1, ai_4_1, ai_6_3, ai_6_4, ai_6_5, ai_6_6, ai_6_7, ai_6_8, ai_8_5, ai_8_6, ai_8_17, ai_8_21, ai_8_23, ai_8_24, ai_8_27, ai_8_28, ai_8_38, ai_8_39, ai_8_40, e_nil, nol_n, nol_I, nol_R, rsum_0, rsum_I, rsum_R, ps_s, ps_n, true_and, and_true, Nat.reduceAdd, Nat.reduceLeDiff, hv, hx, hm, hd2, h4]
    refine ok_indexOf (by have := (hq j hj).2; omega) (by omega) ?_
    refine go_blk [(.ifCond .ge 5, 21, 0, 0)] (by decide +kernel) ?_
    simp only [e_if_ge, e_nil, nol_n, nol_I, nol_R, rsum_0, rsum_I, rsum_R, ps_s, ps_n, true_and, and_true, Nat.reduceAdd, Nat.reduceLeDiff, hv, hx, hm, hd2, h4]
    refine ⟨fun c16 => ?_, fun c16 => ?_⟩
    · refine go_blk [(.iconst 0, 0, 0, 0), (.istore_n 2, 0, 0, 0)] (by decide +kernel) ?_
      simp only [e_ic_0, e_is_2n, e_is_2I, e_is_2R, e_nil, nol_n, nol_I, nol_R, rsum_0, rsum_I, rsum_R, ps_s, ps_n, true_and, and_true, Nat.reduceAdd, Nat.reduceLeDiff, hv, hx, hm, hd2, h4]
      refine lp_st ⟨hL, hL2, hq⟩ hj j 0 (by omega) ?_
      simpa [tOK, c16, Classical.not_not.mp c2] using h
    · refine go_blk [(.iconst 0, 0, 0, 0), (.ireturn, 1, 0, 0)] (by decide +kernel) ?_
      simp only [e_ic_0, e_iret1, e_nil, nol_n, nol_I, nol_R, rsum_0, rsum_I, rsum_R, ps_s, ps_n, true_and, and_true, Nat.reduceAdd, Nat.reduceLeDiff, hv, hx, hm, hd2, h4]
      refine ⟨by decide, ?_⟩
      simp_all [tOK, bi]
theorem lp_ff0 {l : Launch} {K : KK} {d : Nat} {μ : Mm} {P : Option AV → Mm → Prop} {L : Nat} {y3 : Option AV} {pg : Nat → Nat} (hp : PRep μ L pg) (hd1 : 2 ≤ d) (hy : nol y3 = true) : ∀ (r j : Nat), j + r = L → P (some (vI (nI (fsF (fun k => cOK k (pg k)) r j)))) μ → Go l K d 45 2 [some (vR 3 0 0), some (vI 0), some (vI (nI j)), y3] [] μ P := by
  have hL := hp.1
  have hL2 := hp.2.1
  have hd2 : 1 ≤ d := by omega
  intro r
  induction r generalizing y3 with
  | zero =>
    intro j hj h
    refine go_blk [(.iload_n 2, 0, 0, 0), (.aload_n 0, 0, 0, 0), (.getfield 15, 3, 1, 0), (.if_icmp .ge 33, 40, 0, 0)] (by decide +kernel) ?_
    simp only [e_il_2, e_al_0, e_gf_3_1, e_icmp_ge, rd_3_1, e_nil, nol_n, nol_I, nol_R, rsum_0, rsum_I, rsum_R, ps_s, ps_n, true_and, and_true, Nat.reduceAdd, Nat.reduceLeDiff, hL]
    refine ⟨fun c7 => ?_, fun c7 => ?_⟩
    · refine go_blk [(.aload_n 0, 0, 0, 0), (.getfield 15, 3, 1, 0), (.ireturn, 0, 0, 0)] (by decide +kernel) ?_
      simp only [e_al_0, e_gf_3_1, e_iret0, rd_3_1, e_nil, nol_n, nol_I, nol_R, rsum_0, rsum_I, rsum_R, ps_s, ps_n, true_and, and_true, Nat.reduceAdd, Nat.reduceLeDiff, hL]
      rw [show L = j by omega]
      exact h
    · exact absurd (nI_le (by omega) (by omega)) c7
  | succ r ih =>
    intro j hj h
    unfold fsF at h
    refine go_blk [(.iload_n 2, 0, 0, 0), (.aload_n 0, 0, 0, 0), (.getfield 15, 3, 1, 0), (.if_icmp .ge 33, 40, 0, 0)] (by decide +kernel) ?_
    simp only [e_il_2, e_al_0, e_gf_3_1, e_icmp_ge, rd_3_1, e_nil, nol_n, nol_I, nol_R, rsum_0, rsum_I, rsum_R, ps_s, ps_n, true_and, and_true, Nat.reduceAdd, Nat.reduceLeDiff, hL, hd2, bi_0]
    refine ⟨fun c7 => ?_, fun c7 => ?_⟩
    · exact absurd c7 (nI_ge (by omega) (by omega))
    · refine go_blk [(.iload_n 1, 0, 0, 0), (.ifCond .ne 11, 22, 0, 0)] (by decide +kernel) ?_
      simp only [e_il_1, e_if_ne, e_nil, nol_n, nol_I, nol_R, rsum_0, rsum_I, rsum_R, ps_s, ps_n, true_and, and_true, Nat.reduceAdd, Nat.reduceLeDiff, hL, hd2, bi_0]
      refine ⟨fun c11 => ?_, fun c11 => ?_⟩
      · exact absurd trivial c11
      · refine go_blk [(.aload_n 0, 0, 0, 0), (.iload_n 2, 0, 0, 0), (.invokevirtual 23, 46, 1, 3)] (by decide +kernel) ?_
        simp only [e_al_0, e_il_2, e_iv_3_1, e_nil, nol_n, nol_I, nol_R, rsum_0, rsum_I, rsum_R, ps_s, ps_n, true_and, and_true, Nat.reduceAdd, Nat.reduceLeDiff, hL, hd2, bi_0]
        refine ok_suitsCarpet hp (by omega) ?_
        refine go_blk [(.goto 8, 27, 0, 0), (.istore_n 3, 0, 0, 0), (.iload_n 3, 0, 0, 0), (.ifCond .ne 5, 34, 0, 0)] (by decide +kernel) ?_
        simp only [e_goto, e_is_3n, e_is_3I, e_is_3R, e_il_3, e_if_ne, e_nil, nol_n, nol_I, nol_R, rsum_0, rsum_I, rsum_R, ps_s, ps_n, true_and, and_true, Nat.reduceAdd, Nat.reduceLeDiff, hL, hd2, bi_0]
        refine ⟨fun c29 => ?_, fun c29 => ?_⟩
        · refine go_blk [(.iinc 2 1, 0, 0, 0), (.goto (-35), 2, 0, 0)] (by decide +kernel) ?_
          simp only [e_inc_2_1n, e_inc_2_1I, e_inc_2_1R, e_goto, e_nil, nol_n, nol_I, nol_R, rsum_0, rsum_I, rsum_R, ps_s, ps_n, true_and, and_true, Nat.reduceAdd, Nat.reduceLeDiff, hL, hd2, bi_0]
          rw [nI_1]
          refine ih (y3 := some (vI (bi (cOK j (pg j))))) rfl (j + 1) (by omega) ?_
          rw [if_pos (by simpa using c29)] at h
          exact h
        · refine go_blk [(.iload_n 2, 0, 0, 0), (.ireturn, 0, 0, 0)] (by decide +kernel) ?_
          simp only [e_il_2, e_iret0, e_nil, nol_n, nol_I, nol_R, rsum_0, rsum_I, rsum_R, ps_s, ps_n, true_and, and_true, Nat.reduceAdd, Nat.reduceLeDiff, hL, hd2, bi_0]
          rw [if_neg (by simpa using c29)] at h
          exact h
theorem ok_firstFault0 {l : Launch} {K : KK} {d : Nat} {μ : Mm} {P : Option AV → Mm → Prop} {L : Nat} {pg : Nat → Nat} (hp : PRep μ L pg) (hd1 : 2 ≤ d) (h : P (some (vI (nI (fsF (fun k => cOK k (pg k)) L 0)))) μ) : Ok l K d 45 [vR 3 0 0, vI 0] μ P := by
  refine ok_go 4 (by decide +kernel) [some (vR 3 0 0), some (vI 0), none, none] rfl (Nat.le_of_ble_eq_true rfl) ?_
  refine go_blk [(.iconst 0, 0, 0, 0), (.istore_n 2, 0, 0, 0)] (by decide +kernel) ?_
  simp only [e_ic_0, e_is_2n, e_is_2I, e_is_2R, e_nil, nol_n, nol_I, nol_R, rsum_0, rsum_I, rsum_R, ps_s, ps_n, true_and, and_true, Nat.reduceAdd, Nat.reduceLeDiff]
  exact lp_ff0 hp hd1 rfl L 0 (by omega) h
theorem lp_ff1 {l : Launch} {K : KK} {d : Nat} {μ : Mm} {P : Option AV → Mm → Prop} {L : Nat} {y3 : Option AV} {pg : Nat → Nat} (hp : PRep μ L pg) (hd1 : 5 ≤ d) (hy : nol y3 = true) : ∀ (r j : Nat), j + r = L → P (some (vI (nI (fsF (tOK pg) r j)))) μ → Go l K d 45 2 [some (vR 3 0 0), some (vI 1), some (vI (nI j)), y3] [] μ P := by
  have hL := hp.1
  have hL2 := hp.2.1
  have hd2 : 1 ≤ d := by omega
  intro r
  induction r generalizing y3 with
  | zero =>
    intro j hj h
    refine go_blk [(.iload_n 2, 0, 0, 0), (.aload_n 0, 0, 0, 0), (.getfield 15, 3, 1, 0), (.if_icmp .ge 33, 40, 0, 0)] (by decide +kernel) ?_
    simp only [e_il_2, e_al_0, e_gf_3_1, e_icmp_ge, rd_3_1, e_nil, nol_n, nol_I, nol_R, rsum_0, rsum_I, rsum_R, ps_s, ps_n, true_and, and_true, Nat.reduceAdd, Nat.reduceLeDiff, hL]
    refine ⟨fun c7 => ?_, fun c7 => ?_⟩
    · refine go_blk [(.aload_n 0, 0, 0, 0), (.getfield 15, 3, 1, 0), (.ireturn, 0, 0, 0)] (by decide +kernel) ?_
      simp only [e_al_0, e_gf_3_1, e_iret0, rd_3_1, e_nil, nol_n, nol_I, nol_R, rsum_0, rsum_I, rsum_R, ps_s, ps_n, true_and, and_true, Nat.reduceAdd, Nat.reduceLeDiff, hL]
      rw [show L = j by omega]
      exact h
    · exact absurd (nI_le (by omega) (by omega)) c7
  | succ r ih =>
    intro j hj h
    unfold fsF at h
    refine go_blk [(.iload_n 2, 0, 0, 0), (.aload_n 0, 0, 0, 0), (.getfield 15, 3, 1, 0), (.if_icmp .ge 33, 40, 0, 0)] (by decide +kernel) ?_
    simp only [e_il_2, e_al_0, e_gf_3_1, e_icmp_ge, rd_3_1, e_nil, nol_n, nol_I, nol_R, rsum_0, rsum_I, rsum_R, ps_s, ps_n, true_and, and_true, Nat.reduceAdd, Nat.reduceLeDiff, hL, hd2, bi_0]
    refine ⟨fun c7 => ?_, fun c7 => ?_⟩
    · exact absurd c7 (nI_ge (by omega) (by omega))
    · refine go_blk [(.iload_n 1, 0, 0, 0), (.ifCond .ne 11, 22, 0, 0)] (by decide +kernel) ?_
      simp only [e_il_1, e_if_ne, e_nil, nol_n, nol_I, nol_R, rsum_0, rsum_I, rsum_R, ps_s, ps_n, true_and, and_true, Nat.reduceAdd, Nat.reduceLeDiff, hL, hd2, bi_0]
      refine ⟨fun c11 => ?_, fun c11 => ?_⟩
      · refine go_blk [(.aload_n 0, 0, 0, 0), (.iload_n 2, 0, 0, 0), (.invokevirtual 27, 47, 1, 3)] (by decide +kernel) ?_
        simp only [e_al_0, e_il_2, e_iv_3_1, e_nil, nol_n, nol_I, nol_R, rsum_0, rsum_I, rsum_R, ps_s, ps_n, true_and, and_true, Nat.reduceAdd, Nat.reduceLeDiff, hL, hd2, bi_0]
        refine ok_suitsTreaty hp (by omega) (by omega) ?_
        refine go_blk [(.istore_n 3, 0, 0, 0), (.iload_n 3, 0, 0, 0), (.ifCond .ne 5, 34, 0, 0)] (by decide +kernel) ?_
        simp only [e_is_3n, e_is_3I, e_is_3R, e_il_3, e_if_ne, e_nil, nol_n, nol_I, nol_R, rsum_0, rsum_I, rsum_R, ps_s, ps_n, true_and, and_true, Nat.reduceAdd, Nat.reduceLeDiff, hL, hd2, bi_0]
        refine ⟨fun c29 => ?_, fun c29 => ?_⟩
        · refine go_blk [(.iinc 2 1, 0, 0, 0), (.goto (-35), 2, 0, 0)] (by decide +kernel) ?_
          simp only [e_inc_2_1n, e_inc_2_1I, e_inc_2_1R, e_goto, e_nil, nol_n, nol_I, nol_R, rsum_0, rsum_I, rsum_R, ps_s, ps_n, true_and, and_true, Nat.reduceAdd, Nat.reduceLeDiff, hL, hd2, bi_0]
          rw [nI_1]
          refine ih (y3 := some (vI (bi (tOK pg j)))) rfl (j + 1) (by omega) ?_
          rw [if_pos (by simpa using c29)] at h
          exact h
        · refine go_blk [(.iload_n 2, 0, 0, 0), (.ireturn, 0, 0, 0)] (by decide +kernel) ?_
          simp only [e_il_2, e_iret0, e_nil, nol_n, nol_I, nol_R, rsum_0, rsum_I, rsum_R, ps_s, ps_n, true_and, and_true, Nat.reduceAdd, Nat.reduceLeDiff, hL, hd2, bi_0]
          rw [if_neg (by simpa using c29)] at h
          exact h
      · exact absurd c11 (by decide)
theorem ok_firstFault1 {l : Launch} {K : KK} {d : Nat} {μ : Mm} {P : Option AV → Mm → Prop} {L : Nat} {pg : Nat → Nat} (hp : PRep μ L pg) (hd1 : 5 ≤ d) (h : P (some (vI (nI (fsF (tOK pg) L 0)))) μ) : Ok l K d 45 [vR 3 0 0, vI 1] μ P := by
  refine ok_go 4 (by decide +kernel) [some (vR 3 0 0), some (vI 1), none, none] rfl (Nat.le_of_ble_eq_true rfl) ?_
  refine go_blk [(.iconst 0, 0, 0, 0), (.istore_n 2, 0, 0, 0)] (by decide +kernel) ?_
  simp only [e_ic_0, e_is_2n, e_is_2I, e_is_2R, e_nil, nol_n, nol_I, nol_R, rsum_0, rsum_I, rsum_R, ps_s, ps_n, true_and, and_true, Nat.reduceAdd, Nat.reduceLeDiff]
  exact lp_ff1 hp hd1 rfl L 0 (by omega) h
theorem ok_isCarpet {l : Launch} {K : KK} {d : Nat} {μ : Mm} {P : Option AV → Mm → Prop} {L : Nat} {pg : Nat → Nat} (hp : PRep μ L pg) (hd1 : 3 ≤ d) (h : P (some (vI (bi (decide (L = 20) && decide (fsF (fun k => cOK k (pg k)) L 0 = L))))) μ) : Ok l K d 43 [vR 3 0 0] μ P := by
  refine ok_go 1 (by decide +kernel) [some (vR 3 0 0)] rfl (Nat.le_of_ble_eq_true rfl) ?_
  obtain ⟨hL, hL2, hq⟩ := hp
  have hd2 : 1 ≤ d := by omega
  have e1 : (nI L = 20) = (L = 20) := propext (nI_eq (b := 20) (by omega) (by omega))
  have e2 : (nI (fsF (fun k => cOK k (pg k)) L 0) = nI L) = (fsF (fun k => cOK k (pg k)) L 0 = L) := propext (nI_eq (by have := fsF_le (fun k => cOK k (pg k)) L 0; omega) (by omega))
  refine go_blk [(.aload_n 0, 0, 0, 0), (.getfield 15, 3, 1, 0), (.bipush 20, 0, 0, 0), (.if_icmp .ne 19, 25, 0, 0)] (by decide +kernel) ?_
  simp only [e_al_0, e_gf_3_1, e_bp_20, e_icmp_ne, rd_3_1, e_nil, nol_n, nol_I, nol_R, rsum_0, rsum_I, rsum_R, ps_s, ps_n, true_and, and_true, Nat.reduceAdd, Nat.reduceLeDiff, hL, hd2, e1, e2]
  refine ⟨fun c6 => ?_, fun c6 => ?_⟩
  · refine go_blk [(.iconst 0, 0, 0, 0), (.ireturn, 1, 0, 0)] (by decide +kernel) ?_
    simp only [e_ic_0, e_iret1, e_nil, nol_n, nol_I, nol_R, rsum_0, rsum_I, rsum_R, ps_s, ps_n, true_and, and_true, Nat.reduceAdd, Nat.reduceLeDiff, hL, hd2, e1, e2]
    refine ⟨by decide, ?_⟩
    simp_all [bi]
  · refine go_blk [(.aload_n 0, 0, 0, 0), (.iconst 0, 0, 0, 0), (.invokevirtual 19, 45, 1, 3)] (by decide +kernel) ?_
    simp only [e_al_0, e_ic_0, e_iv_3_1, e_nil, nol_n, nol_I, nol_R, rsum_0, rsum_I, rsum_R, ps_s, ps_n, true_and, and_true, Nat.reduceAdd, Nat.reduceLeDiff, hL, hd2, e1, e2]
    refine ok_firstFault0 ⟨hL, hL2, hq⟩ (by omega) ?_
    refine go_blk [(.aload_n 0, 0, 0, 0), (.getfield 15, 3, 1, 0), (.if_icmp .ne 7, 25, 0, 0)] (by decide +kernel) ?_
    simp only [e_al_0, e_gf_3_1, e_icmp_ne, rd_3_1, e_nil, nol_n, nol_I, nol_R, rsum_0, rsum_I, rsum_R, ps_s, ps_n, true_and, and_true, Nat.reduceAdd, Nat.reduceLeDiff, hL, hd2, e1, e2]
    refine ⟨fun c18 => ?_, fun c18 => ?_⟩
    · refine go_blk [(.iconst 0, 0, 0, 0), (.ireturn, 1, 0, 0)] (by decide +kernel) ?_
      simp only [e_ic_0, e_iret1, e_nil, nol_n, nol_I, nol_R, rsum_0, rsum_I, rsum_R, ps_s, ps_n, true_and, and_true, Nat.reduceAdd, Nat.reduceLeDiff, hL, hd2, e1, e2]
      refine ⟨by decide, ?_⟩
      simp_all [bi]
    · refine go_blk [(.iconst 1, 0, 0, 0), (.goto 4, 26, 0, 0), (.ireturn, 1, 0, 0)] (by decide +kernel) ?_
      simp only [e_ic_1, e_goto, e_iret1, e_nil, nol_n, nol_I, nol_R, rsum_0, rsum_I, rsum_R, ps_s, ps_n, true_and, and_true, Nat.reduceAdd, Nat.reduceLeDiff, hL, hd2, e1, e2]
      refine ⟨by decide, ?_⟩
      simp_all [bi]
theorem ok_isTreaty {l : Launch} {K : KK} {d : Nat} {μ : Mm} {P : Option AV → Mm → Prop} {L : Nat} {pg : Nat → Nat} (hp : PRep μ L pg) (hd1 : 6 ≤ d) (h : P (some (vI (bi (decide (1 ≤ L) && decide (fsF (tOK pg) L 0 = L))))) μ) : Ok l K d 44 [vR 3 0 0] μ P := by
  refine ok_go 1 (by decide +kernel) [some (vR 3 0 0)] rfl (Nat.le_of_ble_eq_true rfl) ?_
  obtain ⟨hL, hL2, hq⟩ := hp
  have hd2 : 1 ≤ d := by omega
  have e1 : (nI L < 1) = (¬ 1 ≤ L) := propext ((nI_ltI (b := 1) (by omega) (by omega)).trans (by omega))
  have e2 : (nI (fsF (tOK pg) L 0) = nI L) = (fsF (tOK pg) L 0 = L) := propext (nI_eq (by have := fsF_le (tOK pg) L 0; omega) (by omega))
  refine go_blk [(.aload_n 0, 0, 0, 0), (.getfield 15, 3, 1, 0), (.iconst 1, 0, 0, 0), (.if_icmp .lt 19, 24, 0, 0)] (by decide +kernel) ?_
  simp only [e_al_0, e_gf_3_1, e_ic_1, e_icmp_lt, rd_3_1, e_nil, nol_n, nol_I, nol_R, rsum_0, rsum_I, rsum_R, ps_s, ps_n, true_and, and_true, Nat.reduceAdd, Nat.reduceLeDiff, hL, hd2, e1, e2]
  refine ⟨fun c5 => ?_, fun c5 => ?_⟩
  · refine go_blk [(.iconst 0, 0, 0, 0), (.ireturn, 1, 0, 0)] (by decide +kernel) ?_
    simp only [e_ic_0, e_iret1, e_nil, nol_n, nol_I, nol_R, rsum_0, rsum_I, rsum_R, ps_s, ps_n, true_and, and_true, Nat.reduceAdd, Nat.reduceLeDiff, hL, hd2, e1, e2]
    refine ⟨by decide, ?_⟩
    revert h
    unfold bi
    split <;> intro h <;> first | exact h | (exfalso; simp_all; done) | (exfalso; simp_all; omega)
  · refine go_blk [(.aload_n 0, 0, 0, 0), (.iconst 1, 0, 0, 0), (.invokevirtual 19, 45, 1, 3)] (by decide +kernel) ?_
    simp only [e_al_0, e_ic_1, e_iv_3_1, e_nil, nol_n, nol_I, nol_R, rsum_0, rsum_I, rsum_R, ps_s, ps_n, true_and, and_true, Nat.reduceAdd, Nat.reduceLeDiff, hL, hd2, e1, e2]
    refine ok_firstFault1 ⟨hL, hL2, hq⟩ (by omega) ?_
    refine go_blk [(.aload_n 0, 0, 0, 0), (.getfield 15, 3, 1, 0), (.if_icmp .ne 7, 24, 0, 0)] (by decide +kernel) ?_
    simp only [e_al_0, e_gf_3_1, e_icmp_ne, rd_3_1, e_nil, nol_n, nol_I, nol_R, rsum_0, rsum_I, rsum_R, ps_s, ps_n, true_and, and_true, Nat.reduceAdd, Nat.reduceLeDiff, hL, hd2, e1, e2]
    refine ⟨fun c17 => ?_, fun c17 => ?_⟩
    · refine go_blk [(.iconst 0, 0, 0, 0), (.ireturn, 1, 0, 0)] (by decide +kernel) ?_
      simp only [e_ic_0, e_iret1, e_nil, nol_n, nol_I, nol_R, rsum_0, rsum_I, rsum_R, ps_s, ps_n, true_and, and_true, Nat.reduceAdd, Nat.reduceLeDiff, hL, hd2, e1, e2]
      refine ⟨by decide, ?_⟩
      revert h
      unfold bi
      split <;> intro h <;> first | exact h | (exfalso; simp_all; done) | (exfalso; simp_all; omega)
    · refine go_blk [(.iconst 1, 0, 0, 0), (.goto 4, 25, 0, 0), (.ireturn, 1, 0, 0)] (by decide +kernel) ?_
      simp only [e_ic_1, e_goto, e_iret1, e_nil, nol_n, nol_I, nol_R, rsum_0, rsum_I, rsum_R, ps_s, ps_n, true_and, and_true, Nat.reduceAdd, Nat.reduceLeDiff, hL, hd2, e1, e2]
      refine ⟨by decide, ?_⟩
      revert h
      unfold bi
      split <;> intro h <;> first | exact h | (exfalso; simp_all; done) | (exfalso; simp_all; omega)
theorem ok_append {l : Launch} {K : KK} {d : Nat} {μ : Mm} {P : Option AV → Mm → Prop} {L q : Nat} (hL : μ 3 0 0 1 = nI L) (hL2 : L < 22) (hq : q < 127) (h : P (some (vI (nI (L + 1)))) (up (up μ 3 0 1 L (nI q)) 3 0 0 1 (nI (L + 1)))) : Ok l K d 40 [vR 3 0 0, vI (nI q)] μ P := by
  refine ok_go 2 (by decide +kernel) [some (vR 3 0 0), some (vI (nI q))] rfl (Nat.le_of_ble_eq_true rfl) ?_
  have hv : vp_in (nI L) 22 := vin (by omega) (by omega)
  have hx : ix (nI L) = L := nI_ix (by omega)
  have hu : up μ 3 0 1 L (nI q) 3 0 0 1 = nI L := by rw [up_ne (by omega)]; exact hL
  refine go_blk [(.aload_n 0, 0, 0, 0), (.getfield 15, 3, 1, 0), (.bipush 22, 0, 0, 0), (.if_icmp .ge 24, 30, 0, 0)] (by decide +kernel) ?_
  simp only [e_al_0, e_gf_3_1, e_bp_22, e_icmp_ge, rd_3_1, e_nil, nol_n, nol_I, nol_R, rsum_0, rsum_I, rsum_R, ps_s, ps_n, true_and, and_true, Nat.reduceAdd, Nat.reduceLeDiff, hL, hv, hx, ch_tab q hq, hu, up_self, nI_1]
  refine ⟨fun c6 => ?_, fun c6 => ?_⟩
  · exact absurd c6 (nI_ge (b := 22) (by omega) (by omega))
  · refine go_blk [(.aload_n 0, 0, 0, 0), (.getfield 9, 3, 0, 0), (.aload_n 0, 0, 0, 0), (.getfield 15, 3, 1, 0), (.iload_n 1, 0, 0, 0), (.i2c, 0, 0, 0), (.castore, 0, 0, 0), (.aload_n 0, 0, 0, 0), (.dup, 0, 0, 0), (.getfield 15, 3, 1, 0), (.iconst 1, 0, 0, 0), (.iadd, 0, 0, 0), (.putfield 15, 3, 1, 0), (.aload_n 0, 0, 0, 0), (.getfield 15, 3, 1, 0), (.ireturn, 0, 0, 0)] (by decide +kernel) ?_
    simp only [e_al_0, e_gf_3_0, e_gf_3_1, e_il_1, e_i2c, e_cs, e_dupI, e_dupR, e_ic_1, e_iadd, e_pf_3_1, e_iret0, rd_3_0, rd_3_1, ai_0_4, ai_1_7, ai_2_1, ai_2_2, ai_3_1, ai_4_1, ai_6_3, ai_6_4, ai_6_5, ai_6_6, ai_6_7, ai_6_8, ai_8_5, ai_8_6, ai_8_17, ai_8_21, ai_8_23, ai_8_24, ai_8_27, ai_8_28, ai_8_38, ai_8_39, ai_8_40, e_nil, nol_n, nol_I, nol_R, rsum_0, rsum_I, rsum_R, ps_s, ps_n, true_and, and_true, Nat.reduceAdd, Nat.reduceLeDiff, hL, hv, hx, ch_tab q hq, hu, up_self, nI_1]
    exact h
theorem ok_empty {l : Launch} {K : KK} {d : Nat} {μ : Mm} {P : Option AV → Mm → Prop} {L : Nat} (hL : μ 3 0 0 1 = nI L) (h : P (some (vI (nI L))) (up μ 3 0 0 1 0)) : Ok l K d 41 [vR 3 0 0] μ P := by
  refine ok_go 2 (by decide +kernel) [some (vR 3 0 0), none] rfl (Nat.le_of_ble_eq_true rfl) ?_
  refine go_blk [(.aload_n 0, 0, 0, 0), (.getfield 15, 3, 1, 0), (.istore_n 1, 0, 0, 0), (.aload_n 0, 0, 0, 0), (.iconst 0, 0, 0, 0), (.putfield 15, 3, 1, 0), (.iload_n 1, 0, 0, 0), (.ireturn, 0, 0, 0)] (by decide +kernel) ?_
  simp only [e_al_0, e_gf_3_1, e_is_1n, e_is_1I, e_is_1R, e_ic_0, e_pf_3_1, e_il_1, e_iret0, rd_3_1, e_nil, nol_n, nol_I, nol_R, rsum_0, rsum_I, rsum_R, ps_s, ps_n, true_and, and_true, Nat.reduceAdd, Nat.reduceLeDiff, hL]
  exact h
theorem ok_digitAt {l : Launch} {K : KK} {d : Nat} {μ : Mm} {P : Option AV → Mm → Prop} {L j : Nat} {pg : Nat → Nat} (hp : PRep μ L pg) (hj : j < L) (h : P (some (vI (nI (pg j) - 48))) μ) : Ok l K d 42 [vR 3 0 0, vI (nI j)] μ P := by
  refine ok_go 2 (by decide +kernel) [some (vR 3 0 0), some (vI (nI j))] rfl (Nat.le_of_ble_eq_true rfl) ?_
  obtain ⟨hL, hL2, hq⟩ := hp
  have hv : vp_in (nI j) 22 := vin (by omega) (by omega)
  have hx : ix (nI j) = j := nI_ix (by omega)
  have hm := (hq j hj).1
  refine go_blk [(.iload_n 1, 0, 0, 0), (.ifCond .lt 23, 24, 0, 0)] (by decide +kernel) ?_
  simp only [e_il_1, e_if_lt, e_nil, nol_n, nol_I, nol_R, rsum_0, rsum_I, rsum_R, ps_s, ps_n, true_and, and_true, Nat.reduceAdd, Nat.reduceLeDiff, hL, hv, hx, hm]
  refine ⟨fun c1 => ?_, fun c1 => ?_⟩
  · exact absurd c1 (nI_pos (by omega))
  · refine go_blk [(.iload_n 1, 0, 0, 0), (.aload_n 0, 0, 0, 0), (.getfield 15, 3, 1, 0), (.if_icmp .ge 15, 24, 0, 0)] (by decide +kernel) ?_
    simp only [e_il_1, e_al_0, e_gf_3_1, e_icmp_ge, rd_3_1, e_nil, nol_n, nol_I, nol_R, rsum_0, rsum_I, rsum_R, ps_s, ps_n, true_and, and_true, Nat.reduceAdd, Nat.reduceLeDiff, hL, hv, hx, hm]
    refine ⟨fun c9 => ?_, fun c9 => ?_⟩
    · exact absurd c9 (nI_ge (by omega) (by omega))
    · refine go_blk [(.aload_n 0, 0, 0, 0), (.getfield 9, 3, 0, 0), (.iload_n 1, 0, 0, 0), (.caload, 0, 0, 0), (.bipush 48, 0, 0, 0), (.isub, 0, 0, 0), (.goto 4, 25, 0, 0), (.ireturn, 0, 0, 0)] (by decide +kernel) ?_
      simp only [e_al_0, e_gf_3_0, e_il_1, e_ca, e_bp_48, e_isub, e_goto, e_iret0, rd_3_0, ai_0_4, ai_1_7, ai_2_1, ai_2_2, ai_3_1, ai_4_1, ai_6_3, ai_6_4, ai_6_5, ai_6_6, ai_6_7, ai_6_8, ai_8_5, ai_8_6, ai_8_17, ai_8_21, ai_8_23, ai_8_24, ai_8_27, ai_8_28, ai_8_38, ai_8_39, ai_8_40, e_nil, nol_n, nol_I, nol_R, rsum_0, rsum_I, rsum_R, ps_s, ps_n, true_and, and_true, Nat.reduceAdd, Nat.reduceLeDiff, hL, hv, hx, hm]
      exact h
