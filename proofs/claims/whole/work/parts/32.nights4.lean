def ls0 (t : TS) (A : Nat → Nat) (a : Nat) : Nat → Nat := smN (fun s => if sdI t s a = 0 then A s else 0)
def ls1 (t : TS) (A : Nat → Nat) (a : Nat) : Nat → Nat := smN (fun s => if sdI t s a = 0 then 0 else A s)
def lsR (f s : Nat) : Int32 := if f = 0 then (if s = 0 then -1 else 1) else (if s = 0 then 0 else -1)
theorem le0 {n : Nat} (h : n < 2 ^ 31) : (nI n ≤ 0) = (n = 0) := propext ((nI_leI (b := 0) h (by omega)).trans Nat.le_zero)
theorem lp_last {l : Launch} {K : KK} {d : Nat} {μ : Mm} {P : Option AV → Mm → Prop} {g : Nat} (hg : g < 6) {t : TS} {op w st a : Nat} {A : Nat → Nat} (hT : TRep μ g t) (hI : TInv op t) (ha : a < t 0 1) (hw : w = 1 ∨ w = 2) (h0 : μ 2 0 0 0 = nI w) (h3 : μ 2 0 0 3 = nI st) (hst : st ≤ 64) (hA : ∀ j, j < st → μ 2 0 w j = nI (A j)) (b0 : ls0 t A a st < 2 ^ 31) (b1 : ls1 t A a st < 2 ^ 31) (hd1 : 3 ≤ d) (h : P (some (vI (lsR (ls0 t A a st) (ls1 t A a st)))) μ) : ∀ (r e : Nat), e + r = st → Go l K d 34 8 [some (vR 2 0 0), some (vI (nI a)), some (vR 6 g 0), some (vI (nI (ls0 t A a e))), some (vI (nI (ls1 t A a e))), some (vI (nI e))] [] μ P := by
  have hd2 : 1 ≤ d := by omega
  have hn := hI.1
  have ai := aiN hw
  have cv := cvN hw
  intro r
  induction r with
  | zero =>
    intro e he
    have e0 : e = st := by omega
    subst e0
    have f0 := le0 b0
    have f1 := le0 b1
    generalize ls0 t A a e = F at *
    generalize ls1 t A a e = S at *
    refine go_blk [(.iload 5, 0, 0, 0), (.aload_n 0, 0, 0, 0), (.getfield 22, 2, 3, 0), (.if_icmp .ge 44, 58, 0, 0)] (by decide +kernel) ?_
    simp only [e_ilw_5, e_al_0, e_gf_2_3, e_icmp_ge, rd_2_3, e_nil, nol_n, nol_I, nol_R, rsum_0, rsum_I, rsum_R, ps_s, ps_n, true_and, and_true, Nat.reduceAdd, Nat.reduceLeDiff, h3, f0, f1, true_implies, false_implies, not_true_eq_false, not_false_eq_true]
    refine ⟨fun c14 => ?_, fun c14 => ?_⟩
    · refine go_blk [(.iload_n 3, 0, 0, 0), (.ifCond .le 7, 66, 0, 0)] (by decide +kernel) ?_
      simp only [e_il_3, e_if_le, e_nil, nol_n, nol_I, nol_R, rsum_0, rsum_I, rsum_R, ps_s, ps_n, true_and, and_true, Nat.reduceAdd, Nat.reduceLeDiff, h3, f0, f1, true_implies, false_implies, not_true_eq_false, not_false_eq_true]
      refine ⟨fun c59 => ?_, fun c59 => ?_⟩
      · have q59 := eq_true c59
        have l0 : lsR F S = if S = 0 then -1 else 1 := if_pos c59
        refine go_blk [(.iconst 0, 0, 0, 0), (.iload 4, 0, 0, 0), (.ifCond .le 7, 76, 0, 0)] (by decide +kernel) ?_
        simp only [e_ic_0, e_ilw_4, e_if_le, e_nil, nol_n, nol_I, nol_R, rsum_0, rsum_I, rsum_R, ps_s, ps_n, true_and, and_true, Nat.reduceAdd, Nat.reduceLeDiff, h3, f0, f1, true_implies, false_implies, not_true_eq_false, not_false_eq_true, q59]
        refine ⟨fun c69 => ?_, fun c69 => ?_⟩
        · rw [l0, if_pos c69] at h
          refine go_blk [(.iconst 0, 0, 0, 0), (.if_icmp .ne 5, 82, 0, 0)] (by decide +kernel) ?_
          simp only [e_ic_0, e_icmp_ne, e_nil, (show ((0 : Int32) = 0) = True by decide), true_implies, false_implies, not_true_eq_false, not_false_eq_true, nol_n, nol_I, nol_R, rsum_0, rsum_I, rsum_R, ps_s, ps_n, true_and, and_true, Nat.reduceAdd, Nat.reduceLeDiff, h3, f0, f1, true_implies, false_implies, not_true_eq_false, not_false_eq_true, q59]
          refine go_blk [(.iconst (-1), 0, 0, 0), (.ireturn, 0, 0, 0)] (by decide +kernel) ?_
          simp only [e_ic_m1, e_iret0, e_nil, nol_n, nol_I, nol_R, rsum_0, rsum_I, rsum_R, ps_s, ps_n, true_and, and_true, Nat.reduceAdd, Nat.reduceLeDiff, h3, f0, f1, true_implies, false_implies, not_true_eq_false, not_false_eq_true, q59]
          exact h
        · rw [l0, if_neg c69] at h
          refine go_blk [(.iconst 1, 0, 0, 0), (.goto 4, 77, 0, 0), (.if_icmp .ne 5, 82, 0, 0)] (by decide +kernel) ?_
          simp only [e_ic_1, e_goto, e_icmp_ne, e_nil, (show ((0 : Int32) = 1) = False by decide), true_implies, false_implies, not_true_eq_false, not_false_eq_true, nol_n, nol_I, nol_R, rsum_0, rsum_I, rsum_R, ps_s, ps_n, true_and, and_true, Nat.reduceAdd, Nat.reduceLeDiff, h3, f0, f1, true_implies, false_implies, not_true_eq_false, not_false_eq_true, q59]
          refine go_blk [(.iload_n 3, 0, 0, 0), (.ifCond .le 7, 90, 0, 0)] (by decide +kernel) ?_
          simp only [e_il_3, e_if_le, e_nil, nol_n, nol_I, nol_R, rsum_0, rsum_I, rsum_R, ps_s, ps_n, true_and, and_true, Nat.reduceAdd, Nat.reduceLeDiff, h3, f0, f1, true_implies, false_implies, not_true_eq_false, not_false_eq_true, q59]
          refine go_blk [(.iconst 1, 0, 0, 0), (.ireturn, 0, 0, 0)] (by decide +kernel) ?_
          simp only [e_ic_1, e_iret0, e_nil, nol_n, nol_I, nol_R, rsum_0, rsum_I, rsum_R, ps_s, ps_n, true_and, and_true, Nat.reduceAdd, Nat.reduceLeDiff, h3, f0, f1, true_implies, false_implies, not_true_eq_false, not_false_eq_true, q59]
          exact h
      · have q59 := eq_false c59
        have l0 : lsR F S = if S = 0 then 0 else -1 := if_neg c59
        refine go_blk [(.iconst 1, 0, 0, 0), (.goto 4, 67, 0, 0), (.iload 4, 0, 0, 0), (.ifCond .le 7, 76, 0, 0)] (by decide +kernel) ?_
        simp only [e_ic_1, e_goto, e_ilw_4, e_if_le, e_nil, nol_n, nol_I, nol_R, rsum_0, rsum_I, rsum_R, ps_s, ps_n, true_and, and_true, Nat.reduceAdd, Nat.reduceLeDiff, h3, f0, f1, true_implies, false_implies, not_true_eq_false, not_false_eq_true, q59]
        refine ⟨fun c69 => ?_, fun c69 => ?_⟩
        · rw [l0, if_pos c69] at h
          refine go_blk [(.iconst 0, 0, 0, 0), (.if_icmp .ne 5, 82, 0, 0)] (by decide +kernel) ?_
          simp only [e_ic_0, e_icmp_ne, e_nil, (show ((1 : Int32) = 0) = False by decide), true_implies, false_implies, not_true_eq_false, not_false_eq_true, nol_n, nol_I, nol_R, rsum_0, rsum_I, rsum_R, ps_s, ps_n, true_and, and_true, Nat.reduceAdd, Nat.reduceLeDiff, h3, f0, f1, true_implies, false_implies, not_true_eq_false, not_false_eq_true, q59]
          refine go_blk [(.iload_n 3, 0, 0, 0), (.ifCond .le 7, 90, 0, 0)] (by decide +kernel) ?_
          simp only [e_il_3, e_if_le, e_nil, nol_n, nol_I, nol_R, rsum_0, rsum_I, rsum_R, ps_s, ps_n, true_and, and_true, Nat.reduceAdd, Nat.reduceLeDiff, h3, f0, f1, true_implies, false_implies, not_true_eq_false, not_false_eq_true, q59]
          refine go_blk [(.iconst 0, 0, 0, 0), (.goto 4, 91, 0, 0), (.ireturn, 0, 0, 0)] (by decide +kernel) ?_
          simp only [e_ic_0, e_goto, e_iret0, e_nil, nol_n, nol_I, nol_R, rsum_0, rsum_I, rsum_R, ps_s, ps_n, true_and, and_true, Nat.reduceAdd, Nat.reduceLeDiff, h3, f0, f1, true_implies, false_implies, not_true_eq_false, not_false_eq_true, q59]
          exact h
        · rw [l0, if_neg c69] at h
          refine go_blk [(.iconst 1, 0, 0, 0), (.goto 4, 77, 0, 0), (.if_icmp .ne 5, 82, 0, 0)] (by decide +kernel) ?_
          simp only [e_ic_1, e_goto, e_icmp_ne, e_nil, (show ((1 : Int32) = 1) = True by decide), true_implies, false_implies, not_true_eq_false, not_false_eq_true, nol_n, nol_I, nol_R, rsum_0, rsum_I, rsum_R, ps_s, ps_n, true_and, and_true, Nat.reduceAdd, Nat.reduceLeDiff, h3, f0, f1, true_implies, false_implies, not_true_eq_false, not_false_eq_true, q59]
          refine go_blk [(.iconst (-1), 0, 0, 0), (.ireturn, 0, 0, 0)] (by decide +kernel) ?_
          simp only [e_ic_m1, e_iret0, e_nil, nol_n, nol_I, nol_R, rsum_0, rsum_I, rsum_R, ps_s, ps_n, true_and, and_true, Nat.reduceAdd, Nat.reduceLeDiff, h3, f0, f1, true_implies, false_implies, not_true_eq_false, not_false_eq_true, q59]
          exact h
    · exact absurd (nI_le (by omega) (by omega)) c14
  | succ r ih =>
    intro e he
    have vi : vp_in (nI e) 64 := vin (by omega) (by omega)
    have hx : ix (nI e) = e := nI_ix (by omega)
    have hb := hA e (by omega)
    have s4 : sdI t e a < 2 := by
      unfold sdI
      split
      · split <;> omega
      · exact (hI.2.1 a ha).2.1
    have es : (nI (sdI t e a) = 0) = (sdI t e a = 0) := propext (nI_eq (b := 0) (by omega) (by omega))
    have u0 : ls0 t A a (e + 1) = ls0 t A a e + (if sdI t e a = 0 then A e else 0) := rfl
    have u1 : ls1 t A a (e + 1) = ls1 t A a e + (if sdI t e a = 0 then 0 else A e) := rfl
    refine go_blk [(.iload 5, 0, 0, 0), (.aload_n 0, 0, 0, 0), (.getfield 22, 2, 3, 0), (.if_icmp .ge 44, 58, 0, 0)] (by decide +kernel) ?_
    simp only [e_ilw_5, e_al_0, e_gf_2_3, e_icmp_ge, rd_2_3, e_nil, nol_n, nol_I, nol_R, rsum_0, rsum_I, rsum_R, ps_s, ps_n, true_and, and_true, Nat.reduceAdd, Nat.reduceLeDiff, h0, h3, ai, cv, hg, hd2, vi, hx, hb, es, nI_add, Classical.not_not]
    refine ⟨fun c14 => ?_, fun c14 => ?_⟩
    · exact absurd c14 (nI_ge (by omega) (by omega))
    · refine go_blk [(.iload 5, 0, 0, 0), (.iload_n 1, 0, 0, 0), (.aload_n 2, 0, 0, 0), (.invokestatic 66, 38, 3, 0)] (by decide +kernel) ?_
      simp only [e_ilw_5, e_il_1, e_al_2, e_ivs_3, e_nil, Nat.reduceLT, nol_n, nol_I, nol_R, rsum_0, rsum_I, rsum_R, ps_s, ps_n, true_and, and_true, Nat.reduceAdd, Nat.reduceLeDiff, h0, h3, ai, cv, hg, hd2, vi, hx, hb, es, nI_add, Classical.not_not]
      refine ok_sideIn hg hT hI ha (by omega) (by omega) ?_
      refine go_blk [(.ifCond .ne 16, 40, 0, 0)] (by decide +kernel) ?_
      simp only [e_if_ne, e_nil, nol_n, nol_I, nol_R, rsum_0, rsum_I, rsum_R, ps_s, ps_n, true_and, and_true, Nat.reduceAdd, Nat.reduceLeDiff, h0, h3, ai, cv, hg, hd2, vi, hx, hb, es, nI_add, Classical.not_not]
      refine ⟨fun c24 => ?_, fun c24 => ?_⟩
      · rw [if_neg c24, Nat.add_zero] at u0
        rw [if_neg c24] at u1
        refine go_blk [(.iload 4, 0, 0, 0), (.aload_n 0, 0, 0, 0), (.getfield 11, 2, 0, 0), (.iload 5, 0, 0, 0), (.iaload, 0, 0, 0), (.iadd, 0, 0, 0), (.istore 4, 0, 0, 0), (.iinc 5 1, 0, 0, 0), (.goto (-47), 8, 0, 0)] (by decide +kernel) ?_
        simp only [e_ilw_4, e_al_0, e_gf_2_0, e_ilw_5, e_ia, e_iadd, e_isw_4n, e_isw_4I, e_isw_4R, e_inc_5_1n, e_inc_5_1I, e_inc_5_1R, e_goto, rd_2_0, ai_0_4, ai_1_7, ai_2_1, ai_2_2, ai_3_1, ai_4_1, ai_6_3, ai_6_4, ai_6_5, ai_6_6, ai_6_7, ai_6_8, ai_8_5, ai_8_6, ai_8_17, ai_8_21, ai_8_23, ai_8_24, ai_8_27, ai_8_28, ai_8_38, ai_8_39, ai_8_40, e_nil, nol_n, nol_I, nol_R, rsum_0, rsum_I, rsum_R, ps_s, ps_n, true_and, and_true, Nat.reduceAdd, Nat.reduceLeDiff, h0, h3, ai, cv, hg, hd2, vi, hx, hb, es, nI_add, Classical.not_not]
        rw [nI_1]
        have z := ih (e + 1) (by omega)
        rw [u0, u1] at z
        exact z
      · rw [if_pos c24] at u0
        rw [if_pos c24, Nat.add_zero] at u1
        refine go_blk [(.iload_n 3, 0, 0, 0), (.aload_n 0, 0, 0, 0), (.getfield 11, 2, 0, 0), (.iload 5, 0, 0, 0), (.iaload, 0, 0, 0), (.iadd, 0, 0, 0), (.istore_n 3, 0, 0, 0), (.goto 15, 52, 0, 0), (.iinc 5 1, 0, 0, 0), (.goto (-47), 8, 0, 0)] (by decide +kernel) ?_
        simp only [e_il_3, e_al_0, e_gf_2_0, e_ilw_5, e_ia, e_iadd, e_is_3n, e_is_3I, e_is_3R, e_goto, e_inc_5_1n, e_inc_5_1I, e_inc_5_1R, rd_2_0, ai_0_4, ai_1_7, ai_2_1, ai_2_2, ai_3_1, ai_4_1, ai_6_3, ai_6_4, ai_6_5, ai_6_6, ai_6_7, ai_6_8, ai_8_5, ai_8_6, ai_8_17, ai_8_21, ai_8_23, ai_8_24, ai_8_27, ai_8_28, ai_8_38, ai_8_39, ai_8_40, e_nil, nol_n, nol_I, nol_R, rsum_0, rsum_I, rsum_R, ps_s, ps_n, true_and, and_true, Nat.reduceAdd, Nat.reduceLeDiff, h0, h3, ai, cv, hg, hd2, vi, hx, hb, es, nI_add, Classical.not_not]
        rw [nI_1]
        have z := ih (e + 1) (by omega)
        rw [u0, u1] at z
        exact z
theorem ok_lastSideOf {l : Launch} {K : KK} {d : Nat} {μ : Mm} {P : Option AV → Mm → Prop} {g : Nat} (hg : g < 6) {t : TS} {op w st a : Nat} {A : Nat → Nat} (hT : TRep μ g t) (hI : TInv op t) (ha : a < t 0 1) (hw : w = 1 ∨ w = 2) (h0 : μ 2 0 0 0 = nI w) (h3 : μ 2 0 0 3 = nI st) (hst : st ≤ 64) (hA : ∀ j, j < st → μ 2 0 w j = nI (A j)) (b0 : ls0 t A a st < 2 ^ 31) (b1 : ls1 t A a st < 2 ^ 31) (hd1 : 3 ≤ d) (h : P (some (vI (lsR (ls0 t A a st) (ls1 t A a st)))) μ) : Ok l K d 34 [vR 2 0 0, vI (nI a), vR 6 g 0] μ P := by
  refine ok_go 6 (by decide +kernel) [some (vR 2 0 0), some (vI (nI a)), some (vR 6 g 0), none, none, none] rfl (Nat.le_of_ble_eq_true rfl) ?_
  refine go_blk [(.iconst 0, 0, 0, 0), (.istore_n 3, 0, 0, 0), (.iconst 0, 0, 0, 0), (.istore 4, 0, 0, 0), (.iconst 0, 0, 0, 0), (.istore 5, 0, 0, 0)] (by decide +kernel) ?_
  simp only [e_ic_0, e_is_3n, e_is_3I, e_is_3R, e_isw_4n, e_isw_4I, e_isw_4R, e_isw_5n, e_isw_5I, e_isw_5R, e_nil, nol_n, nol_I, nol_R, rsum_0, rsum_I, rsum_R, ps_s, ps_n, true_and, and_true, Nat.reduceAdd, Nat.reduceLeDiff]
  exact lp_last hg hT hI ha hw h0 h3 hst hA b0 b1 hd1 h st 0 (by omega)
