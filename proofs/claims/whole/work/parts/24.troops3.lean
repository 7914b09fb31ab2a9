def std (t : TS) (sd : Nat) : Nat := cntB (fun j => stn t j && t 4 j == sd) (t 0 1) 0
def tgs (op : Nat) (t : TS) (a : Nat) : Nat := cntB (fun b => decide (0 < chS op t a b)) (t 0 1) 0
/-- dinner -/
def dinT (t : TS) : TS := fun s j => if s = 7 then 1 else if s = 6 then 0 else t s j
def dinN (t : TS) : Nat := cntB (fun j => !stn t j) (t 0 1) 0
def enl (t : TS) (k sd c : Nat) : TS := fun s j => if s = 0 ∧ j = 1 then t 0 1 + 1 else if j = t 0 1 then (if s = 3 then k else if s = 4 then sd else if s = 5 then c else if s = 6 then 0 else if s = 7 then 1 else t s j) else t s j
def clr (p0 p1 : Nat) : TS := fun s j => if s = 8 then (if j = 0 then p0 else p1) else 0
theorem chS_le (op : Nat) (t : TS) (a b : Nat) : chS op t a b ≤ 10 := by
  unfold chS; split <;> omega
theorem lp_std {l : Launch} {K : KK} {d : Nat} {μ : Mm} {P : Option AV → Mm → Prop} {i : Nat} (hi : i < 6) {t : TS} {sd op : Nat} (hT : TRep μ i t) (hI : TInv op t) (hsd : sd < 2) : ∀ (r j c : Nat), j + r = t 0 1 → P (some (vI (nI (c + cntB (fun j => stn t j && t 4 j == sd) r j)))) μ → Go l K d 65 4 [some (vR 6 i 0), some (vI (nI sd)), some (vI (nI c)), some (vI (nI j))] [] μ P := by
  have h1 := hT.1
  have hn := hI.1
  intro r
  induction r with
  | zero =>
    intro j c hj h
    refine go_blk [(.iload_n 3, 0, 0, 0), (.aload_n 0, 0, 0, 0), (.getfield 9, 6, 1, 0), (.if_icmp .ge 31, 40, 0, 0)] (by decide +kernel) ?_
    simp only [e_il_3, e_al_0, e_gf_6_1, e_icmp_ge, rd_6_1, e_nil, nol_n, nol_I, nol_R, rsum_0, rsum_I, rsum_R, ps_s, ps_n, true_and, and_true, Nat.reduceAdd, Nat.reduceLeDiff, hi, h1]
    refine ⟨fun c9 => ?_, fun c9 => ?_⟩
    · refine go_blk [(.iload_n 2, 0, 0, 0), (.ireturn, 0, 0, 0)] (by decide +kernel) ?_
      simp only [e_il_2, e_iret0, e_nil, nol_n, nol_I, nol_R, rsum_0, rsum_I, rsum_R, ps_s, ps_n, true_and, and_true, Nat.reduceAdd, Nat.reduceLeDiff, hi, h1]
      exact h
    · exact absurd (nI_le (by omega) (by omega)) c9
  | succ r ih =>
    intro j c hj h
    have hv : vp_in (nI j) 6 := vin (by omega) (by omega)
    have hx : ix (nI j) = j := nI_ix (by omega)
    obtain ⟨k3, k4, k5, k6, k7⟩ := hT.row (j := j) (by omega)
    obtain ⟨i3, i4, i5, i6, i7, i8⟩ := hI.2.1 j (by omega)
    have e7 := (b2 (t 7 j) i7).1
    have e4 : (nI (t 4 j) = nI sd) = (t 4 j = sd) := propext (nI_eq (by omega) (by omega))
    unfold cntB at h
    refine go_blk [(.iload_n 3, 0, 0, 0), (.aload_n 0, 0, 0, 0), (.getfield 9, 6, 1, 0), (.if_icmp .ge 31, 40, 0, 0)] (by decide +kernel) ?_
    simp only [e_il_3, e_al_0, e_gf_6_1, e_icmp_ge, rd_6_1, e_nil, nol_n, nol_I, nol_R, rsum_0, rsum_I, rsum_R, ps_s, ps_n, true_and, and_true, Nat.reduceAdd, Nat.reduceLeDiff, hi, h1, hv, hx, k4, k7, e7, e4]
    refine ⟨fun c9 => ?_, fun c9 => ?_⟩
    · exact absurd c9 (nI_ge (by omega) (by omega))
    · refine go_blk [(.aload_n 0, 0, 0, 0), (.getfield 28, 6, 6, 0), (.iload_n 3, 0, 0, 0), (.baload, 1, 0, 0), (.ifCond .eq 16, 34, 0, 0)] (by decide +kernel) ?_
      simp only [e_al_0, e_gf_6_6, e_il_3, e_za, e_if_eq, rd_6_6, ai_0_4, ai_1_7, ai_2_1, ai_2_2, ai_3_1, ai_4_1, ai_6_3, ai_6_4, ai_6_5, ai_6_6, ai_6_7, ai_6_8, ai_8_5, ai_8_6, ai_8_17, ai_8_21, ai_8_23, ai_8_24, ai_8_27, ai_8_28, ai_8_38, ai_8_39, ai_8_40, e_nil, nol_n, nol_I, nol_R, rsum_0, rsum_I, rsum_R, ps_s, ps_n, true_and, and_true, Nat.reduceAdd, Nat.reduceLeDiff, hi, h1, hv, hx, k4, k7, e7, e4]
      refine ⟨fun c18 => ?_, fun c18 => ?_⟩
      · refine go_blk [(.iinc 3 1, 0, 0, 0), (.goto (-33), 4, 0, 0)] (by decide +kernel) ?_
        simp only [e_inc_3_1n, e_inc_3_1I, e_inc_3_1R, e_goto, e_nil, nol_n, nol_I, nol_R, rsum_0, rsum_I, rsum_R, ps_s, ps_n, true_and, and_true, Nat.reduceAdd, Nat.reduceLeDiff, hi, h1, hv, hx, k4, k7, e7, e4]
        rw [nI_1]
        have e : (stn t j && t 4 j == sd) = false := by simp [stn, c18]
        rw [e] at h
        simp only [Bool.false_eq_true, if_false, Nat.zero_add] at h
        exact ih (j + 1) c (by omega) h
      · refine go_blk [(.aload_n 0, 0, 0, 0), (.getfield 19, 6, 3, 0), (.iload_n 3, 0, 0, 0), (.iaload, 0, 0, 0), (.iload_n 1, 0, 0, 0), (.if_icmp .ne 6, 34, 0, 0)] (by decide +kernel) ?_
        simp only [e_al_0, e_gf_6_3, e_il_3, e_ia, e_il_1, e_icmp_ne, rd_6_3, ai_0_4, ai_1_7, ai_2_1, ai_2_2, ai_3_1, ai_4_1, ai_6_3, ai_6_4, ai_6_5, ai_6_6, ai_6_7, ai_6_8, ai_8_5, ai_8_6, ai_8_17, ai_8_21, ai_8_23, ai_8_24, ai_8_27, ai_8_28, ai_8_38, ai_8_39, ai_8_40, e_nil, nol_n, nol_I, nol_R, rsum_0, rsum_I, rsum_R, ps_s, ps_n, true_and, and_true, Nat.reduceAdd, Nat.reduceLeDiff, hi, h1, hv, hx, k4, k7, e7, e4]
        refine ⟨fun c28 => ?_, fun c28 => ?_⟩
        · refine go_blk [(.iinc 3 1, 0, 0, 0), (.goto (-33), 4, 0, 0)] (by decide +kernel) ?_
          simp only [e_inc_3_1n, e_inc_3_1I, e_inc_3_1R, e_goto, e_nil, nol_n, nol_I, nol_R, rsum_0, rsum_I, rsum_R, ps_s, ps_n, true_and, and_true, Nat.reduceAdd, Nat.reduceLeDiff, hi, h1, hv, hx, k4, k7, e7, e4]
          rw [nI_1]
          have e : (stn t j && t 4 j == sd) = false := by simp [stn, c28]
          rw [e] at h
          simp only [Bool.false_eq_true, if_false, Nat.zero_add] at h
          exact ih (j + 1) c (by omega) h
        · refine go_blk [(.iinc 2 1, 0, 0, 0), (.iinc 3 1, 0, 0, 0), (.goto (-33), 4, 0, 0)] (by decide +kernel) ?_
          simp only [e_inc_2_1n, e_inc_2_1I, e_inc_2_1R, e_inc_3_1n, e_inc_3_1I, e_inc_3_1R, e_goto, e_nil, nol_n, nol_I, nol_R, rsum_0, rsum_I, rsum_R, ps_s, ps_n, true_and, and_true, Nat.reduceAdd, Nat.reduceLeDiff, hi, h1, hv, hx, k4, k7, e7, e4]
          rw [nI_1, nI_1]
          have e : (stn t j && t 4 j == sd) = true := by simp [stn, c28, Classical.not_not.mp c18]
          rw [e] at h
          simp only [if_true] at h
          exact ih (j + 1) (c + 1) (by omega) (by rw [show c + 1 + cntB (fun j => stn t j && t 4 j == sd) r (j + 1) = c + (1 + cntB (fun j => stn t j && t 4 j == sd) r (j + 1)) by omega]; exact h)
theorem ok_standing {l : Launch} {K : KK} {d : Nat} {μ : Mm} {P : Option AV → Mm → Prop} {i : Nat} (hi : i < 6) {t : TS} {sd op : Nat} (hT : TRep μ i t) (hI : TInv op t) (hsd : sd < 2) (h : P (some (vI (nI (std t sd)))) μ) : Ok l K d 65 [vR 6 i 0, vI (nI sd)] μ P := by
  refine ok_go 4 (by decide +kernel) [some (vR 6 i 0), some (vI (nI sd)), none, none] rfl (Nat.le_of_ble_eq_true rfl) ?_
  refine go_blk [(.iconst 0, 0, 0, 0), (.istore_n 2, 0, 0, 0), (.iconst 0, 0, 0, 0), (.istore_n 3, 0, 0, 0)] (by decide +kernel) ?_
  simp only [e_ic_0, e_is_2n, e_is_2I, e_is_2R, e_is_3n, e_is_3I, e_is_3R, e_nil, nol_n, nol_I, nol_R, rsum_0, rsum_I, rsum_R, ps_s, ps_n, true_and, and_true, Nat.reduceAdd, Nat.reduceLeDiff]
  exact lp_std hi hT hI hsd (t 0 1) 0 0 (by omega) (by rw [Nat.zero_add]; exact h)
theorem lp_tgs {l : Launch} {K : KK} {d : Nat} {μ : Mm} {P : Option AV → Mm → Prop} {i : Nat} (hi : i < 6) {t : TS} {a op : Nat} (hT : TRep μ i t) (hI : TInv op t) (hC : CRep μ true op) (ha : a < 6) (hd1 : 4 ≤ d) : ∀ (r j c : Nat), j + r = t 0 1 → P (some (vI (nI (c + cntB (fun b => decide (0 < chS op t a b)) r j)))) μ → Go l K d 66 4 [some (vR 6 i 0), some (vI (nI a)), some (vI (nI c)), some (vI (nI j))] [] μ P := by
  have h1 := hT.1
  have hn := hI.1
  have hd2 : 1 ≤ d := by omega
  intro r
  induction r with
  | zero =>
    intro j c hj h
    refine go_blk [(.iload_n 3, 0, 0, 0), (.aload_n 0, 0, 0, 0), (.getfield 9, 6, 1, 0), (.if_icmp .ge 21, 30, 0, 0)] (by decide +kernel) ?_
    simp only [e_il_3, e_al_0, e_gf_6_1, e_icmp_ge, rd_6_1, e_nil, nol_n, nol_I, nol_R, rsum_0, rsum_I, rsum_R, ps_s, ps_n, true_and, and_true, Nat.reduceAdd, Nat.reduceLeDiff, hi, h1]
    refine ⟨fun c9 => ?_, fun c9 => ?_⟩
    · refine go_blk [(.iload_n 2, 0, 0, 0), (.ireturn, 0, 0, 0)] (by decide +kernel) ?_
      simp only [e_il_2, e_iret0, e_nil, nol_n, nol_I, nol_R, rsum_0, rsum_I, rsum_R, ps_s, ps_n, true_and, and_true, Nat.reduceAdd, Nat.reduceLeDiff, hi, h1]
      exact h
    · exact absurd (nI_le (by omega) (by omega)) c9
  | succ r ih =>
    intro j c hj h
    have hle := chS_le op t a j
    have e0 : (nI (chS op t a j) ≤ 0) = (¬ 0 < chS op t a j) := propext ((nI_leI (b := 0) (by omega) (by omega)).trans (by omega))
    unfold cntB at h
    refine go_blk [(.iload_n 3, 0, 0, 0), (.aload_n 0, 0, 0, 0), (.getfield 9, 6, 1, 0), (.if_icmp .ge 21, 30, 0, 0)] (by decide +kernel) ?_
    simp only [e_il_3, e_al_0, e_gf_6_1, e_icmp_ge, rd_6_1, e_nil, nol_n, nol_I, nol_R, rsum_0, rsum_I, rsum_R, ps_s, ps_n, true_and, and_true, Nat.reduceAdd, Nat.reduceLeDiff, hi, h1, hd2, e0]
    refine ⟨fun c9 => ?_, fun c9 => ?_⟩
    · exact absurd c9 (nI_ge (by omega) (by omega))
    · refine go_blk [(.aload_n 0, 0, 0, 0), (.iload_n 1, 0, 0, 0), (.iload_n 3, 0, 0, 0), (.invokevirtual 65, 67, 2, 6)] (by decide +kernel) ?_
      simp only [e_al_0, e_il_1, e_il_3, e_iv_6_2, e_nil, nol_n, nol_I, nol_R, rsum_0, rsum_I, rsum_R, ps_s, ps_n, true_and, and_true, Nat.reduceAdd, Nat.reduceLeDiff, hi, h1, hd2, e0]
      refine ok_chance hi hT hI hC ha (by omega) (by omega) ?_
      refine go_blk [(.ifCond .le 6, 24, 0, 0)] (by decide +kernel) ?_
      simp only [e_if_le, e_nil, nol_n, nol_I, nol_R, rsum_0, rsum_I, rsum_R, ps_s, ps_n, true_and, and_true, Nat.reduceAdd, Nat.reduceLeDiff, hi, h1, hd2, e0]
      refine ⟨fun c18 => ?_, fun c18 => ?_⟩
      · refine go_blk [(.iinc 3 1, 0, 0, 0), (.goto (-23), 4, 0, 0)] (by decide +kernel) ?_
        simp only [e_inc_3_1n, e_inc_3_1I, e_inc_3_1R, e_goto, e_nil, nol_n, nol_I, nol_R, rsum_0, rsum_I, rsum_R, ps_s, ps_n, true_and, and_true, Nat.reduceAdd, Nat.reduceLeDiff, hi, h1, hd2, e0]
        rw [nI_1]
        rw [if_neg (by simpa using c18), Nat.zero_add] at h
        exact ih (j + 1) c (by omega) h
      · refine go_blk [(.iinc 2 1, 0, 0, 0), (.iinc 3 1, 0, 0, 0), (.goto (-23), 4, 0, 0)] (by decide +kernel) ?_
        simp only [e_inc_2_1n, e_inc_2_1I, e_inc_2_1R, e_inc_3_1n, e_inc_3_1I, e_inc_3_1R, e_goto, e_nil, nol_n, nol_I, nol_R, rsum_0, rsum_I, rsum_R, ps_s, ps_n, true_and, and_true, Nat.reduceAdd, Nat.reduceLeDiff, hi, h1, hd2, e0]
        rw [nI_1, nI_1]
        rw [if_pos (decide_eq_true (Classical.not_not.mp c18))] at h
        exact ih (j + 1) (c + 1) (by omega) (by rw [Nat.add_assoc]; exact h)
theorem ok_targetsOf {l : Launch} {K : KK} {d : Nat} {μ : Mm} {P : Option AV → Mm → Prop} {i : Nat} (hi : i < 6) {t : TS} {a op : Nat} (hT : TRep μ i t) (hI : TInv op t) (hC : CRep μ true op) (ha : a < 6) (hd1 : 4 ≤ d) (h : P (some (vI (nI (tgs op t a)))) μ) : Ok l K d 66 [vR 6 i 0, vI (nI a)] μ P := by
  refine ok_go 4 (by decide +kernel) [some (vR 6 i 0), some (vI (nI a)), none, none] rfl (Nat.le_of_ble_eq_true rfl) ?_
  refine go_blk [(.iconst 0, 0, 0, 0), (.istore_n 2, 0, 0, 0), (.iconst 0, 0, 0, 0), (.istore_n 3, 0, 0, 0)] (by decide +kernel) ?_
  simp only [e_ic_0, e_is_2n, e_is_2I, e_is_2R, e_is_3n, e_is_3I, e_is_3R, e_nil, nol_n, nol_I, nol_R, rsum_0, rsum_I, rsum_R, ps_s, ps_n, true_and, and_true, Nat.reduceAdd, Nat.reduceLeDiff]
  exact lp_tgs hi hT hI hC ha hd1 (t 0 1) 0 0 (by omega) (by rw [Nat.zero_add]; exact h)
theorem ok_enlist {l : Launch} {K : KK} {d : Nat} {μ : Mm} {P : Option AV → Mm → Prop} {i : Nat} (hi : i < 6) {t : TS} {kd sd c : Nat} (hT : TRep μ i t) (hn : t 0 1 < 6) (h : ∀ μ2, TRep μ2 i (enl t kd sd c) → OffT i μ μ2 → P (some (vI (nI (t 0 1)))) μ2) : Ok l K d 64 [vR 6 i 0, vI (nI kd), vI (nI sd), vI (nI c)] μ P := by
  refine ok_go 5 (by decide +kernel) [some (vR 6 i 0), some (vI (nI kd)), some (vI (nI sd)), some (vI (nI c)), none] rfl (Nat.le_of_ble_eq_true rfl) ?_
  have h1 := hT.1
  have hv : vp_in (nI (t 0 1)) 6 := vin (by omega) (by omega)
  have hx : ix (nI (t 0 1)) = t 0 1 := nI_ix (by omega)
  refine go_blk [(.aload_n 0, 0, 0, 0), (.getfield 9, 6, 1, 0), (.bipush 6, 0, 0, 0), (.if_icmp .lt 6, 12, 0, 0)] (by decide +kernel) ?_
  simp only [e_al_0, e_gf_6_1, e_bp_6, e_icmp_lt, rd_6_1, e_nil, nol_n, nol_I, nol_R, rsum_0, rsum_I, rsum_R, ps_s, ps_n, true_and, and_true, Nat.reduceAdd, Nat.reduceLeDiff, hi, h1, hv, hx, nI_1, nar01.2]
  refine ⟨fun c6 => ?_, fun c6 => ?_⟩
  · refine go_blk [(.aload_n 0, 0, 0, 0), (.getfield 9, 6, 1, 0), (.istore 4, 0, 0, 0), (.aload_n 0, 0, 0, 0), (.dup, 0, 0, 0), (.getfield 9, 6, 1, 0), (.iconst 1, 0, 0, 0), (.iadd, 0, 0, 0), (.putfield 9, 6, 1, 0)] (by decide +kernel) ?_
    simp only [e_al_0, e_gf_6_1, e_isw_4n, e_isw_4I, e_isw_4R, e_dupI, e_dupR, e_ic_1, e_iadd, e_pf_6_1, rd_6_1, e_nil, nol_n, nol_I, nol_R, rsum_0, rsum_I, rsum_R, ps_s, ps_n, true_and, and_true, Nat.reduceAdd, Nat.reduceLeDiff, hi, h1, hv, hx, nI_1, nar01.2]
    refine go_blk [(.aload_n 0, 0, 0, 0), (.getfield 15, 6, 2, 0), (.iload 4, 0, 0, 0), (.iload_n 1, 0, 0, 0), (.iastore, 0, 0, 0)] (by decide +kernel) ?_
    simp only [e_al_0, e_gf_6_2, e_ilw_4, e_il_1, e_iast, rd_6_2, ai_0_4, ai_1_7, ai_2_1, ai_2_2, ai_3_1, ai_4_1, ai_6_3, ai_6_4, ai_6_5, ai_6_6, ai_6_7, ai_6_8, ai_8_5, ai_8_6, ai_8_17, ai_8_21, ai_8_23, ai_8_24, ai_8_27, ai_8_28, ai_8_38, ai_8_39, ai_8_40, e_nil, nol_n, nol_I, nol_R, rsum_0, rsum_I, rsum_R, ps_s, ps_n, true_and, and_true, Nat.reduceAdd, Nat.reduceLeDiff, hi, h1, hv, hx, nI_1, nar01.2]
    refine go_blk [(.aload_n 0, 0, 0, 0), (.getfield 19, 6, 3, 0), (.iload 4, 0, 0, 0), (.iload_n 2, 0, 0, 0), (.iastore, 0, 0, 0)] (by decide +kernel) ?_
    simp only [e_al_0, e_gf_6_3, e_ilw_4, e_il_2, e_iast, rd_6_3, ai_0_4, ai_1_7, ai_2_1, ai_2_2, ai_3_1, ai_4_1, ai_6_3, ai_6_4, ai_6_5, ai_6_6, ai_6_7, ai_6_8, ai_8_5, ai_8_6, ai_8_17, ai_8_21, ai_8_23, ai_8_24, ai_8_27, ai_8_28, ai_8_38, ai_8_39, ai_8_40, e_nil, nol_n, nol_I, nol_R, rsum_0, rsum_I, rsum_R, ps_s, ps_n, true_and, and_true, Nat.reduceAdd, Nat.reduceLeDiff, hi, h1, hv, hx, nI_1, nar01.2]
    refine go_blk [(.aload_n 0, 0, 0, 0), (.getfield 22, 6, 4, 0), (.iload 4, 0, 0, 0), (.iload_n 3, 0, 0, 0), (.iastore, 0, 0, 0)] (by decide +kernel) ?_
    simp only [e_al_0, e_gf_6_4, e_ilw_4, e_il_3, e_iast, rd_6_4, ai_0_4, ai_1_7, ai_2_1, ai_2_2, ai_3_1, ai_4_1, ai_6_3, ai_6_4, ai_6_5, ai_6_6, ai_6_7, ai_6_8, ai_8_5, ai_8_6, ai_8_17, ai_8_21, ai_8_23, ai_8_24, ai_8_27, ai_8_28, ai_8_38, ai_8_39, ai_8_40, e_nil, nol_n, nol_I, nol_R, rsum_0, rsum_I, rsum_R, ps_s, ps_n, true_and, and_true, Nat.reduceAdd, Nat.reduceLeDiff, hi, h1, hv, hx, nI_1, nar01.2]
    refine go_blk [(.aload_n 0, 0, 0, 0), (.getfield 25, 6, 5, 0), (.iload 4, 0, 0, 0), (.iconst 0, 0, 0, 0), (.iastore, 0, 0, 0)] (by decide +kernel) ?_
    simp only [e_al_0, e_gf_6_5, e_ilw_4, e_ic_0, e_iast, rd_6_5, ai_0_4, ai_1_7, ai_2_1, ai_2_2, ai_3_1, ai_4_1, ai_6_3, ai_6_4, ai_6_5, ai_6_6, ai_6_7, ai_6_8, ai_8_5, ai_8_6, ai_8_17, ai_8_21, ai_8_23, ai_8_24, ai_8_27, ai_8_28, ai_8_38, ai_8_39, ai_8_40, e_nil, nol_n, nol_I, nol_R, rsum_0, rsum_I, rsum_R, ps_s, ps_n, true_and, and_true, Nat.reduceAdd, Nat.reduceLeDiff, hi, h1, hv, hx, nI_1, nar01.2]
    refine go_blk [(.aload_n 0, 0, 0, 0), (.getfield 28, 6, 6, 0), (.iload 4, 0, 0, 0), (.iconst 1, 0, 0, 0), (.bastore, 1, 0, 0)] (by decide +kernel) ?_
    simp only [e_al_0, e_gf_6_6, e_ilw_4, e_ic_1, e_zs, rd_6_6, ai_0_4, ai_1_7, ai_2_1, ai_2_2, ai_3_1, ai_4_1, ai_6_3, ai_6_4, ai_6_5, ai_6_6, ai_6_7, ai_6_8, ai_8_5, ai_8_6, ai_8_17, ai_8_21, ai_8_23, ai_8_24, ai_8_27, ai_8_28, ai_8_38, ai_8_39, ai_8_40, e_nil, nol_n, nol_I, nol_R, rsum_0, rsum_I, rsum_R, ps_s, ps_n, true_and, and_true, Nat.reduceAdd, Nat.reduceLeDiff, hi, h1, hv, hx, nI_1, nar01.2]
    refine go_blk [(.iload 4, 0, 0, 0), (.ireturn, 0, 0, 0)] (by decide +kernel) ?_
    simp only [e_ilw_4, e_iret0, e_nil, nol_n, nol_I, nol_R, rsum_0, rsum_I, rsum_R, ps_s, ps_n, true_and, and_true, Nat.reduceAdd, Nat.reduceLeDiff, hi, h1, hv, hx, nI_1, nar01.2]
    refine h _ ?_ ((((((OffT.rf i μ).up _ _ _).up _ _ _).up _ _ _).up _ _ _).up _ _ _ |>.up _ _ _)
    have e01 : enl t kd sd c 0 1 = t 0 1 + 1 := by simp [enl]
    refine ⟨?_, fun s g1 g2 j hj => ?_, fun j hj => ?_⟩
    · rw [e01, up_ne (by omega), up_ne (by omega), up_ne (by omega), up_ne (by omega), up_ne (by omega), up_self]
    · rw [e01] at hj
      by_cases hjn : j = t 0 1
      · subst hjn
        rcases (show s = 3 ∨ s = 4 ∨ s = 5 ∨ s = 6 ∨ s = 7 by omega) with rfl | rfl | rfl | rfl | rfl
        · rw [up_ne (by omega), up_ne (by omega), up_ne (by omega), up_ne (by omega), up_self]; simp [enl]
        · rw [up_ne (by omega), up_ne (by omega), up_ne (by omega), up_self]; simp [enl]
        · rw [up_ne (by omega), up_ne (by omega), up_self]; simp [enl]
        · rw [up_ne (by omega), up_self]; simp [enl, nI_0]
        · rw [up_self]; simp [enl]
      · have e : enl t kd sd c s j = t s j := by simp [enl, hjn]; omega
        rw [e, up_ne (by omega), up_ne (by omega), up_ne (by omega), up_ne (by omega), up_ne (by omega), up_ne (by omega)]
        exact hT.2.1 s g1 g2 j (by omega)
    · have e : enl t kd sd c 8 j = t 8 j := by simp [enl]
      rw [e, up_ne (by omega), up_ne (by omega), up_ne (by omega), up_ne (by omega), up_ne (by omega), up_ne (by omega)]
      exact hT.2.2 j hj
  · exact absurd (nI_lt (b := 6) hn (by omega)) c6
theorem ok_t_clear {l : Launch} {K : KK} {d : Nat} {μ : Mm} {P : Option AV → Mm → Prop} {i : Nat} (hi : i < 6) {p0 p1 : Nat} (h : ∀ μ2, TRep μ2 i (clr p0 p1) → OffT i μ μ2 → P none μ2) : Ok l K d 58 [vR 6 i 0, vI (nI p0), vI (nI p1)] μ P := by
  refine ok_go 3 (by decide +kernel) [some (vR 6 i 0), some (vI (nI p0)), some (vI (nI p1))] rfl (Nat.le_of_ble_eq_true rfl) ?_
  have hv0 : vp_in 0 2 := vin (j := 0) (by omega) (by omega)
  have hx0 : ix 0 = 0 := nI_ix (j := 0) (by omega)
  have hv1 : vp_in 1 2 := vin (j := 1) (by omega) (by omega)
  have hx1 : ix 1 = 1 := nI_ix (j := 1) (by omega)
  refine go_blk [(.aload_n 0, 0, 0, 0), (.iconst 0, 0, 0, 0), (.putfield 9, 6, 1, 0)] (by decide +kernel) ?_
  simp only [e_al_0, e_ic_0, e_pf_6_1, e_nil, nol_n, nol_I, nol_R, rsum_0, rsum_I, rsum_R, ps_s, ps_n, true_and, and_true, Nat.reduceAdd, Nat.reduceLeDiff, hi, hv0, hx0, hv1, hx1]
  refine go_blk [(.aload_n 0, 0, 0, 0), (.getfield 32, 6, 7, 0), (.iconst 0, 0, 0, 0), (.iload_n 1, 0, 0, 0), (.iastore, 0, 0, 0)] (by decide +kernel) ?_
  simp only [e_al_0, e_gf_6_7, e_ic_0, e_il_1, e_iast, rd_6_7, ai_0_4, ai_1_7, ai_2_1, ai_2_2, ai_3_1, ai_4_1, ai_6_3, ai_6_4, ai_6_5, ai_6_6, ai_6_7, ai_6_8, ai_8_5, ai_8_6, ai_8_17, ai_8_21, ai_8_23, ai_8_24, ai_8_27, ai_8_28, ai_8_38, ai_8_39, ai_8_40, e_nil, nol_n, nol_I, nol_R, rsum_0, rsum_I, rsum_R, ps_s, ps_n, true_and, and_true, Nat.reduceAdd, Nat.reduceLeDiff, hi, hv0, hx0, hv1, hx1]
  refine go_blk [(.aload_n 0, 0, 0, 0), (.getfield 32, 6, 7, 0), (.iconst 1, 0, 0, 0), (.iload_n 2, 0, 0, 0), (.iastore, 0, 0, 0)] (by decide +kernel) ?_
  simp only [e_al_0, e_gf_6_7, e_ic_1, e_il_2, e_iast, rd_6_7, ai_0_4, ai_1_7, ai_2_1, ai_2_2, ai_3_1, ai_4_1, ai_6_3, ai_6_4, ai_6_5, ai_6_6, ai_6_7, ai_6_8, ai_8_5, ai_8_6, ai_8_17, ai_8_21, ai_8_23, ai_8_24, ai_8_27, ai_8_28, ai_8_38, ai_8_39, ai_8_40, e_nil, nol_n, nol_I, nol_R, rsum_0, rsum_I, rsum_R, ps_s, ps_n, true_and, and_true, Nat.reduceAdd, Nat.reduceLeDiff, hi, hv0, hx0, hv1, hx1]
  refine go_blk [(.return_, 0, 0, 0)] (by decide +kernel) ?_
  simp only [e_vret, e_nil, nol_n, nol_I, nol_R, rsum_0, rsum_I, rsum_R, ps_s, ps_n, true_and, and_true, Nat.reduceAdd, Nat.reduceLeDiff, hi, hv0, hx0, hv1, hx1]
  refine h _ ⟨?_, fun s g1 g2 j hj => ?_, fun j hj => ?_⟩ (((OffT.rf i μ).up _ _ _).up _ _ _ |>.up _ _ _)
  · rw [up_ne (by omega), up_ne (by omega), up_self]; rfl
  · simp [clr] at hj
  · rcases (show j = 0 ∨ j = 1 by omega) with rfl | rfl
    · rw [up_ne (by omega), up_self]; rfl
    · rw [up_self]; rfl
