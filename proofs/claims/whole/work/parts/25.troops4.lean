theorem TRep.congr {μ : Mm} {i : Nat} {t t' : TS} (h : TRep μ i t) (h0 : t' 0 1 = t 0 1) (h1 : ∀ s, 3 ≤ s → s ≤ 7 → ∀ j, j < t 0 1 → t' s j = t s j) (h2 : ∀ j, j < 2 → t' 8 j = t 8 j) : TRep μ i t' :=
  ⟨by rw [h0]; exact h.1, fun s g1 g2 j hj => by rw [h0] at hj; rw [h1 s g1 g2 j hj]; exact h.2.1 s g1 g2 j hj, fun j hj => by rw [h2 j hj]; exact h.2.2 j hj⟩
theorem TRep.off {μ μ' : Mm} {i : Nat} {t : TS} (h : TRep μ i t) (e : μ' 6 i = μ 6 i) : TRep μ' i t := by
  unfold TRep at *
  rw [e]
  exact h
def dinP (t : TS) (e : Nat) : TS := fun s j => if j < e then (if s = 7 then 1 else if s = 6 then 0 else t s j) else t s j
theorem dinP_s (t : TS) (e : Nat) (he : e ≠ 1 ∨ True) : tu (tu (dinP t e) 7 e 1) 6 e 0 = dinP t (e + 1) := by
  funext s j
  unfold tu dinP
  by_cases h6 : s = 6 <;> by_cases h7 : s = 7 <;> by_cases hj : j = e <;> simp_all <;> (try omega)
  · have : (j < e + 1) ↔ (j < e) := by omega
    simp [this]
  · have : (j < e + 1) ↔ (j < e) := by omega
    simp [this]
theorem lp_din {l : Launch} {K : KK} {d : Nat} {P : Option AV → Mm → Prop} {i : Nat} (hi : i < 6) {μ0 : Mm} {t : TS} {op : Nat} (hI : TInv op t) (h : ∀ μ2, TRep μ2 i (dinT t) → OffT i μ0 μ2 → P (some (vI (nI (dinN t)))) μ2) : ∀ (r j c : Nat) (μ : Mm), j + r = t 0 1 → TRep μ i (dinP t j) → OffT i μ0 μ → c + cntB (fun j => !stn t j) r j = dinN t → Go l K d 69 4 [some (vR 6 i 0), some (vI (nI c)), some (vI (nI j))] [] μ P := by
  have hn := hI.1
  have e01 : ∀ j, dinP t j 0 1 = t 0 1 := fun j => by simp [dinP]
  intro r
  induction r with
  | zero =>
    intro j c μ hj hT hO hc
    have h1 := hT.1
    rw [e01] at h1
    refine go_blk [(.iload_n 2, 0, 0, 0), (.aload_n 0, 0, 0, 0), (.getfield 9, 6, 1, 0), (.if_icmp .ge 35, 44, 0, 0)] (by decide +kernel) ?_
    simp only [e_il_2, e_al_0, e_gf_6_1, e_icmp_ge, rd_6_1, e_nil, nol_n, nol_I, nol_R, rsum_0, rsum_I, rsum_R, ps_s, ps_n, true_and, and_true, Nat.reduceAdd, Nat.reduceLeDiff, hi, h1]
    refine ⟨fun c9 => ?_, fun c9 => ?_⟩
    · refine go_blk [(.iload_n 1, 0, 0, 0), (.ireturn, 0, 0, 0)] (by decide +kernel) ?_
      simp only [e_il_1, e_iret0, e_nil, nol_n, nol_I, nol_R, rsum_0, rsum_I, rsum_R, ps_s, ps_n, true_and, and_true, Nat.reduceAdd, Nat.reduceLeDiff, hi, h1]
      have e : c = dinN t := hc
      rw [e]
      refine h _ (hT.congr (by rw [e01]; simp [dinT]) (fun s g1 g2 j2 hj2 => ?_) (fun j2 _ => by simp [dinT, dinP])) hO
      rw [e01] at hj2
      have : j2 < j := by omega
      simp [dinT, dinP, this]
    · exact absurd (nI_le (by omega) (by omega)) c9
  | succ r ih =>
    intro j c μ hj hT hO hc
    have h1 := hT.1
    rw [e01] at h1
    have hv : vp_in (nI j) 6 := vin (by omega) (by omega)
    have hx : ix (nI j) = j := nI_ix (by omega)
    have k7 := (hT.row (j := j) (by rw [e01]; omega)).2.2.2.2
    have k7e : dinP t j 7 j = t 7 j := by simp [dinP]
    rw [k7e] at k7
    have e7 := (b2 (t 7 j) (hI.2.1 j (by omega)).2.2.2.2.1).1
    unfold cntB at hc
    have hT2 : TRep (up (up μ 6 i 7 j (nI 1)) 6 i 6 j 0) i (dinP t (j + 1)) := by
      rw [← dinP_s t j (Or.inr trivial)]
      exact (hT.up (by omega) rfl).up (by omega) rfl
    have hO2 : OffT i μ0 (up (up μ 6 i 7 j (nI 1)) 6 i 6 j 0) := (hO.up _ _ _).up _ _ _
    refine go_blk [(.iload_n 2, 0, 0, 0), (.aload_n 0, 0, 0, 0), (.getfield 9, 6, 1, 0), (.if_icmp .ge 35, 44, 0, 0)] (by decide +kernel) ?_
    simp only [e_il_2, e_al_0, e_gf_6_1, e_icmp_ge, rd_6_1, e_nil, nol_n, nol_I, nol_R, rsum_0, rsum_I, rsum_R, ps_s, ps_n, true_and, and_true, Nat.reduceAdd, Nat.reduceLeDiff, hi, h1, hv, hx, k7, e7, nar01.2, Classical.not_not]
    refine ⟨fun c9 => ?_, fun c9 => ?_⟩
    · exact absurd c9 (nI_ge (by omega) (by omega))
    · refine go_blk [(.aload_n 0, 0, 0, 0), (.getfield 28, 6, 6, 0), (.iload_n 2, 0, 0, 0), (.baload, 1, 0, 0), (.ifCond .ne 6, 24, 0, 0)] (by decide +kernel) ?_
      simp only [e_al_0, e_gf_6_6, e_il_2, e_za, e_if_ne, rd_6_6, ai_0_4, ai_1_7, ai_2_1, ai_2_2, ai_3_1, ai_4_1, ai_6_3, ai_6_4, ai_6_5, ai_6_6, ai_6_7, ai_6_8, ai_8_5, ai_8_6, ai_8_17, ai_8_21, ai_8_23, ai_8_24, ai_8_27, ai_8_28, ai_8_38, ai_8_39, ai_8_40, e_nil, nol_n, nol_I, nol_R, rsum_0, rsum_I, rsum_R, ps_s, ps_n, true_and, and_true, Nat.reduceAdd, Nat.reduceLeDiff, hi, h1, hv, hx, k7, e7, nar01.2, Classical.not_not]
      refine ⟨fun c18 => ?_, fun c18 => ?_⟩
      · have es : (!stn t j) = false := by simpa [stn] using c18
        refine go_blk [(.aload_n 0, 0, 0, 0), (.getfield 28, 6, 6, 0), (.iload_n 2, 0, 0, 0), (.iconst 1, 0, 0, 0), (.bastore, 1, 0, 0)] (by decide +kernel) ?_
        simp only [e_al_0, e_gf_6_6, e_il_2, e_ic_1, e_zs, rd_6_6, ai_0_4, ai_1_7, ai_2_1, ai_2_2, ai_3_1, ai_4_1, ai_6_3, ai_6_4, ai_6_5, ai_6_6, ai_6_7, ai_6_8, ai_8_5, ai_8_6, ai_8_17, ai_8_21, ai_8_23, ai_8_24, ai_8_27, ai_8_28, ai_8_38, ai_8_39, ai_8_40, e_nil, nol_n, nol_I, nol_R, rsum_0, rsum_I, rsum_R, ps_s, ps_n, true_and, and_true, Nat.reduceAdd, Nat.reduceLeDiff, hi, h1, hv, hx, k7, e7, nar01.2, Classical.not_not]
        refine go_blk [(.aload_n 0, 0, 0, 0), (.getfield 25, 6, 5, 0), (.iload_n 2, 0, 0, 0), (.iconst 0, 0, 0, 0), (.iastore, 0, 0, 0)] (by decide +kernel) ?_
        simp only [e_al_0, e_gf_6_5, e_il_2, e_ic_0, e_iast, rd_6_5, ai_0_4, ai_1_7, ai_2_1, ai_2_2, ai_3_1, ai_4_1, ai_6_3, ai_6_4, ai_6_5, ai_6_6, ai_6_7, ai_6_8, ai_8_5, ai_8_6, ai_8_17, ai_8_21, ai_8_23, ai_8_24, ai_8_27, ai_8_28, ai_8_38, ai_8_39, ai_8_40, e_nil, nol_n, nol_I, nol_R, rsum_0, rsum_I, rsum_R, ps_s, ps_n, true_and, and_true, Nat.reduceAdd, Nat.reduceLeDiff, hi, h1, hv, hx, k7, e7, nar01.2, Classical.not_not]
        refine go_blk [(.iinc 2 1, 0, 0, 0), (.goto (-37), 4, 0, 0)] (by decide +kernel) ?_
        simp only [e_inc_2_1n, e_inc_2_1I, e_inc_2_1R, e_goto, e_nil, nol_n, nol_I, nol_R, rsum_0, rsum_I, rsum_R, ps_s, ps_n, true_and, and_true, Nat.reduceAdd, Nat.reduceLeDiff, hi, h1, hv, hx, k7, e7, nar01.2, Classical.not_not]
        rw [nI_1]
        rw [es] at hc
        simp only [Bool.false_eq_true, if_false, Nat.zero_add] at hc
        exact ih (j + 1) c _ (by omega) hT2 hO2 hc
      · have es : (!stn t j) = true := by simpa [stn] using c18
        refine go_blk [(.iinc 1 1, 0, 0, 0), (.aload_n 0, 0, 0, 0), (.getfield 28, 6, 6, 0), (.iload_n 2, 0, 0, 0), (.iconst 1, 0, 0, 0), (.bastore, 1, 0, 0)] (by decide +kernel) ?_
        simp only [e_inc_1_1n, e_inc_1_1I, e_inc_1_1R, e_al_0, e_gf_6_6, e_il_2, e_ic_1, e_zs, rd_6_6, ai_0_4, ai_1_7, ai_2_1, ai_2_2, ai_3_1, ai_4_1, ai_6_3, ai_6_4, ai_6_5, ai_6_6, ai_6_7, ai_6_8, ai_8_5, ai_8_6, ai_8_17, ai_8_21, ai_8_23, ai_8_24, ai_8_27, ai_8_28, ai_8_38, ai_8_39, ai_8_40, e_nil, nol_n, nol_I, nol_R, rsum_0, rsum_I, rsum_R, ps_s, ps_n, true_and, and_true, Nat.reduceAdd, Nat.reduceLeDiff, hi, h1, hv, hx, k7, e7, nar01.2, Classical.not_not]
        refine go_blk [(.aload_n 0, 0, 0, 0), (.getfield 25, 6, 5, 0), (.iload_n 2, 0, 0, 0), (.iconst 0, 0, 0, 0), (.iastore, 0, 0, 0)] (by decide +kernel) ?_
        simp only [e_al_0, e_gf_6_5, e_il_2, e_ic_0, e_iast, rd_6_5, ai_0_4, ai_1_7, ai_2_1, ai_2_2, ai_3_1, ai_4_1, ai_6_3, ai_6_4, ai_6_5, ai_6_6, ai_6_7, ai_6_8, ai_8_5, ai_8_6, ai_8_17, ai_8_21, ai_8_23, ai_8_24, ai_8_27, ai_8_28, ai_8_38, ai_8_39, ai_8_40, e_nil, nol_n, nol_I, nol_R, rsum_0, rsum_I, rsum_R, ps_s, ps_n, true_and, and_true, Nat.reduceAdd, Nat.reduceLeDiff, hi, h1, hv, hx, k7, e7, nar01.2, Classical.not_not]
        refine go_blk [(.iinc 2 1, 0, 0, 0), (.goto (-37), 4, 0, 0)] (by decide +kernel) ?_
        simp only [e_inc_2_1n, e_inc_2_1I, e_inc_2_1R, e_goto, e_nil, nol_n, nol_I, nol_R, rsum_0, rsum_I, rsum_R, ps_s, ps_n, true_and, and_true, Nat.reduceAdd, Nat.reduceLeDiff, hi, h1, hv, hx, k7, e7, nar01.2, Classical.not_not]
        rw [nI_1, nI_1]
        rw [es] at hc
        simp only [if_true] at hc
        exact ih (j + 1) (c + 1) _ (by omega) hT2 hO2 (by omega)
theorem ok_standUp {l : Launch} {K : KK} {d : Nat} {μ : Mm} {P : Option AV → Mm → Prop} {i : Nat} (hi : i < 6) {t : TS} {op : Nat} (hT : TRep μ i t) (hI : TInv op t) (h : ∀ μ2, TRep μ2 i (dinT t) → OffT i μ μ2 → P (some (vI (nI (dinN t)))) μ2) : Ok l K d 69 [vR 6 i 0] μ P := by
  refine ok_go 3 (by decide +kernel) [some (vR 6 i 0), none, none] rfl (Nat.le_of_ble_eq_true rfl) ?_
  refine go_blk [(.iconst 0, 0, 0, 0), (.istore_n 1, 0, 0, 0), (.iconst 0, 0, 0, 0), (.istore_n 2, 0, 0, 0)] (by decide +kernel) ?_
  simp only [e_ic_0, e_is_1n, e_is_1I, e_is_1R, e_is_2n, e_is_2I, e_is_2R, e_nil, nol_n, nol_I, nol_R, rsum_0, rsum_I, rsum_R, ps_s, ps_n, true_and, and_true, Nat.reduceAdd, Nat.reduceLeDiff]
  have e0 : dinP t 0 = t := by funext s j; simp [dinP]
  exact lp_din hi hI h (t 0 1) 0 0 μ (by omega) (by rw [e0]; exact hT) (OffT.rf i μ) (by rw [Nat.zero_add]; rfl)
def cpR (μ0 : Mm) (i i2 e : Nat) (μ : Mm) : Prop := OffT i μ0 μ ∧ μ 6 i 0 1 = μ0 6 i2 0 1 ∧ ∀ j, j < e → μ 6 i 3 j = μ0 6 i2 3 j ∧ μ 6 i 4 j = μ0 6 i2 4 j ∧ μ 6 i 5 j = μ0 6 i2 5 j ∧ μ 6 i 6 j = μ0 6 i2 6 j ∧ μ 6 i 7 j = vp_nar .boolean (μ0 6 i2 7 j)
theorem lp_cp {l : Launch} {K : KK} {d : Nat} {P : Option AV → Mm → Prop} {i : Nat} (hi : i < 6) {μ0 : Mm} {i2 : Nat} (hi2 : i2 < 6) (hne : i2 ≠ i) (h : ∀ μ2, cpR μ0 i i2 6 μ2 → Go l K d 59 82 [some (vR 6 i 0), some (vR 6 i2 0), some (vI 6)] [] μ2 P) : ∀ (r e : Nat) (μ : Mm), e + r = 6 → cpR μ0 i i2 e μ → Go l K d 59 10 [some (vR 6 i 0), some (vR 6 i2 0), some (vI (nI e))] [] μ P := by
  have hrd : ∀ (m : Mm) (s j : Nat) (v : Int32) (s' j' : Nat), up m 6 i s j v 6 i2 s' j' = m 6 i2 s' j' := fun m s j v s' j' => up_ne (fun z => hne z.2.1)
  intro r
  induction r with
  | zero =>
    intro e μ he hR
    have e6 : e = 6 := by omega
    subst e6
    refine go_blk [(.iload_n 2, 0, 0, 0), (.bipush 6, 0, 0, 0), (.if_icmp .ge 69, 82, 0, 0)] (by decide +kernel) ?_
    simp only [e_il_2, e_bp_6, e_icmp_ge, e_nil, nol_n, nol_I, nol_R, rsum_0, rsum_I, rsum_R, ps_s, ps_n, true_and, and_true, Nat.reduceAdd, Nat.reduceLeDiff]
    refine ⟨fun c13 => ?_, fun c13 => ?_⟩
    · exact h μ hR
    · exact absurd (by decide) c13
  | succ r ih =>
    intro e μ he hR
    have hv : vp_in (nI e) 6 := vin (by omega) (by omega)
    have hx : ix (nI e) = e := nI_ix (by omega)
    obtain ⟨r1, r2, r3⟩ := hR
    have hb : ∀ s j, μ 6 i2 s j = μ0 6 i2 s j := fun s j => by rw [r1 6 i2 (by omega)]
    have key : cpR μ0 i i2 (e + 1) (up (up (up (up (up μ 6 i 3 e (μ0 6 i2 3 e)) 6 i 4 e (μ0 6 i2 4 e)) 6 i 5 e (μ0 6 i2 5 e)) 6 i 6 e (μ0 6 i2 6 e)) 6 i 7 e (vp_nar .boolean (μ0 6 i2 7 e))) := by
      refine ⟨((((r1.up _ _ _).up _ _ _).up _ _ _).up _ _ _).up _ _ _, ?_, fun j hj => ?_⟩
      · rw [up_ne (by omega), up_ne (by omega), up_ne (by omega), up_ne (by omega), up_ne (by omega)]; exact r2
      · by_cases hje : j = e
        · subst hje
          refine ⟨?_, ?_, ?_, ?_, ?_⟩
          · rw [up_ne (by omega), up_ne (by omega), up_ne (by omega), up_ne (by omega), up_self]
          · rw [up_ne (by omega), up_ne (by omega), up_ne (by omega), up_self]
          · rw [up_ne (by omega), up_ne (by omega), up_self]
          · rw [up_ne (by omega), up_self]
          · rw [up_self]
        · obtain ⟨q3, q4, q5, q6, q7⟩ := r3 j (by omega)
          refine ⟨?_, ?_, ?_, ?_, ?_⟩
          · rw [up_ne (by omega), up_ne (by omega), up_ne (by omega), up_ne (by omega), up_ne (by omega)]; exact q3
          · rw [up_ne (by omega), up_ne (by omega), up_ne (by omega), up_ne (by omega), up_ne (by omega)]; exact q4
          · rw [up_ne (by omega), up_ne (by omega), up_ne (by omega), up_ne (by omega), up_ne (by omega)]; exact q5
          · rw [up_ne (by omega), up_ne (by omega), up_ne (by omega), up_ne (by omega), up_ne (by omega)]; exact q6
          · rw [up_ne (by omega), up_ne (by omega), up_ne (by omega), up_ne (by omega), up_ne (by omega)]; exact q7
    refine go_blk [(.iload_n 2, 0, 0, 0), (.bipush 6, 0, 0, 0), (.if_icmp .ge 69, 82, 0, 0)] (by decide +kernel) ?_
    simp only [e_il_2, e_bp_6, e_icmp_ge, e_nil, nol_n, nol_I, nol_R, rsum_0, rsum_I, rsum_R, ps_s, ps_n, true_and, and_true, Nat.reduceAdd, Nat.reduceLeDiff, hi, hi2, hv, hx, hrd, hb]
    refine ⟨fun c13 => ?_, fun c13 => ?_⟩
    · exact absurd c13 (nI_ge (b := 6) (by omega) (by omega))
    · refine go_blk [(.aload_n 0, 0, 0, 0), (.getfield 15, 6, 2, 0), (.iload_n 2, 0, 0, 0), (.aload_n 1, 0, 0, 0), (.getfield 15, 6, 2, 0), (.iload_n 2, 0, 0, 0), (.iaload, 0, 0, 0), (.iastore, 0, 0, 0)] (by decide +kernel) ?_
      simp only [e_al_0, e_gf_6_2, e_il_2, e_al_1, e_ia, e_iast, rd_6_2, ai_0_4, ai_1_7, ai_2_1, ai_2_2, ai_3_1, ai_4_1, ai_6_3, ai_6_4, ai_6_5, ai_6_6, ai_6_7, ai_6_8, ai_8_5, ai_8_6, ai_8_17, ai_8_21, ai_8_23, ai_8_24, ai_8_27, ai_8_28, ai_8_38, ai_8_39, ai_8_40, e_nil, nol_n, nol_I, nol_R, rsum_0, rsum_I, rsum_R, ps_s, ps_n, true_and, and_true, Nat.reduceAdd, Nat.reduceLeDiff, hi, hi2, hv, hx, hrd, hb]
      refine go_blk [(.aload_n 0, 0, 0, 0), (.getfield 19, 6, 3, 0), (.iload_n 2, 0, 0, 0), (.aload_n 1, 0, 0, 0), (.getfield 19, 6, 3, 0), (.iload_n 2, 0, 0, 0), (.iaload, 0, 0, 0), (.iastore, 0, 0, 0)] (by decide +kernel) ?_
      simp only [e_al_0, e_gf_6_3, e_il_2, e_al_1, e_ia, e_iast, rd_6_3, ai_0_4, ai_1_7, ai_2_1, ai_2_2, ai_3_1, ai_4_1, ai_6_3, ai_6_4, ai_6_5, ai_6_6, ai_6_7, ai_6_8, ai_8_5, ai_8_6, ai_8_17, ai_8_21, ai_8_23, ai_8_24, ai_8_27, ai_8_28, ai_8_38, ai_8_39, ai_8_40, e_nil, nol_n, nol_I, nol_R, rsum_0, rsum_I, rsum_R, ps_s, ps_n, true_and, and_true, Nat.reduceAdd, Nat.reduceLeDiff, hi, hi2, hv, hx, hrd, hb]
      refine go_blk [(.aload_n 0, 0, 0, 0), (.getfield 22, 6, 4, 0), (.iload_n 2, 0, 0, 0), (.aload_n 1, 0, 0, 0), (.getfield 22, 6, 4, 0), (.iload_n 2, 0, 0, 0), (.iaload, 0, 0, 0), (.iastore, 0, 0, 0)] (by decide +kernel) ?_
      simp only [e_al_0, e_gf_6_4, e_il_2, e_al_1, e_ia, e_iast, rd_6_4, ai_0_4, ai_1_7, ai_2_1, ai_2_2, ai_3_1, ai_4_1, ai_6_3, ai_6_4, ai_6_5, ai_6_6, ai_6_7, ai_6_8, ai_8_5, ai_8_6, ai_8_17, ai_8_21, ai_8_23, ai_8_24, ai_8_27, ai_8_28, ai_8_38, ai_8_39, ai_8_40, e_nil, nol_n, nol_I, nol_R, rsum_0, rsum_I, rsum_R, ps_s, ps_n, true_and, and_true, Nat.reduceAdd, Nat.reduceLeDiff, hi, hi2, hv, hx, hrd, hb]
      refine go_blk [(.aload_n 0, 0, 0, 0), (.getfield 25, 6, 5, 0), (.iload_n 2, 0, 0, 0), (.aload_n 1, 0, 0, 0), (.getfield 25, 6, 5, 0), (.iload_n 2, 0, 0, 0), (.iaload, 0, 0, 0), (.iastore, 0, 0, 0)] (by decide +kernel) ?_
      simp only [e_al_0, e_gf_6_5, e_il_2, e_al_1, e_ia, e_iast, rd_6_5, ai_0_4, ai_1_7, ai_2_1, ai_2_2, ai_3_1, ai_4_1, ai_6_3, ai_6_4, ai_6_5, ai_6_6, ai_6_7, ai_6_8, ai_8_5, ai_8_6, ai_8_17, ai_8_21, ai_8_23, ai_8_24, ai_8_27, ai_8_28, ai_8_38, ai_8_39, ai_8_40, e_nil, nol_n, nol_I, nol_R, rsum_0, rsum_I, rsum_R, ps_s, ps_n, true_and, and_true, Nat.reduceAdd, Nat.reduceLeDiff, hi, hi2, hv, hx, hrd, hb]
      refine go_blk [(.aload_n 0, 0, 0, 0), (.getfield 28, 6, 6, 0), (.iload_n 2, 0, 0, 0), (.aload_n 1, 0, 0, 0), (.getfield 28, 6, 6, 0), (.iload_n 2, 0, 0, 0), (.baload, 1, 0, 0), (.bastore, 1, 0, 0)] (by decide +kernel) ?_
      simp only [e_al_0, e_gf_6_6, e_il_2, e_al_1, e_za, e_zs, rd_6_6, ai_0_4, ai_1_7, ai_2_1, ai_2_2, ai_3_1, ai_4_1, ai_6_3, ai_6_4, ai_6_5, ai_6_6, ai_6_7, ai_6_8, ai_8_5, ai_8_6, ai_8_17, ai_8_21, ai_8_23, ai_8_24, ai_8_27, ai_8_28, ai_8_38, ai_8_39, ai_8_40, e_nil, nol_n, nol_I, nol_R, rsum_0, rsum_I, rsum_R, ps_s, ps_n, true_and, and_true, Nat.reduceAdd, Nat.reduceLeDiff, hi, hi2, hv, hx, hrd, hb]
      refine go_blk [(.iinc 2 1, 0, 0, 0), (.goto (-69), 10, 0, 0)] (by decide +kernel) ?_
      simp only [e_inc_2_1n, e_inc_2_1I, e_inc_2_1R, e_goto, e_nil, nol_n, nol_I, nol_R, rsum_0, rsum_I, rsum_R, ps_s, ps_n, true_and, and_true, Nat.reduceAdd, Nat.reduceLeDiff, hi, hi2, hv, hx, hrd, hb]
      rw [nI_1]
      exact ih (e + 1) _ (by omega) key
theorem ok_copyFrom {l : Launch} {K : KK} {d : Nat} {μ : Mm} {P : Option AV → Mm → Prop} {i : Nat} (hi : i < 6) {t : TS} {i2 op : Nat} (hi2 : i2 < 6) (hne : i2 ≠ i) (hT : TRep μ i2 t) (hI : TInv op t) (h : ∀ μ2, TRep μ2 i t → OffT i μ μ2 → P none μ2) : Ok l K d 59 [vR 6 i 0, vR 6 i2 0] μ P := by
  refine ok_go 3 (by decide +kernel) [some (vR 6 i 0), some (vR 6 i2 0), none] rfl (Nat.le_of_ble_eq_true rfl) ?_
  have hrd : ∀ (m : Mm) (s j : Nat) (v : Int32) (s' j' : Nat), up m 6 i s j v 6 i2 s' j' = m 6 i2 s' j' := fun m s j v s' j' => up_ne (fun z => hne z.2.1)
  have hv0 : vp_in 0 2 := vin (j := 0) (by omega) (by omega)
  have hx0 : ix 0 = 0 := nI_ix (j := 0) (by omega)
  have hv1 : vp_in 1 2 := vin (j := 1) (by omega) (by omega)
  have hx1 : ix 1 = 1 := nI_ix (j := 1) (by omega)
  have hn := hI.1
  refine go_blk [(.aload_n 0, 0, 0, 0), (.aload_n 1, 0, 0, 0), (.getfield 9, 6, 1, 0), (.putfield 9, 6, 1, 0)] (by decide +kernel) ?_
  simp only [e_al_0, e_al_1, e_gf_6_1, e_pf_6_1, rd_6_1, e_nil, nol_n, nol_I, nol_R, rsum_0, rsum_I, rsum_R, ps_s, ps_n, true_and, and_true, Nat.reduceAdd, Nat.reduceLeDiff, hi, hi2]
  refine go_blk [(.iconst 0, 0, 0, 0), (.istore_n 2, 0, 0, 0)] (by decide +kernel) ?_
  simp only [e_ic_0, e_is_2n, e_is_2I, e_is_2R, e_nil, nol_n, nol_I, nol_R, rsum_0, rsum_I, rsum_R, ps_s, ps_n, true_and, and_true, Nat.reduceAdd, Nat.reduceLeDiff, hi, hi2]
  refine lp_cp hi hi2 hne (fun μ2 hR => ?_) 6 0 _ rfl ⟨(OffT.rf i μ).up _ _ _, up_self _ _ _ _ _ _, fun j hj => by omega⟩
  obtain ⟨r1, r2, r3⟩ := hR
  have hb : ∀ s j, μ2 6 i2 s j = μ 6 i2 s j := fun s j => by rw [r1 6 i2 (by omega)]
  refine go_blk [(.aload_n 0, 0, 0, 0), (.getfield 32, 6, 7, 0), (.iconst 0, 0, 0, 0), (.aload_n 1, 0, 0, 0), (.getfield 32, 6, 7, 0), (.iconst 0, 0, 0, 0), (.iaload, 0, 0, 0), (.iastore, 0, 0, 0)] (by decide +kernel) ?_
  simp only [e_al_0, e_gf_6_7, e_ic_0, e_al_1, e_ia, e_iast, rd_6_7, ai_0_4, ai_1_7, ai_2_1, ai_2_2, ai_3_1, ai_4_1, ai_6_3, ai_6_4, ai_6_5, ai_6_6, ai_6_7, ai_6_8, ai_8_5, ai_8_6, ai_8_17, ai_8_21, ai_8_23, ai_8_24, ai_8_27, ai_8_28, ai_8_38, ai_8_39, ai_8_40, e_nil, nol_n, nol_I, nol_R, rsum_0, rsum_I, rsum_R, ps_s, ps_n, true_and, and_true, Nat.reduceAdd, Nat.reduceLeDiff, hi, hi2, hrd, hv0, hx0, hv1, hx1]
  refine go_blk [(.aload_n 0, 0, 0, 0), (.getfield 32, 6, 7, 0), (.iconst 1, 0, 0, 0), (.aload_n 1, 0, 0, 0), (.getfield 32, 6, 7, 0), (.iconst 1, 0, 0, 0), (.iaload, 0, 0, 0), (.iastore, 0, 0, 0)] (by decide +kernel) ?_
  simp only [e_al_0, e_gf_6_7, e_ic_1, e_al_1, e_ia, e_iast, rd_6_7, ai_0_4, ai_1_7, ai_2_1, ai_2_2, ai_3_1, ai_4_1, ai_6_3, ai_6_4, ai_6_5, ai_6_6, ai_6_7, ai_6_8, ai_8_5, ai_8_6, ai_8_17, ai_8_21, ai_8_23, ai_8_24, ai_8_27, ai_8_28, ai_8_38, ai_8_39, ai_8_40, e_nil, nol_n, nol_I, nol_R, rsum_0, rsum_I, rsum_R, ps_s, ps_n, true_and, and_true, Nat.reduceAdd, Nat.reduceLeDiff, hi, hi2, hrd, hv0, hx0, hv1, hx1]
  refine go_blk [(.return_, 0, 0, 0)] (by decide +kernel) ?_
  simp only [e_vret, e_nil, nol_n, nol_I, nol_R, rsum_0, rsum_I, rsum_R, ps_s, ps_n, true_and, and_true, Nat.reduceAdd, Nat.reduceLeDiff, hi, hi2, hrd, hv0, hx0, hv1, hx1]
  refine h _ ⟨?_, fun s g1 g2 j hj => ?_, fun j hj => ?_⟩ ((r1.up _ _ _).up _ _ _)
  · rw [up_ne (by omega), up_ne (by omega), r2]; exact hT.1
  · rw [up_ne (by omega), up_ne (by omega)]
    obtain ⟨q3, q4, q5, q6, q7⟩ := r3 j (by omega)
    obtain ⟨w3, w4, w5, w6, w7⟩ := hT.row hj
    rcases (show s = 3 ∨ s = 4 ∨ s = 5 ∨ s = 6 ∨ s = 7 by omega) with rfl | rfl | rfl | rfl | rfl
    · rw [q3]; exact w3
    · rw [q4]; exact w4
    · rw [q5]; exact w5
    · rw [q6]; exact w6
    · rw [q7, w7]; exact (b2 (t 7 j) (hI.2.1 j hj).2.2.2.2.1).2
  · rcases (show j = 0 ∨ j = 1 by omega) with rfl | rfl
    · rw [up_ne (by omega), up_self, hb]; exact hT.2.2 0 (by omega)
    · rw [up_self, hb]; exact hT.2.2 1 (by omega)
