def OffM (μ μ2 : Mm) : Prop := ∀ c i s j, ¬ (c = 8 ∧ i = 0 ∧ s = 0 ∧ 6 ≤ j ∧ j ≤ 10) → μ2 c i s j = μ c i s j
theorem offm_rf (μ : Mm) : OffM μ μ := fun _ _ _ _ _ => rfl
theorem offm_up {μ μ2 : Mm} (h : OffM μ μ2) {j : Nat} (h1 : 6 ≤ j) (h2 : j ≤ 10) (v : Int32) : OffM μ (up μ2 8 0 0 j v) := fun c i s j' hc => (up_ne (by omega)).trans (h c i s j' hc)
theorem offm_tr {a b c : Mm} (h : OffM a b) (g : OffM b c) : OffM a c := fun x i s j hc => (g x i s j hc).trans (h x i s j hc)
theorem mr_of {μ μ2 : Mm} {t t' : TS} (hO : OffM μ μ2) (hM : MRep μ t) (h0 : t' 0 1 = t 0 1) (h35 : ∀ j, t' 3 j = t 3 j ∧ t' 5 j = t 5 j) (h6 : μ2 8 0 0 6 = nI (mSt t')) (h7 : μ2 8 0 0 7 = nI (mSd t')) (h8 : μ2 8 0 0 8 = nI (htF t' (t 0 1))) (h9 : μ2 8 0 0 9 = nI (t' 8 0)) (h10 : μ2 8 0 0 10 = nI (t' 8 1)) : MRep μ2 t' := by
  refine ⟨⟨?_, fun j hj => ?_, fun j hj => ?_⟩, ⟨h6, h7, ?_⟩, h9, h10⟩
  · rw [hO 8 0 0 3 (by omega), h0]; exact hM.1.1
  · rw [h0] at hj; rw [hO 8 0 5 j (by omega), (h35 j).1]; exact hM.1.2.1 j hj
  · rw [h0] at hj; rw [hO 8 0 6 j (by omega), (h35 j).2]; exact hM.1.2.2 j hj
  · rw [h0]; exact h8
theorem mr_off {μ μ2 : Mm} {t : TS} (hM : MRep μ t) (e : ∀ s j, (s = 0 ∧ (j = 3 ∨ (6 ≤ j ∧ j ≤ 10))) ∨ s = 5 ∨ s = 6 → μ2 8 0 s j = μ 8 0 s j) : MRep μ2 t := by
  obtain ⟨⟨a1, a2, a3⟩, ⟨a4, a5, a6⟩, a7, a8⟩ := hM
  refine ⟨⟨(e 0 3 (by omega)).trans a1, fun j hj => (e 5 j (by omega)).trans (a2 j hj), fun j hj => (e 6 j (by omega)).trans (a3 j hj)⟩, ⟨(e 0 6 (by omega)).trans a4, (e 0 7 (by omega)).trans a5, (e 0 8 (by omega)).trans a6⟩, (e 0 9 (by omega)).trans a7, (e 0 10 (by omega)).trans a8⟩
theorem mSd_xor {t : TS} {b : Nat} (hb : b < t 0 1) (h2 : t 4 b < 2) (e3 : t 3 b = 2) : mSd t ^^^ 2 ^ b = mSd (stkT t b) := by
  have hn := stk_n t b
  apply Nat.eq_of_testBit_eq
  intro j
  unfold mSd
  rw [Nat.testBit_xor, mskF_bit, mskF_bit, Nat.testBit_two_pow, hn]
  by_cases hj : j = b
  · subst hj
    have e : stkT t j 4 j = 1 - t 4 j := by unfold stkT; rw [if_pos e3, tu_self]
    rw [e]
    rcases (show t 4 j = 0 ∨ t 4 j = 1 by omega) with z | z <;> simp [z, hb]
  · have e : stkT t b 4 j = t 4 j := by unfold stkT; rw [if_pos e3, tu_ne (by omega)]
    have : ¬ b = j := fun z => hj z.symm
    rw [e]
    simp [this]
theorem stk_spy {t : TS} {b : Nat} (e3 : t 3 b = 2) : mSt (stkT t b) = mSt t ∧ ∀ j, stkT t b 6 j = t 6 j := by
  have e : stkT t b = tu t 4 b (1 - t 4 b) := if_pos e3
  refine ⟨?_, fun j => by rw [e, tu_ne (by omega)]⟩
  unfold mSt
  rw [stk_n]
  refine mskF_eq (fun j _ => ?_)
  unfold stn
  rw [e, tu_ne (by omega)]
theorem stk_oth {t : TS} {b : Nat} (e3 : t 3 b ≠ 2) : mSd (stkT t b) = mSd t ∧ stkT t b 6 b = t 6 b + 1 ∧ (∀ j, j ≠ b → stkT t b 6 j = t 6 j) ∧ (∀ j, j ≠ b → stkT t b 7 j = t 7 j) ∧ stkT t b 7 b = (if hf (t 3 b) ≤ t 6 b + 1 then 0 else 1) := by
  have e : stkT t b = tu (tu t 6 b (t 6 b + 1)) 7 b (if hf (t 3 b) ≤ t 6 b + 1 then 0 else 1) := if_neg e3
  refine ⟨?_, ?_, fun j hj => ?_, fun j hj => ?_, ?_⟩
  · unfold mSd
    rw [stk_n]
    refine mskF_eq (fun j _ => ?_)
    rw [e, tu_ne (by omega), tu_ne (by omega)]
  · rw [e, tu_ne (by omega), tu_self]
  · rw [e, tu_ne (by omega), tu_ne (by omega)]
  · rw [e, tu_ne (by omega), tu_ne (by omega)]
  · rw [e, tu_self]
theorem mSt_clr {t : TS} {b : Nat} (hb : b < t 0 1) (e3 : t 3 b ≠ 2) (hf1 : hf (t 3 b) ≤ t 6 b + 1) : mSt t ^^^ (mSt t &&& 2 ^ b) = mSt (stkT t b) := by
  obtain ⟨-, -, -, k7, k7b⟩ := stk_oth (b := b) e3
  rw [if_pos hf1] at k7b
  apply Nat.eq_of_testBit_eq
  intro j
  unfold mSt
  rw [Nat.testBit_xor, Nat.testBit_and, mskF_bit, mskF_bit, Nat.testBit_two_pow, stk_n]
  by_cases hj : j = b
  · subst hj
    unfold stn
    rw [k7b]
    simp
  · have : ¬ b = j := fun z => hj z.symm
    unfold stn
    rw [k7 j hj]
    simp [this]
theorem mSt_kp {t : TS} {b : Nat} (hb : b < t 0 1) (hs : stn t b = true) (e3 : t 3 b ≠ 2) (hf1 : ¬ hf (t 3 b) ≤ t 6 b + 1) : mSt (stkT t b) = mSt t := by
  obtain ⟨-, -, -, k7, k7b⟩ := stk_oth (b := b) e3
  rw [if_neg hf1] at k7b
  unfold mSt
  rw [stk_n]
  refine mskF_eq (fun j _ => ?_)
  by_cases hj : j = b
  · subst hj
    rw [hs]
    unfold stn
    rw [k7b]
    rfl
  · unfold stn; rw [k7 j hj]
theorem and_m1 (x : Int32) : x &&& (-1) = x := by
  apply Int32.toBitVec_inj.mp
  rw [Int32.toBitVec_and]
  have e : (-1 : Int32).toBitVec = BitVec.allOnes 32 := by decide
  rw [e, BitVec.and_allOnes]
theorem p2b (b : Nat) : 2 ^ (2 * b) = 4 ^ b := by rw [Nat.pow_mul]
theorem h4_lt {t : TS} {n : Nat} (hn : n ≤ 6) (h : ∀ j, j < n → t 6 j < 4) : htF t n < 4096 := Nat.lt_of_lt_of_le (htF_lt t n h) (by
  have : 4 ^ n ≤ 4 ^ 6 := Nat.pow_le_pow_right (by decide) hn
  exact this)
theorem okm_hit {l : Launch} {K : KK} {d : Nat} {μ : Mm} {P : Option AV → Mm → Prop} {op b : Nat} {t : TS} (hI : TInv op t) (hM : MRep μ t) (hb : b < t 0 1) (hs : stn t b = true) (h : ∀ μ2, MRep μ2 (stkT t b) → OffM μ μ2 → P (some (vI (nI (stkN t b)))) μ2) : Ok l K d 139 [vR 8 0 0, vI (nI b)] μ P := by
  refine ok_go 3 (by decide +kernel) [some (vR 8 0 0), some (vI (nI b)), none] rfl (Nat.le_of_ble_eq_true rfl) ?_
  have hn := hI.1
  have rb := hI.2.1 b hb
  have vb : vp_in (nI b) 6 := vin (by omega) (by omega)
  have xb2 : ix (nI b) = b := nI_ix (by omega)
  have k5 := hM.1.2.1 b hb
  have m6 : μ 8 0 0 6 = nI (mSt t) := hM.2.1.1
  have m7 : μ 8 0 0 7 = nI (mSd t) := hM.2.1.2.1
  have m8 := hM.2.1.2.2
  have m9 := hM.2.2.1
  have m10 := hM.2.2.2
  have e7 : (nI (t 3 b) = 2) = (t 3 b = 2) := propext (nI_eq (b := 2) (by omega) (by omega))
  have e45 : (nI (t 3 b) = 1) = (t 3 b = 1) := propext (nI_eq (b := 1) (by omega) (by omega))
  have e55 : (nI (t 3 b) = 4) = (t 3 b = 4) := propext (nI_eq (b := 4) (by omega) (by omega))
  have e1 := nI_shl (c := b) (by omega)
  have e2 : (2 : Int32) * nI b = nI (2 * b) := pk_mul 2 b
  have e3 := nI_shl (c := 2 * b) (by omega)
  have h35 : ∀ j, stkT t b 3 j = t 3 j ∧ stkT t b 5 j = t 5 j := fun j => ⟨(stk_3 t b j).1, (stk_3 t b j).2.1⟩
  have h8 : ∀ j, stkT t b 8 j = t 8 j := fun j => (stk_3 t b j).2.2
  have hh : ∀ v j, ¬ j = 8 → up μ 8 0 0 8 v 8 0 0 j = μ 8 0 0 j := fun v j hj => up_ne (by omega)
  have hh5 : ∀ v, up μ 8 0 0 8 v 8 0 5 b = nI (t 3 b) := fun v => (up_ne (by omega)).trans k5
  have hh6 : ∀ v, up μ 8 0 0 8 v 8 0 0 6 = nI (mSt t) := fun v => (up_ne (by omega)).trans m6
  have hh8 : ∀ v, up μ 8 0 0 8 v 8 0 0 8 = v := fun v => up_self _ _ _ _ _ _
  refine go_blk [(.aload_n 0, 0, 0, 0), (.getfield 7, 8, 4, 0), (.iload_n 1, 0, 0, 0), (.iaload, 0, 0, 0), (.iconst 2, 0, 0, 0), (.if_icmp .ne 17, 24, 0, 0)] (by decide +kernel) ?_
  simp only [e_al_0, e_gf_8_4, e_il_1, e_ia, e_ic_2, e_icmp_ne, rd_8_4, ai_0_4, ai_1_7, ai_2_1, ai_2_2, ai_3_1, ai_4_1, ai_6_3, ai_6_4, ai_6_5, ai_6_6, ai_6_7, ai_6_8, ai_8_5, ai_8_6, ai_8_17, ai_8_21, ai_8_23, ai_8_24, ai_8_27, ai_8_28, ai_8_38, ai_8_39, ai_8_40, e_nil, nol_n, nol_I, nol_R, rsum_0, rsum_I, rsum_R, ps_s, ps_n, true_and, and_true, Nat.reduceAdd, Nat.reduceLeDiff, vb, xb2, k5, m6, m7, m8, e7, e45, e55, e1, e2, e3, hh5, hh6, hh8, Classical.not_not]
  refine ⟨fun c7 => ?_, fun c7 => ?_⟩
  · have q3 : t 3 b ≠ 2 := c7
    have eN1 : stkN t b = if hf (t 3 b) ≤ t 6 b + 1 then 1 else 0 := if_neg q3
    rw [eN1] at h
    obtain ⟨o1, o2, o3, -, -⟩ := stk_oth (b := b) q3
    have eH : htF t (t 0 1) + 2 ^ (2 * b) = htF (stkT t b) (t 0 1) := by rw [p2b]; exact (htF_inc o2 o3 (t 0 1) hb).symm
    have l6 : ∀ j, j < t 0 1 → stkT t b 6 j < 4 := fun j hj => by
      have := (hI.2.1 j hj).2.2.2.1
      by_cases z : j = b
      · rw [z, o2]; rw [z] at this; omega
      · rw [o3 j z]; omega
    have lH := h4_lt hn l6
    have e8 : nI (htF t (t 0 1)) + nI (2 ^ (2 * b)) = nI (htF (stkT t b) (t 0 1)) := by rw [nI_add, eH]
    have e65 : (nI (htF (stkT t b) (t 0 1)) >>> (nI (2 * b) &&& 31)) &&& 3 = nI (t 6 b + 1) := by
      rw [nI_shr (by omega) (by omega), pk_andN (Nat.lt_of_le_of_lt (Nat.div_le_self _ _) (by omega)) (m := 3) 2 (by decide), p2b]
      have := htF_at (stkT t b) (t 0 1) l6 b hb
      rw [o2] at this
      rw [show (2 : Nat) ^ 2 = 4 from rfl, this]
    have e69 : (nI (t 6 b + 1) = 2) = (t 6 b + 1 = 2) := propext (nI_eq (b := 2) (by omega) (by omega))
    have e6n := nI_andn (mSt t) (2 ^ b)
    have ea := and_m1 (nI (mSt t))
    refine go_blk [(.aload_n 0, 0, 0, 0), (.dup, 0, 0, 0), (.getfield 105, 8, 8, 0), (.iconst 1, 0, 0, 0), (.iconst 2, 0, 0, 0), (.iload_n 1, 0, 0, 0), (.imul, 0, 0, 0), (.ishl, 0, 0, 0), (.iadd, 0, 0, 0), (.putfield 105, 8, 8, 0)] (by decide +kernel) ?_
    simp only [e_al_0, e_dupI, e_dupR, e_gf_8_8, e_ic_1, e_ic_2, e_il_1, e_imul, e_ishl, e_iadd, e_pf_8_8, rd_8_8, e_nil, nol_n, nol_I, nol_R, rsum_0, rsum_I, rsum_R, ps_s, ps_n, true_and, and_true, Nat.reduceAdd, Nat.reduceLeDiff, vb, xb2, k5, m6, m7, m8, e7, e45, e55, e1, e2, e3, hh5, hh6, hh8, Classical.not_not, e8, e65, e69, e6n, ea]
    refine go_blk [(.aload_n 0, 0, 0, 0), (.getfield 7, 8, 4, 0), (.iload_n 1, 0, 0, 0), (.iaload, 0, 0, 0), (.iconst 1, 0, 0, 0), (.if_icmp .eq 13, 58, 0, 0)] (by decide +kernel) ?_
    simp only [e_al_0, e_gf_8_4, e_il_1, e_ia, e_ic_1, e_icmp_eq, rd_8_4, ai_0_4, ai_1_7, ai_2_1, ai_2_2, ai_3_1, ai_4_1, ai_6_3, ai_6_4, ai_6_5, ai_6_6, ai_6_7, ai_6_8, ai_8_5, ai_8_6, ai_8_17, ai_8_21, ai_8_23, ai_8_24, ai_8_27, ai_8_28, ai_8_38, ai_8_39, ai_8_40, e_nil, nol_n, nol_I, nol_R, rsum_0, rsum_I, rsum_R, ps_s, ps_n, true_and, and_true, Nat.reduceAdd, Nat.reduceLeDiff, vb, xb2, k5, m6, m7, m8, e7, e45, e55, e1, e2, e3, hh5, hh6, hh8, Classical.not_not, e8, e65, e69, e6n, ea]
    refine ⟨fun c45 => ?_, fun c45 => ?_⟩
    · have hk : hf (t 3 b) = 2 := by unfold hf; rw [if_pos c45]
      refine go_blk [(.aload_n 0, 0, 0, 0), (.getfield 105, 8, 8, 0), (.iconst 2, 0, 0, 0), (.iload_n 1, 0, 0, 0), (.imul, 0, 0, 0), (.ishr, 0, 0, 0), (.iconst 3, 0, 0, 0), (.iand, 0, 0, 0), (.iconst 2, 0, 0, 0), (.if_icmp .ne 7, 76, 0, 0)] (by decide +kernel) ?_
      simp only [e_al_0, e_gf_8_8, e_ic_2, e_il_1, e_imul, e_ishr, e_ic_3, e_iand, e_icmp_ne, rd_8_8, e_nil, nol_n, nol_I, nol_R, rsum_0, rsum_I, rsum_R, ps_s, ps_n, true_and, and_true, Nat.reduceAdd, Nat.reduceLeDiff, vb, xb2, k5, m6, m7, m8, e7, e45, e55, e1, e2, e3, hh5, hh6, hh8, Classical.not_not, e8, e65, e69, e6n, ea]
      refine ⟨fun c69 => ?_, fun c69 => ?_⟩
      · have hb6 := rb.2.2.2.2.2.2.2 q3 (by simpa [stn] using hs)
        have hf1 : ¬ hf (t 3 b) ≤ t 6 b + 1 := by omega
        refine go_blk [(.iconst 0, 0, 0, 0), (.istore_n 2, 0, 0, 0), (.aload_n 0, 0, 0, 0), (.dup, 0, 0, 0), (.getfield 99, 8, 6, 0), (.iload_n 2, 0, 0, 0), (.ifCond .eq 11, 95, 0, 0)] (by decide +kernel) ?_
        simp only [e_ic_0, e_is_2n, e_is_2I, e_is_2R, e_al_0, e_dupI, e_dupR, e_gf_8_6, e_il_2, e_if_eq, rd_8_6, e_nil, (show ((0 : Int32) = 0) = True by decide), true_implies, false_implies, not_true_eq_false, not_false_eq_true, nol_n, nol_I, nol_R, rsum_0, rsum_I, rsum_R, ps_s, ps_n, true_and, and_true, Nat.reduceAdd, Nat.reduceLeDiff, vb, xb2, k5, m6, m7, m8, e7, e45, e55, e1, e2, e3, hh5, hh6, hh8, Classical.not_not, e8, e65, e69, e6n, ea]
        refine go_blk [(.iconst (-1), 0, 0, 0), (.iand, 0, 0, 0), (.putfield 99, 8, 6, 0)] (by decide +kernel) ?_
        simp only [e_ic_m1, e_iand, e_pf_8_6, e_nil, nol_n, nol_I, nol_R, rsum_0, rsum_I, rsum_R, ps_s, ps_n, true_and, and_true, Nat.reduceAdd, Nat.reduceLeDiff, vb, xb2, k5, m6, m7, m8, e7, e45, e55, e1, e2, e3, hh5, hh6, hh8, Classical.not_not, e8, e65, e69, e6n, ea]
        refine go_blk [(.iload_n 2, 0, 0, 0), (.ifCond .eq 7, 108, 0, 0)] (by decide +kernel) ?_
        simp only [e_il_2, e_if_eq, e_nil, (show ((0 : Int32) = 0) = True by decide), true_implies, false_implies, not_true_eq_false, not_false_eq_true, nol_n, nol_I, nol_R, rsum_0, rsum_I, rsum_R, ps_s, ps_n, true_and, and_true, Nat.reduceAdd, Nat.reduceLeDiff, vb, xb2, k5, m6, m7, m8, e7, e45, e55, e1, e2, e3, hh5, hh6, hh8, Classical.not_not, e8, e65, e69, e6n, ea]
        refine go_blk [(.iconst 0, 0, 0, 0), (.ireturn, 0, 0, 0)] (by decide +kernel) ?_
        simp only [e_ic_0, e_iret0, e_nil, nol_n, nol_I, nol_R, rsum_0, rsum_I, rsum_R, ps_s, ps_n, true_and, and_true, Nat.reduceAdd, Nat.reduceLeDiff, vb, xb2, k5, m6, m7, m8, e7, e45, e55, e1, e2, e3, hh5, hh6, hh8, Classical.not_not, e8, e65, e69, e6n, ea]
        rw [if_neg hf1] at h
        refine h _ (mr_of (offm_up (offm_up (offm_rf μ) (j := 8) (by omega) (by omega) _) (j := 6) (by omega) (by omega) _) hM (stk_n t b) h35 ?_ ?_ ?_ ?_ ?_) (offm_up (offm_up (offm_rf μ) (j := 8) (by omega) (by omega) _) (j := 6) (by omega) (by omega) _)
        · rw [up_self, mSt_kp hb hs q3 hf1]
        · rw [up_ne (by omega), up_ne (by omega), o1]; exact m7
        · rw [up_ne (by omega), up_self]
        · rw [up_ne (by omega), up_ne (by omega), h8]; exact m9
        · rw [up_ne (by omega), up_ne (by omega), h8]; exact m10
      · have hf1 : hf (t 3 b) ≤ t 6 b + 1 := by omega
        refine go_blk [(.iconst 1, 0, 0, 0), (.goto 4, 77, 0, 0), (.istore_n 2, 0, 0, 0), (.aload_n 0, 0, 0, 0), (.dup, 0, 0, 0), (.getfield 99, 8, 6, 0), (.iload_n 2, 0, 0, 0), (.ifCond .eq 11, 95, 0, 0)] (by decide +kernel) ?_
        simp only [e_ic_1, e_goto, e_is_2n, e_is_2I, e_is_2R, e_al_0, e_dupI, e_dupR, e_gf_8_6, e_il_2, e_if_eq, rd_8_6, e_nil, (show ((1 : Int32) = 0) = False by decide), true_implies, false_implies, not_true_eq_false, not_false_eq_true, nol_n, nol_I, nol_R, rsum_0, rsum_I, rsum_R, ps_s, ps_n, true_and, and_true, Nat.reduceAdd, Nat.reduceLeDiff, vb, xb2, k5, m6, m7, m8, e7, e45, e55, e1, e2, e3, hh5, hh6, hh8, Classical.not_not, e8, e65, e69, e6n, ea]
        refine go_blk [(.iconst 1, 0, 0, 0), (.iload_n 1, 0, 0, 0), (.ishl, 0, 0, 0), (.iconst (-1), 0, 0, 0), (.ixor, 0, 0, 0), (.goto 4, 96, 0, 0), (.iand, 0, 0, 0), (.putfield 99, 8, 6, 0)] (by decide +kernel) ?_
        simp only [e_ic_1, e_il_1, e_ishl, e_ic_m1, e_ixor, e_goto, e_iand, e_pf_8_6, e_nil, nol_n, nol_I, nol_R, rsum_0, rsum_I, rsum_R, ps_s, ps_n, true_and, and_true, Nat.reduceAdd, Nat.reduceLeDiff, vb, xb2, k5, m6, m7, m8, e7, e45, e55, e1, e2, e3, hh5, hh6, hh8, Classical.not_not, e8, e65, e69, e6n, ea]
        refine go_blk [(.iload_n 2, 0, 0, 0), (.ifCond .eq 7, 108, 0, 0)] (by decide +kernel) ?_
        simp only [e_il_2, e_if_eq, e_nil, (show ((1 : Int32) = 0) = False by decide), true_implies, false_implies, not_true_eq_false, not_false_eq_true, nol_n, nol_I, nol_R, rsum_0, rsum_I, rsum_R, ps_s, ps_n, true_and, and_true, Nat.reduceAdd, Nat.reduceLeDiff, vb, xb2, k5, m6, m7, m8, e7, e45, e55, e1, e2, e3, hh5, hh6, hh8, Classical.not_not, e8, e65, e69, e6n, ea]
        refine go_blk [(.iconst 1, 0, 0, 0), (.goto 4, 109, 0, 0), (.ireturn, 0, 0, 0)] (by decide +kernel) ?_
        simp only [e_ic_1, e_goto, e_iret0, e_nil, nol_n, nol_I, nol_R, rsum_0, rsum_I, rsum_R, ps_s, ps_n, true_and, and_true, Nat.reduceAdd, Nat.reduceLeDiff, vb, xb2, k5, m6, m7, m8, e7, e45, e55, e1, e2, e3, hh5, hh6, hh8, Classical.not_not, e8, e65, e69, e6n, ea]
        rw [if_pos hf1] at h
        refine h _ (mr_of (offm_up (offm_up (offm_rf μ) (j := 8) (by omega) (by omega) _) (j := 6) (by omega) (by omega) _) hM (stk_n t b) h35 ?_ ?_ ?_ ?_ ?_) (offm_up (offm_up (offm_rf μ) (j := 8) (by omega) (by omega) _) (j := 6) (by omega) (by omega) _)
        · rw [up_self, mSt_clr hb q3 hf1]
        · rw [up_ne (by omega), up_ne (by omega), o1]; exact m7
        · rw [up_ne (by omega), up_self]
        · rw [up_ne (by omega), up_ne (by omega), h8]; exact m9
        · rw [up_ne (by omega), up_ne (by omega), h8]; exact m10
    · refine go_blk [(.aload_n 0, 0, 0, 0), (.getfield 7, 8, 4, 0), (.iload_n 1, 0, 0, 0), (.iaload, 0, 0, 0), (.iconst 4, 0, 0, 0), (.if_icmp .ne 17, 72, 0, 0)] (by decide +kernel) ?_
      simp only [e_al_0, e_gf_8_4, e_il_1, e_ia, e_ic_4, e_icmp_ne, rd_8_4, ai_0_4, ai_1_7, ai_2_1, ai_2_2, ai_3_1, ai_4_1, ai_6_3, ai_6_4, ai_6_5, ai_6_6, ai_6_7, ai_6_8, ai_8_5, ai_8_6, ai_8_17, ai_8_21, ai_8_23, ai_8_24, ai_8_27, ai_8_28, ai_8_38, ai_8_39, ai_8_40, e_nil, nol_n, nol_I, nol_R, rsum_0, rsum_I, rsum_R, ps_s, ps_n, true_and, and_true, Nat.reduceAdd, Nat.reduceLeDiff, vb, xb2, k5, m6, m7, m8, e7, e45, e55, e1, e2, e3, hh5, hh6, hh8, Classical.not_not, e8, e65, e69, e6n, ea]
      refine ⟨fun c55 => ?_, fun c55 => ?_⟩
      · have hk : hf (t 3 b) = 1 := by unfold hf; rw [if_neg c45, if_neg c55]
        have hf1 : hf (t 3 b) ≤ t 6 b + 1 := by omega
        refine go_blk [(.iconst 1, 0, 0, 0), (.goto 4, 77, 0, 0), (.istore_n 2, 0, 0, 0), (.aload_n 0, 0, 0, 0), (.dup, 0, 0, 0), (.getfield 99, 8, 6, 0), (.iload_n 2, 0, 0, 0), (.ifCond .eq 11, 95, 0, 0)] (by decide +kernel) ?_
        simp only [e_ic_1, e_goto, e_is_2n, e_is_2I, e_is_2R, e_al_0, e_dupI, e_dupR, e_gf_8_6, e_il_2, e_if_eq, rd_8_6, e_nil, (show ((1 : Int32) = 0) = False by decide), true_implies, false_implies, not_true_eq_false, not_false_eq_true, nol_n, nol_I, nol_R, rsum_0, rsum_I, rsum_R, ps_s, ps_n, true_and, and_true, Nat.reduceAdd, Nat.reduceLeDiff, vb, xb2, k5, m6, m7, m8, e7, e45, e55, e1, e2, e3, hh5, hh6, hh8, Classical.not_not, e8, e65, e69, e6n, ea]
        refine go_blk [(.iconst 1, 0, 0, 0), (.iload_n 1, 0, 0, 0), (.ishl, 0, 0, 0), (.iconst (-1), 0, 0, 0), (.ixor, 0, 0, 0), (.goto 4, 96, 0, 0), (.iand, 0, 0, 0), (.putfield 99, 8, 6, 0)] (by decide +kernel) ?_
        simp only [e_ic_1, e_il_1, e_ishl, e_ic_m1, e_ixor, e_goto, e_iand, e_pf_8_6, e_nil, nol_n, nol_I, nol_R, rsum_0, rsum_I, rsum_R, ps_s, ps_n, true_and, and_true, Nat.reduceAdd, Nat.reduceLeDiff, vb, xb2, k5, m6, m7, m8, e7, e45, e55, e1, e2, e3, hh5, hh6, hh8, Classical.not_not, e8, e65, e69, e6n, ea]
        refine go_blk [(.iload_n 2, 0, 0, 0), (.ifCond .eq 7, 108, 0, 0)] (by decide +kernel) ?_
        simp only [e_il_2, e_if_eq, e_nil, (show ((1 : Int32) = 0) = False by decide), true_implies, false_implies, not_true_eq_false, not_false_eq_true, nol_n, nol_I, nol_R, rsum_0, rsum_I, rsum_R, ps_s, ps_n, true_and, and_true, Nat.reduceAdd, Nat.reduceLeDiff, vb, xb2, k5, m6, m7, m8, e7, e45, e55, e1, e2, e3, hh5, hh6, hh8, Classical.not_not, e8, e65, e69, e6n, ea]
        refine go_blk [(.iconst 1, 0, 0, 0), (.goto 4, 109, 0, 0), (.ireturn, 0, 0, 0)] (by decide +kernel) ?_
        simp only [e_ic_1, e_goto, e_iret0, e_nil, nol_n, nol_I, nol_R, rsum_0, rsum_I, rsum_R, ps_s, ps_n, true_and, and_true, Nat.reduceAdd, Nat.reduceLeDiff, vb, xb2, k5, m6, m7, m8, e7, e45, e55, e1, e2, e3, hh5, hh6, hh8, Classical.not_not, e8, e65, e69, e6n, ea]
        rw [if_pos hf1] at h
        refine h _ (mr_of (offm_up (offm_up (offm_rf μ) (j := 8) (by omega) (by omega) _) (j := 6) (by omega) (by omega) _) hM (stk_n t b) h35 ?_ ?_ ?_ ?_ ?_) (offm_up (offm_up (offm_rf μ) (j := 8) (by omega) (by omega) _) (j := 6) (by omega) (by omega) _)
        · rw [up_self, mSt_clr hb q3 hf1]
        · rw [up_ne (by omega), up_ne (by omega), o1]; exact m7
        · rw [up_ne (by omega), up_self]
        · rw [up_ne (by omega), up_ne (by omega), h8]; exact m9
        · rw [up_ne (by omega), up_ne (by omega), h8]; exact m10
      · have hk : hf (t 3 b) = 2 := by unfold hf; rw [if_neg c45, if_pos c55]
        refine go_blk [(.aload_n 0, 0, 0, 0), (.getfield 105, 8, 8, 0), (.iconst 2, 0, 0, 0), (.iload_n 1, 0, 0, 0), (.imul, 0, 0, 0), (.ishr, 0, 0, 0), (.iconst 3, 0, 0, 0), (.iand, 0, 0, 0), (.iconst 2, 0, 0, 0), (.if_icmp .ne 7, 76, 0, 0)] (by decide +kernel) ?_
        simp only [e_al_0, e_gf_8_8, e_ic_2, e_il_1, e_imul, e_ishr, e_ic_3, e_iand, e_icmp_ne, rd_8_8, e_nil, nol_n, nol_I, nol_R, rsum_0, rsum_I, rsum_R, ps_s, ps_n, true_and, and_true, Nat.reduceAdd, Nat.reduceLeDiff, vb, xb2, k5, m6, m7, m8, e7, e45, e55, e1, e2, e3, hh5, hh6, hh8, Classical.not_not, e8, e65, e69, e6n, ea]
        refine ⟨fun c69 => ?_, fun c69 => ?_⟩
        · have hb6 := rb.2.2.2.2.2.2.2 q3 (by simpa [stn] using hs)
          have hf1 : ¬ hf (t 3 b) ≤ t 6 b + 1 := by omega
          refine go_blk [(.iconst 0, 0, 0, 0), (.istore_n 2, 0, 0, 0), (.aload_n 0, 0, 0, 0), (.dup, 0, 0, 0), (.getfield 99, 8, 6, 0), (.iload_n 2, 0, 0, 0), (.ifCond .eq 11, 95, 0, 0)] (by decide +kernel) ?_
          simp only [e_ic_0, e_is_2n, e_is_2I, e_is_2R, e_al_0, e_dupI, e_dupR, e_gf_8_6, e_il_2, e_if_eq, rd_8_6, e_nil, (show ((0 : Int32) = 0) = True by decide), true_implies, false_implies, not_true_eq_false, not_false_eq_true, nol_n, nol_I, nol_R, rsum_0, rsum_I, rsum_R, ps_s, ps_n, true_and, and_true, Nat.reduceAdd, Nat.reduceLeDiff, vb, xb2, k5, m6, m7, m8, e7, e45, e55, e1, e2, e3, hh5, hh6, hh8, Classical.not_not, e8, e65, e69, e6n, ea]
          refine go_blk [(.iconst (-1), 0, 0, 0), (.iand, 0, 0, 0), (.putfield 99, 8, 6, 0)] (by decide +kernel) ?_
          simp only [e_ic_m1, e_iand, e_pf_8_6, e_nil, nol_n, nol_I, nol_R, rsum_0, rsum_I, rsum_R, ps_s, ps_n, true_and, and_true, Nat.reduceAdd, Nat.reduceLeDiff, vb, xb2, k5, m6, m7, m8, e7, e45, e55, e1, e2, e3, hh5, hh6, hh8, Classical.not_not, e8, e65, e69, e6n, ea]
          refine go_blk [(.iload_n 2, 0, 0, 0), (.ifCond .eq 7, 108, 0, 0)] (by decide +kernel) ?_
          simp only [e_il_2, e_if_eq, e_nil, (show ((0 : Int32) = 0) = True by decide), true_implies, false_implies, not_true_eq_false, not_false_eq_true, nol_n, nol_I, nol_R, rsum_0, rsum_I, rsum_R, ps_s, ps_n, true_and, and_true, Nat.reduceAdd, Nat.reduceLeDiff, vb, xb2, k5, m6, m7, m8, e7, e45, e55, e1, e2, e3, hh5, hh6, hh8, Classical.not_not, e8, e65, e69, e6n, ea]
          refine go_blk [(.iconst 0, 0, 0, 0), (.ireturn, 0, 0, 0)] (by decide +kernel) ?_
          simp only [e_ic_0, e_iret0, e_nil, nol_n, nol_I, nol_R, rsum_0, rsum_I, rsum_R, ps_s, ps_n, true_and, and_true, Nat.reduceAdd, Nat.reduceLeDiff, vb, xb2, k5, m6, m7, m8, e7, e45, e55, e1, e2, e3, hh5, hh6, hh8, Classical.not_not, e8, e65, e69, e6n, ea]
          rw [if_neg hf1] at h
          refine h _ (mr_of (offm_up (offm_up (offm_rf μ) (j := 8) (by omega) (by omega) _) (j := 6) (by omega) (by omega) _) hM (stk_n t b) h35 ?_ ?_ ?_ ?_ ?_) (offm_up (offm_up (offm_rf μ) (j := 8) (by omega) (by omega) _) (j := 6) (by omega) (by omega) _)
          · rw [up_self, mSt_kp hb hs q3 hf1]
          · rw [up_ne (by omega), up_ne (by omega), o1]; exact m7
          · rw [up_ne (by omega), up_self]
          · rw [up_ne (by omega), up_ne (by omega), h8]; exact m9
          · rw [up_ne (by omega), up_ne (by omega), h8]; exact m10
        · have hf1 : hf (t 3 b) ≤ t 6 b + 1 := by omega
          refine go_blk [(.iconst 1, 0, 0, 0), (.goto 4, 77, 0, 0), (.istore_n 2, 0, 0, 0), (.aload_n 0, 0, 0, 0), (.dup, 0, 0, 0), (.getfield 99, 8, 6, 0), (.iload_n 2, 0, 0, 0), (.ifCond .eq 11, 95, 0, 0)] (by decide +kernel) ?_
          simp only [e_ic_1, e_goto, e_is_2n, e_is_2I, e_is_2R, e_al_0, e_dupI, e_dupR, e_gf_8_6, e_il_2, e_if_eq, rd_8_6, e_nil, (show ((1 : Int32) = 0) = False by decide), true_implies, false_implies, not_true_eq_false, not_false_eq_true, nol_n, nol_I, nol_R, rsum_0, rsum_I, rsum_R, ps_s, ps_n, true_and, and_true, Nat.reduceAdd, Nat.reduceLeDiff, vb, xb2, k5, m6, m7, m8, e7, e45, e55, e1, e2, e3, hh5, hh6, hh8, Classical.not_not, e8, e65, e69, e6n, ea]
          refine go_blk [(.iconst 1, 0, 0, 0), (.iload_n 1, 0, 0, 0), (.ishl, 0, 0, 0), (.iconst (-1), 0, 0, 0), (.ixor, 0, 0, 0), (.goto 4, 96, 0, 0), (.iand, 0, 0, 0), (.putfield 99, 8, 6, 0)] (by decide +kernel) ?_
          simp only [e_ic_1, e_il_1, e_ishl, e_ic_m1, e_ixor, e_goto, e_iand, e_pf_8_6, e_nil, nol_n, nol_I, nol_R, rsum_0, rsum_I, rsum_R, ps_s, ps_n, true_and, and_true, Nat.reduceAdd, Nat.reduceLeDiff, vb, xb2, k5, m6, m7, m8, e7, e45, e55, e1, e2, e3, hh5, hh6, hh8, Classical.not_not, e8, e65, e69, e6n, ea]
          refine go_blk [(.iload_n 2, 0, 0, 0), (.ifCond .eq 7, 108, 0, 0)] (by decide +kernel) ?_
          simp only [e_il_2, e_if_eq, e_nil, (show ((1 : Int32) = 0) = False by decide), true_implies, false_implies, not_true_eq_false, not_false_eq_true, nol_n, nol_I, nol_R, rsum_0, rsum_I, rsum_R, ps_s, ps_n, true_and, and_true, Nat.reduceAdd, Nat.reduceLeDiff, vb, xb2, k5, m6, m7, m8, e7, e45, e55, e1, e2, e3, hh5, hh6, hh8, Classical.not_not, e8, e65, e69, e6n, ea]
          refine go_blk [(.iconst 1, 0, 0, 0), (.goto 4, 109, 0, 0), (.ireturn, 0, 0, 0)] (by decide +kernel) ?_
          simp only [e_ic_1, e_goto, e_iret0, e_nil, nol_n, nol_I, nol_R, rsum_0, rsum_I, rsum_R, ps_s, ps_n, true_and, and_true, Nat.reduceAdd, Nat.reduceLeDiff, vb, xb2, k5, m6, m7, m8, e7, e45, e55, e1, e2, e3, hh5, hh6, hh8, Classical.not_not, e8, e65, e69, e6n, ea]
          rw [if_pos hf1] at h
          refine h _ (mr_of (offm_up (offm_up (offm_rf μ) (j := 8) (by omega) (by omega) _) (j := 6) (by omega) (by omega) _) hM (stk_n t b) h35 ?_ ?_ ?_ ?_ ?_) (offm_up (offm_up (offm_rf μ) (j := 8) (by omega) (by omega) _) (j := 6) (by omega) (by omega) _)
          · rw [up_self, mSt_clr hb q3 hf1]
          · rw [up_ne (by omega), up_ne (by omega), o1]; exact m7
          · rw [up_ne (by omega), up_self]
          · rw [up_ne (by omega), up_ne (by omega), h8]; exact m9
          · rw [up_ne (by omega), up_ne (by omega), h8]; exact m10
  · have eN1 : stkN t b = 1 := if_pos c7
    rw [eN1] at h
    obtain ⟨s1, s2⟩ := stk_spy (b := b) c7
    have ex := nI_xor (mSd t) (2 ^ b)
    refine go_blk [(.aload_n 0, 0, 0, 0), (.dup, 0, 0, 0), (.getfield 102, 8, 7, 0), (.iconst 1, 0, 0, 0), (.iload_n 1, 0, 0, 0), (.ishl, 0, 0, 0), (.ixor, 0, 0, 0), (.putfield 102, 8, 7, 0)] (by decide +kernel) ?_
    simp only [e_al_0, e_dupI, e_dupR, e_gf_8_7, e_ic_1, e_il_1, e_ishl, e_ixor, e_pf_8_7, rd_8_7, e_nil, nol_n, nol_I, nol_R, rsum_0, rsum_I, rsum_R, ps_s, ps_n, true_and, and_true, Nat.reduceAdd, Nat.reduceLeDiff, vb, xb2, k5, m6, m7, m8, e7, e45, e55, e1, e2, e3, hh5, hh6, hh8, Classical.not_not, ex]
    refine go_blk [(.iconst 1, 0, 0, 0), (.ireturn, 0, 0, 0)] (by decide +kernel) ?_
    simp only [e_ic_1, e_iret0, e_nil, nol_n, nol_I, nol_R, rsum_0, rsum_I, rsum_R, ps_s, ps_n, true_and, and_true, Nat.reduceAdd, Nat.reduceLeDiff, vb, xb2, k5, m6, m7, m8, e7, e45, e55, e1, e2, e3, hh5, hh6, hh8, Classical.not_not, ex]
    refine h _ (mr_of (offm_up (offm_rf μ) (by omega) (by omega) _) hM (stk_n t b) h35 ?_ ?_ ?_ ?_ ?_) (offm_up (offm_rf μ) (by omega) (by omega) _)
    · rw [up_ne (by omega), s1]; exact m6
    · rw [up_self, mSd_xor hb rb.2.1 c7]
    · rw [up_ne (by omega), htF_eq (t := t) _ (fun j _ => s2 j)]; exact m8
    · rw [up_ne (by omega), h8]; exact m9
    · rw [up_ne (by omega), h8]; exact m10
