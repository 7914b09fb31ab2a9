theorem cntB_sh (f : Nat → Bool) : ∀ k j, cntB f k (j + 1) = cntB (fun i => f (i + 1)) k j
  | 0, _ => rfl
  | k + 1, j => by
    show (if f (j + 1) then 1 else 0) + cntB f k (j + 1 + 1) = (if f (j + 1) then 1 else 0) + cntB (fun i => f (i + 1)) k (j + 1)
    rw [cntB_sh f k (j + 1)]
theorem cntB_eq {f g : Nat → Bool} : ∀ k j, (∀ i, j ≤ i → i < j + k → f i = g i) → cntB f k j = cntB g k j
  | 0, _, _ => rfl
  | k + 1, j, h => by
    show (if f j then 1 else 0) + cntB f k (j + 1) = (if g j then 1 else 0) + cntB g k (j + 1)
    rw [h j (by omega) (by omega), cntB_eq k (j + 1) (fun i h1 h2 => h i (by omega) (by omega))]
theorem cntB_add (f : Nat → Bool) (b : Nat) : ∀ a j, cntB f (a + b) j = cntB f a j + cntB f b (j + a)
  | 0, j => by rw [Nat.zero_add]; exact (Nat.zero_add _).symm
  | a + 1, j => by
    rw [show a + 1 + b = (a + b) + 1 by omega]
    show (if f j then 1 else 0) + cntB f (a + b) (j + 1) = (if f j then 1 else 0) + cntB f a (j + 1) + cntB f b (j + (a + 1))
    rw [cntB_add f b a (j + 1), show j + 1 + a = j + (a + 1) by omega]
    omega
theorem cntB_0 {f : Nat → Bool} : ∀ k j, (∀ i, j ≤ i → i < j + k → f i = false) → cntB f k j = 0
  | 0, _, _ => rfl
  | k + 1, j, h => by
    show (if f j then 1 else 0) + cntB f k (j + 1) = 0
    rw [h j (by omega) (by omega), cntB_0 k (j + 1) (fun i h1 h2 => h i (by omega) (by omega))]
    rfl
theorem popF_cnt : ∀ k m, popF k m = cntB (fun i => m.testBit i) k 0
  | 0, _ => rfl
  | k + 1, m => by
    show m % 2 + popF k (m / 2) = (if m.testBit 0 then 1 else 0) + cntB (fun i => m.testBit i) k (0 + 1)
    rw [cntB_sh, popF_cnt k (m / 2)]
    have e1 : m % 2 = if m.testBit 0 then 1 else 0 := by
      rw [Nat.testBit_zero]
      rcases (show m % 2 = 0 ∨ m % 2 = 1 by omega) with z | z <;> simp [z]
    rw [e1]
    congr 1
    apply cntB_eq
    intro i _ _
    show (m / 2).testBit i = m.testBit (i + 1)
    rw [Nat.testBit_succ]
theorem pop_msk (f : Nat → Bool) {n : Nat} (hn : n ≤ 15) : pop (mskF f n) = cntB f n 0 := by
  unfold pop
  rw [popF_cnt, show 15 = n + (15 - n) by omega, cntB_add, cntB_0 (15 - n), Nat.add_zero]
  · exact cntB_eq _ _ (fun i _ h => by rw [mskF_bit]; simp [show i < n by omega])
  · intro i h1 _
    rw [mskF_bit]
    simp [show ¬ i < n by omega]
theorem cnt_two {f g h : Nat → Bool} : ∀ k j, (∀ i, j ≤ i → i < j + k → (f i = true ∧ ((g i = true ∧ h i = false) ∨ (g i = false ∧ h i = true))) ∨ (f i = false ∧ g i = false ∧ h i = false)) → cntB f k j = cntB g k j + cntB h k j
  | 0, _, _ => rfl
  | k + 1, j, q => by
    have ih := cnt_two (f := f) (g := g) (h := h) k (j + 1) (fun i h1 h2 => q i (by omega) (by omega))
    show (if f j then 1 else 0) + cntB f k (j + 1) = ((if g j then 1 else 0) + cntB g k (j + 1)) + ((if h j then 1 else 0) + cntB h k (j + 1))
    rcases q j (by omega) (by omega) with ⟨a, ⟨b, c⟩ | ⟨b, c⟩⟩ | ⟨a, b, c⟩ <;> rw [a, b, c] <;> simp <;> omega
def mS1 (t : TS) : Nat := mskF (fun j => stn t j && t 4 j == 1) (t 0 1)
theorem mS1_eq (t : TS) : mSt t &&& mSd t = mS1 t := by
  apply Nat.eq_of_testBit_eq
  intro j
  unfold mSt mSd mS1
  rw [Nat.testBit_and, mskF_bit, mskF_bit, mskF_bit]
  cases decide (j < t 0 1) <;> simp
theorem mS0_eq {op : Nat} {t : TS} (hI : TInv op t) : mSt t ^^^ (mSt t &&& mSd t) = mskF (fun j => stn t j && t 4 j == 0) (t 0 1) := by
  apply Nat.eq_of_testBit_eq
  intro j
  unfold mSt mSd
  rw [Nat.testBit_xor, Nat.testBit_and, mskF_bit, mskF_bit, mskF_bit]
  by_cases h : j < t 0 1
  · rcases (show t 4 j = 0 ∨ t 4 j = 1 by have := (hI.2.1 j h).2.1; omega) with z | z <;> simp [z, h]
  · simp [h]
theorem pop_S1 {t : TS} (hn : t 0 1 ≤ 6) : pop (mS1 t) = std t 1 := pop_msk _ (by omega)
theorem pop_St {op : Nat} {t : TS} (hI : TInv op t) : pop (mSt t) = std t 0 + std t 1 := by
  have hn := hI.1
  unfold mSt
  rw [pop_msk _ (by omega)]
  unfold std
  apply cnt_two
  intro i _ h
  rcases (show t 4 i = 0 ∨ t 4 i = 1 by have := (hI.2.1 i (by omega)).2.1; omega) with z | z <;> cases stn t i <;> simp [z]
def SvR (μ : Mm) (lv : Nat) (t : TS) : Prop := μ 8 0 24 (5 * lv) = nI (mSt t) ∧ μ 8 0 24 (5 * lv + 1) = nI (mSd t) ∧ μ 8 0 24 (5 * lv + 2) = nI (htF t (t 0 1)) ∧ μ 8 0 24 (5 * lv + 3) = nI (t 8 0) ∧ μ 8 0 24 (5 * lv + 4) = nI (t 8 1)
def OffV (lv : Nat) (μ μ2 : Mm) : Prop := ∀ c i s j, ¬ (c = 8 ∧ i = 0 ∧ s = 24 ∧ 5 * lv ≤ j ∧ j < 5 * lv + 5) → μ2 c i s j = μ c i s j
theorem okm_save {l : Launch} {K : KK} {d : Nat} {μ : Mm} {P : Option AV → Mm → Prop} {lv : Nat} {t : TS} (hl : lv < 4) (hM : MRep μ t) (h : ∀ μ2, SvR μ2 lv t → OffV lv μ μ2 → P none μ2) : Ok l K d 148 [vR 8 0 0, vI (nI lv)] μ P := by
  refine ok_go 2 (by decide +kernel) [some (vR 8 0 0), some (vI (nI lv))] rfl (Nat.le_of_ble_eq_true rfl) ?_
  obtain ⟨q0, hq0⟩ : ∃ q, q = 5 * lv := ⟨_, rfl⟩
  obtain ⟨q1, hq1⟩ : ∃ q, q = 5 * lv + 1 := ⟨_, rfl⟩
  obtain ⟨q2, hq2⟩ : ∃ q, q = 5 * lv + 2 := ⟨_, rfl⟩
  obtain ⟨q3, hq3⟩ : ∃ q, q = 5 * lv + 3 := ⟨_, rfl⟩
  obtain ⟨q4, hq4⟩ : ∃ q, q = 5 * lv + 4 := ⟨_, rfl⟩
  have e5 : (5 : Int32) * nI lv = nI q0 := by rw [hq0]; exact pk_mul 5 lv
  have e51 : nI q0 + 1 = nI q1 := by rw [hq0, hq1]; exact nI_add _ 1
  have e52 : nI q0 + 2 = nI q2 := by rw [hq0, hq2]; exact nI_add _ 2
  have e53 : nI q0 + 3 = nI q3 := by rw [hq0, hq3]; exact nI_add _ 3
  have e54 : nI q0 + 4 = nI q4 := by rw [hq0, hq4]; exact nI_add _ 4
  have v0 : vp_in (nI q0) 20 := vin (by omega) (by omega)
  have v1 : vp_in (nI q1) 20 := vin (by omega) (by omega)
  have v2 : vp_in (nI q2) 20 := vin (by omega) (by omega)
  have v3 : vp_in (nI q3) 20 := vin (by omega) (by omega)
  have v4 : vp_in (nI q4) 20 := vin (by omega) (by omega)
  have x0 : ix (nI q0) = q0 := nI_ix (by omega)
  have x1 : ix (nI q1) = q1 := nI_ix (by omega)
  have x2 : ix (nI q2) = q2 := nI_ix (by omega)
  have x3 : ix (nI q3) = q3 := nI_ix (by omega)
  have x4 : ix (nI q4) = q4 := nI_ix (by omega)
  have m6 : μ 8 0 0 6 = nI (mSt t) := hM.2.1.1
  have m7 : μ 8 0 0 7 = nI (mSd t) := hM.2.1.2.1
  have m8 := hM.2.1.2.2
  have m9 := hM.2.2.1
  have m10 := hM.2.2.2
  have un : ∀ (μ' : Mm) a v j, up μ' 8 0 24 a v 8 0 0 j = μ' 8 0 0 j := fun μ' a v j => up_ne (by omega)
  refine go_blk [(.aload_n 0, 0, 0, 0), (.getfield 33, 8, 23, 0), (.iconst 5, 0, 0, 0), (.iload_n 1, 0, 0, 0), (.imul, 0, 0, 0)] (by decide +kernel) ?_
  simp only [e_al_0, e_gf_8_23, e_ic_5, e_il_1, e_imul, rd_8_23, e_nil, nol_n, nol_I, nol_R, rsum_0, rsum_I, rsum_R, ps_s, ps_n, true_and, and_true, Nat.reduceAdd, Nat.reduceLeDiff, e5, e51, e52, e53, e54, v0, v1, v2, v3, v4, x0, x1, x2, x3, x4, un, m6, m7, m8, m9, m10]
  refine go_blk [(.aload_n 0, 0, 0, 0), (.getfield 99, 8, 6, 0)] (by decide +kernel) ?_
  simp only [e_al_0, e_gf_8_6, rd_8_6, e_nil, nol_n, nol_I, nol_R, rsum_0, rsum_I, rsum_R, ps_s, ps_n, true_and, and_true, Nat.reduceAdd, Nat.reduceLeDiff, e5, e51, e52, e53, e54, v0, v1, v2, v3, v4, x0, x1, x2, x3, x4, un, m6, m7, m8, m9, m10]
  refine go_blk [(.iastore, 0, 0, 0)] (by decide +kernel) ?_
  simp only [e_iast, ai_0_4, ai_1_7, ai_2_1, ai_2_2, ai_3_1, ai_4_1, ai_6_3, ai_6_4, ai_6_5, ai_6_6, ai_6_7, ai_6_8, ai_8_5, ai_8_6, ai_8_17, ai_8_21, ai_8_23, ai_8_24, ai_8_27, ai_8_28, ai_8_38, ai_8_39, ai_8_40, e_nil, nol_n, nol_I, nol_R, rsum_0, rsum_I, rsum_R, ps_s, ps_n, true_and, and_true, Nat.reduceAdd, Nat.reduceLeDiff, e5, e51, e52, e53, e54, v0, v1, v2, v3, v4, x0, x1, x2, x3, x4, un, m6, m7, m8, m9, m10]
  refine go_blk [(.aload_n 0, 0, 0, 0), (.getfield 33, 8, 23, 0), (.iconst 5, 0, 0, 0), (.iload_n 1, 0, 0, 0), (.imul, 0, 0, 0), (.iconst 1, 0, 0, 0), (.iadd, 0, 0, 0)] (by decide +kernel) ?_
  simp only [e_al_0, e_gf_8_23, e_ic_5, e_il_1, e_imul, e_ic_1, e_iadd, rd_8_23, e_nil, nol_n, nol_I, nol_R, rsum_0, rsum_I, rsum_R, ps_s, ps_n, true_and, and_true, Nat.reduceAdd, Nat.reduceLeDiff, e5, e51, e52, e53, e54, v0, v1, v2, v3, v4, x0, x1, x2, x3, x4, un, m6, m7, m8, m9, m10]
  refine go_blk [(.aload_n 0, 0, 0, 0), (.getfield 102, 8, 7, 0)] (by decide +kernel) ?_
  simp only [e_al_0, e_gf_8_7, rd_8_7, e_nil, nol_n, nol_I, nol_R, rsum_0, rsum_I, rsum_R, ps_s, ps_n, true_and, and_true, Nat.reduceAdd, Nat.reduceLeDiff, e5, e51, e52, e53, e54, v0, v1, v2, v3, v4, x0, x1, x2, x3, x4, un, m6, m7, m8, m9, m10]
  refine go_blk [(.iastore, 0, 0, 0)] (by decide +kernel) ?_
  simp only [e_iast, ai_0_4, ai_1_7, ai_2_1, ai_2_2, ai_3_1, ai_4_1, ai_6_3, ai_6_4, ai_6_5, ai_6_6, ai_6_7, ai_6_8, ai_8_5, ai_8_6, ai_8_17, ai_8_21, ai_8_23, ai_8_24, ai_8_27, ai_8_28, ai_8_38, ai_8_39, ai_8_40, e_nil, nol_n, nol_I, nol_R, rsum_0, rsum_I, rsum_R, ps_s, ps_n, true_and, and_true, Nat.reduceAdd, Nat.reduceLeDiff, e5, e51, e52, e53, e54, v0, v1, v2, v3, v4, x0, x1, x2, x3, x4, un, m6, m7, m8, m9, m10]
  refine go_blk [(.aload_n 0, 0, 0, 0), (.getfield 33, 8, 23, 0), (.iconst 5, 0, 0, 0), (.iload_n 1, 0, 0, 0), (.imul, 0, 0, 0), (.iconst 2, 0, 0, 0), (.iadd, 0, 0, 0)] (by decide +kernel) ?_
  simp only [e_al_0, e_gf_8_23, e_ic_5, e_il_1, e_imul, e_ic_2, e_iadd, rd_8_23, e_nil, nol_n, nol_I, nol_R, rsum_0, rsum_I, rsum_R, ps_s, ps_n, true_and, and_true, Nat.reduceAdd, Nat.reduceLeDiff, e5, e51, e52, e53, e54, v0, v1, v2, v3, v4, x0, x1, x2, x3, x4, un, m6, m7, m8, m9, m10]
  refine go_blk [(.aload_n 0, 0, 0, 0), (.getfield 105, 8, 8, 0)] (by decide +kernel) ?_
  simp only [e_al_0, e_gf_8_8, rd_8_8, e_nil, nol_n, nol_I, nol_R, rsum_0, rsum_I, rsum_R, ps_s, ps_n, true_and, and_true, Nat.reduceAdd, Nat.reduceLeDiff, e5, e51, e52, e53, e54, v0, v1, v2, v3, v4, x0, x1, x2, x3, x4, un, m6, m7, m8, m9, m10]
  refine go_blk [(.iastore, 0, 0, 0)] (by decide +kernel) ?_
  simp only [e_iast, ai_0_4, ai_1_7, ai_2_1, ai_2_2, ai_3_1, ai_4_1, ai_6_3, ai_6_4, ai_6_5, ai_6_6, ai_6_7, ai_6_8, ai_8_5, ai_8_6, ai_8_17, ai_8_21, ai_8_23, ai_8_24, ai_8_27, ai_8_28, ai_8_38, ai_8_39, ai_8_40, e_nil, nol_n, nol_I, nol_R, rsum_0, rsum_I, rsum_R, ps_s, ps_n, true_and, and_true, Nat.reduceAdd, Nat.reduceLeDiff, e5, e51, e52, e53, e54, v0, v1, v2, v3, v4, x0, x1, x2, x3, x4, un, m6, m7, m8, m9, m10]
  refine go_blk [(.aload_n 0, 0, 0, 0), (.getfield 33, 8, 23, 0), (.iconst 5, 0, 0, 0), (.iload_n 1, 0, 0, 0), (.imul, 0, 0, 0), (.iconst 3, 0, 0, 0), (.iadd, 0, 0, 0)] (by decide +kernel) ?_
  simp only [e_al_0, e_gf_8_23, e_ic_5, e_il_1, e_imul, e_ic_3, e_iadd, rd_8_23, e_nil, nol_n, nol_I, nol_R, rsum_0, rsum_I, rsum_R, ps_s, ps_n, true_and, and_true, Nat.reduceAdd, Nat.reduceLeDiff, e5, e51, e52, e53, e54, v0, v1, v2, v3, v4, x0, x1, x2, x3, x4, un, m6, m7, m8, m9, m10]
  refine go_blk [(.aload_n 0, 0, 0, 0), (.getfield 83, 8, 9, 0)] (by decide +kernel) ?_
  simp only [e_al_0, e_gf_8_9, rd_8_9, e_nil, nol_n, nol_I, nol_R, rsum_0, rsum_I, rsum_R, ps_s, ps_n, true_and, and_true, Nat.reduceAdd, Nat.reduceLeDiff, e5, e51, e52, e53, e54, v0, v1, v2, v3, v4, x0, x1, x2, x3, x4, un, m6, m7, m8, m9, m10]
  refine go_blk [(.iastore, 0, 0, 0)] (by decide +kernel) ?_
  simp only [e_iast, ai_0_4, ai_1_7, ai_2_1, ai_2_2, ai_3_1, ai_4_1, ai_6_3, ai_6_4, ai_6_5, ai_6_6, ai_6_7, ai_6_8, ai_8_5, ai_8_6, ai_8_17, ai_8_21, ai_8_23, ai_8_24, ai_8_27, ai_8_28, ai_8_38, ai_8_39, ai_8_40, e_nil, nol_n, nol_I, nol_R, rsum_0, rsum_I, rsum_R, ps_s, ps_n, true_and, and_true, Nat.reduceAdd, Nat.reduceLeDiff, e5, e51, e52, e53, e54, v0, v1, v2, v3, v4, x0, x1, x2, x3, x4, un, m6, m7, m8, m9, m10]
  refine go_blk [(.aload_n 0, 0, 0, 0), (.getfield 33, 8, 23, 0), (.iconst 5, 0, 0, 0), (.iload_n 1, 0, 0, 0), (.imul, 0, 0, 0), (.iconst 4, 0, 0, 0), (.iadd, 0, 0, 0)] (by decide +kernel) ?_
  simp only [e_al_0, e_gf_8_23, e_ic_5, e_il_1, e_imul, e_ic_4, e_iadd, rd_8_23, e_nil, nol_n, nol_I, nol_R, rsum_0, rsum_I, rsum_R, ps_s, ps_n, true_and, and_true, Nat.reduceAdd, Nat.reduceLeDiff, e5, e51, e52, e53, e54, v0, v1, v2, v3, v4, x0, x1, x2, x3, x4, un, m6, m7, m8, m9, m10]
  refine go_blk [(.aload_n 0, 0, 0, 0), (.getfield 86, 8, 10, 0)] (by decide +kernel) ?_
  simp only [e_al_0, e_gf_8_10, rd_8_10, e_nil, nol_n, nol_I, nol_R, rsum_0, rsum_I, rsum_R, ps_s, ps_n, true_and, and_true, Nat.reduceAdd, Nat.reduceLeDiff, e5, e51, e52, e53, e54, v0, v1, v2, v3, v4, x0, x1, x2, x3, x4, un, m6, m7, m8, m9, m10]
  refine go_blk [(.iastore, 0, 0, 0)] (by decide +kernel) ?_
  simp only [e_iast, ai_0_4, ai_1_7, ai_2_1, ai_2_2, ai_3_1, ai_4_1, ai_6_3, ai_6_4, ai_6_5, ai_6_6, ai_6_7, ai_6_8, ai_8_5, ai_8_6, ai_8_17, ai_8_21, ai_8_23, ai_8_24, ai_8_27, ai_8_28, ai_8_38, ai_8_39, ai_8_40, e_nil, nol_n, nol_I, nol_R, rsum_0, rsum_I, rsum_R, ps_s, ps_n, true_and, and_true, Nat.reduceAdd, Nat.reduceLeDiff, e5, e51, e52, e53, e54, v0, v1, v2, v3, v4, x0, x1, x2, x3, x4, un, m6, m7, m8, m9, m10]
  refine go_blk [(.return_, 0, 0, 0)] (by decide +kernel) ?_
  simp only [e_vret, e_nil, nol_n, nol_I, nol_R, rsum_0, rsum_I, rsum_R, ps_s, ps_n, true_and, and_true, Nat.reduceAdd, Nat.reduceLeDiff, e5, e51, e52, e53, e54, v0, v1, v2, v3, v4, x0, x1, x2, x3, x4, un, m6, m7, m8, m9, m10]
  refine h _ (by
    unfold SvR
    rw [← hq4, ← hq3, ← hq2, ← hq1, ← hq0]
    refine ⟨?_, ?_, ?_, ?_, ?_⟩
    · rw [up_ne (by omega), up_ne (by omega), up_ne (by omega), up_ne (by omega), up_self]
    · rw [up_ne (by omega), up_ne (by omega), up_ne (by omega), up_self]
    · rw [up_ne (by omega), up_ne (by omega), up_self]
    · rw [up_ne (by omega), up_self]
    · rw [up_self]) (fun c i s j hc => ?_)
  · rw [up_ne (by omega), up_ne (by omega), up_ne (by omega), up_ne (by omega), up_ne (by omega)]
theorem okm_load {l : Launch} {K : KK} {d : Nat} {μ : Mm} {P : Option AV → Mm → Prop} {lv : Nat} {t t0 : TS} (hl : lv < 4) (hM : MRep μ t0) (h0 : t 0 1 = t0 0 1) (h35 : ∀ j, t 3 j = t0 3 j ∧ t 5 j = t0 5 j) (hS : SvR μ lv t) (h : ∀ μ2, MRep μ2 t → OffM μ μ2 → P none μ2) : Ok l K d 149 [vR 8 0 0, vI (nI lv)] μ P := by
  refine ok_go 2 (by decide +kernel) [some (vR 8 0 0), some (vI (nI lv))] rfl (Nat.le_of_ble_eq_true rfl) ?_
  obtain ⟨q0, hq0⟩ : ∃ q, q = 5 * lv := ⟨_, rfl⟩
  obtain ⟨q1, hq1⟩ : ∃ q, q = 5 * lv + 1 := ⟨_, rfl⟩
  obtain ⟨q2, hq2⟩ : ∃ q, q = 5 * lv + 2 := ⟨_, rfl⟩
  obtain ⟨q3, hq3⟩ : ∃ q, q = 5 * lv + 3 := ⟨_, rfl⟩
  obtain ⟨q4, hq4⟩ : ∃ q, q = 5 * lv + 4 := ⟨_, rfl⟩
  have e5 : (5 : Int32) * nI lv = nI q0 := by rw [hq0]; exact pk_mul 5 lv
  have e51 : nI q0 + 1 = nI q1 := by rw [hq0, hq1]; exact nI_add _ 1
  have e52 : nI q0 + 2 = nI q2 := by rw [hq0, hq2]; exact nI_add _ 2
  have e53 : nI q0 + 3 = nI q3 := by rw [hq0, hq3]; exact nI_add _ 3
  have e54 : nI q0 + 4 = nI q4 := by rw [hq0, hq4]; exact nI_add _ 4
  have v0 : vp_in (nI q0) 20 := vin (by omega) (by omega)
  have v1 : vp_in (nI q1) 20 := vin (by omega) (by omega)
  have v2 : vp_in (nI q2) 20 := vin (by omega) (by omega)
  have v3 : vp_in (nI q3) 20 := vin (by omega) (by omega)
  have v4 : vp_in (nI q4) 20 := vin (by omega) (by omega)
  have x0 : ix (nI q0) = q0 := nI_ix (by omega)
  have x1 : ix (nI q1) = q1 := nI_ix (by omega)
  have x2 : ix (nI q2) = q2 := nI_ix (by omega)
  have x3 : ix (nI q3) = q3 := nI_ix (by omega)
  have x4 : ix (nI q4) = q4 := nI_ix (by omega)
  unfold SvR at hS
  rw [← hq4, ← hq3, ← hq2, ← hq1, ← hq0] at hS
  obtain ⟨s0, s1, s2, s3, s4⟩ := hS
  have un : ∀ (μ' : Mm) a v j, up μ' 8 0 0 a v 8 0 24 j = μ' 8 0 24 j := fun μ' a v j => up_ne (by omega)
  refine go_blk [(.aload_n 0, 0, 0, 0), (.aload_n 0, 0, 0, 0), (.getfield 33, 8, 23, 0), (.iconst 5, 0, 0, 0), (.iload_n 1, 0, 0, 0), (.imul, 0, 0, 0)] (by decide +kernel) ?_
  simp only [e_al_0, e_gf_8_23, e_ic_5, e_il_1, e_imul, rd_8_23, e_nil, nol_n, nol_I, nol_R, rsum_0, rsum_I, rsum_R, ps_s, ps_n, true_and, and_true, Nat.reduceAdd, Nat.reduceLeDiff, e5, e51, e52, e53, e54, v0, v1, v2, v3, v4, x0, x1, x2, x3, x4, un, s0, s1, s2, s3, s4]
  refine go_blk [(.iaload, 0, 0, 0)] (by decide +kernel) ?_
  simp only [e_ia, ai_0_4, ai_1_7, ai_2_1, ai_2_2, ai_3_1, ai_4_1, ai_6_3, ai_6_4, ai_6_5, ai_6_6, ai_6_7, ai_6_8, ai_8_5, ai_8_6, ai_8_17, ai_8_21, ai_8_23, ai_8_24, ai_8_27, ai_8_28, ai_8_38, ai_8_39, ai_8_40, e_nil, nol_n, nol_I, nol_R, rsum_0, rsum_I, rsum_R, ps_s, ps_n, true_and, and_true, Nat.reduceAdd, Nat.reduceLeDiff, e5, e51, e52, e53, e54, v0, v1, v2, v3, v4, x0, x1, x2, x3, x4, un, s0, s1, s2, s3, s4]
  refine go_blk [(.putfield 99, 8, 6, 0)] (by decide +kernel) ?_
  simp only [e_pf_8_6, e_nil, nol_n, nol_I, nol_R, rsum_0, rsum_I, rsum_R, ps_s, ps_n, true_and, and_true, Nat.reduceAdd, Nat.reduceLeDiff, e5, e51, e52, e53, e54, v0, v1, v2, v3, v4, x0, x1, x2, x3, x4, un, s0, s1, s2, s3, s4]
  refine go_blk [(.aload_n 0, 0, 0, 0), (.aload_n 0, 0, 0, 0), (.getfield 33, 8, 23, 0), (.iconst 5, 0, 0, 0), (.iload_n 1, 0, 0, 0), (.imul, 0, 0, 0), (.iconst 1, 0, 0, 0), (.iadd, 0, 0, 0)] (by decide +kernel) ?_
  simp only [e_al_0, e_gf_8_23, e_ic_5, e_il_1, e_imul, e_ic_1, e_iadd, rd_8_23, e_nil, nol_n, nol_I, nol_R, rsum_0, rsum_I, rsum_R, ps_s, ps_n, true_and, and_true, Nat.reduceAdd, Nat.reduceLeDiff, e5, e51, e52, e53, e54, v0, v1, v2, v3, v4, x0, x1, x2, x3, x4, un, s0, s1, s2, s3, s4]
  refine go_blk [(.iaload, 0, 0, 0)] (by decide +kernel) ?_
  simp only [e_ia, ai_0_4, ai_1_7, ai_2_1, ai_2_2, ai_3_1, ai_4_1, ai_6_3, ai_6_4, ai_6_5, ai_6_6, ai_6_7, ai_6_8, ai_8_5, ai_8_6, ai_8_17, ai_8_21, ai_8_23, ai_8_24, ai_8_27, ai_8_28, ai_8_38, ai_8_39, ai_8_40, e_nil, nol_n, nol_I, nol_R, rsum_0, rsum_I, rsum_R, ps_s, ps_n, true_and, and_true, Nat.reduceAdd, Nat.reduceLeDiff, e5, e51, e52, e53, e54, v0, v1, v2, v3, v4, x0, x1, x2, x3, x4, un, s0, s1, s2, s3, s4]
  refine go_blk [(.putfield 102, 8, 7, 0)] (by decide +kernel) ?_
  simp only [e_pf_8_7, e_nil, nol_n, nol_I, nol_R, rsum_0, rsum_I, rsum_R, ps_s, ps_n, true_and, and_true, Nat.reduceAdd, Nat.reduceLeDiff, e5, e51, e52, e53, e54, v0, v1, v2, v3, v4, x0, x1, x2, x3, x4, un, s0, s1, s2, s3, s4]
  refine go_blk [(.aload_n 0, 0, 0, 0), (.aload_n 0, 0, 0, 0), (.getfield 33, 8, 23, 0), (.iconst 5, 0, 0, 0), (.iload_n 1, 0, 0, 0), (.imul, 0, 0, 0), (.iconst 2, 0, 0, 0), (.iadd, 0, 0, 0)] (by decide +kernel) ?_
  simp only [e_al_0, e_gf_8_23, e_ic_5, e_il_1, e_imul, e_ic_2, e_iadd, rd_8_23, e_nil, nol_n, nol_I, nol_R, rsum_0, rsum_I, rsum_R, ps_s, ps_n, true_and, and_true, Nat.reduceAdd, Nat.reduceLeDiff, e5, e51, e52, e53, e54, v0, v1, v2, v3, v4, x0, x1, x2, x3, x4, un, s0, s1, s2, s3, s4]
  refine go_blk [(.iaload, 0, 0, 0)] (by decide +kernel) ?_
  simp only [e_ia, ai_0_4, ai_1_7, ai_2_1, ai_2_2, ai_3_1, ai_4_1, ai_6_3, ai_6_4, ai_6_5, ai_6_6, ai_6_7, ai_6_8, ai_8_5, ai_8_6, ai_8_17, ai_8_21, ai_8_23, ai_8_24, ai_8_27, ai_8_28, ai_8_38, ai_8_39, ai_8_40, e_nil, nol_n, nol_I, nol_R, rsum_0, rsum_I, rsum_R, ps_s, ps_n, true_and, and_true, Nat.reduceAdd, Nat.reduceLeDiff, e5, e51, e52, e53, e54, v0, v1, v2, v3, v4, x0, x1, x2, x3, x4, un, s0, s1, s2, s3, s4]
  refine go_blk [(.putfield 105, 8, 8, 0)] (by decide +kernel) ?_
  simp only [e_pf_8_8, e_nil, nol_n, nol_I, nol_R, rsum_0, rsum_I, rsum_R, ps_s, ps_n, true_and, and_true, Nat.reduceAdd, Nat.reduceLeDiff, e5, e51, e52, e53, e54, v0, v1, v2, v3, v4, x0, x1, x2, x3, x4, un, s0, s1, s2, s3, s4]
  refine go_blk [(.aload_n 0, 0, 0, 0), (.aload_n 0, 0, 0, 0), (.getfield 33, 8, 23, 0), (.iconst 5, 0, 0, 0), (.iload_n 1, 0, 0, 0), (.imul, 0, 0, 0), (.iconst 3, 0, 0, 0), (.iadd, 0, 0, 0)] (by decide +kernel) ?_
  simp only [e_al_0, e_gf_8_23, e_ic_5, e_il_1, e_imul, e_ic_3, e_iadd, rd_8_23, e_nil, nol_n, nol_I, nol_R, rsum_0, rsum_I, rsum_R, ps_s, ps_n, true_and, and_true, Nat.reduceAdd, Nat.reduceLeDiff, e5, e51, e52, e53, e54, v0, v1, v2, v3, v4, x0, x1, x2, x3, x4, un, s0, s1, s2, s3, s4]
  refine go_blk [(.iaload, 0, 0, 0)] (by decide +kernel) ?_
  simp only [e_ia, ai_0_4, ai_1_7, ai_2_1, ai_2_2, ai_3_1, ai_4_1, ai_6_3, ai_6_4, ai_6_5, ai_6_6, ai_6_7, ai_6_8, ai_8_5, ai_8_6, ai_8_17, ai_8_21, ai_8_23, ai_8_24, ai_8_27, ai_8_28, ai_8_38, ai_8_39, ai_8_40, e_nil, nol_n, nol_I, nol_R, rsum_0, rsum_I, rsum_R, ps_s, ps_n, true_and, and_true, Nat.reduceAdd, Nat.reduceLeDiff, e5, e51, e52, e53, e54, v0, v1, v2, v3, v4, x0, x1, x2, x3, x4, un, s0, s1, s2, s3, s4]
  refine go_blk [(.putfield 83, 8, 9, 0)] (by decide +kernel) ?_
  simp only [e_pf_8_9, e_nil, nol_n, nol_I, nol_R, rsum_0, rsum_I, rsum_R, ps_s, ps_n, true_and, and_true, Nat.reduceAdd, Nat.reduceLeDiff, e5, e51, e52, e53, e54, v0, v1, v2, v3, v4, x0, x1, x2, x3, x4, un, s0, s1, s2, s3, s4]
  refine go_blk [(.aload_n 0, 0, 0, 0), (.aload_n 0, 0, 0, 0), (.getfield 33, 8, 23, 0), (.iconst 5, 0, 0, 0), (.iload_n 1, 0, 0, 0), (.imul, 0, 0, 0), (.iconst 4, 0, 0, 0), (.iadd, 0, 0, 0)] (by decide +kernel) ?_
  simp only [e_al_0, e_gf_8_23, e_ic_5, e_il_1, e_imul, e_ic_4, e_iadd, rd_8_23, e_nil, nol_n, nol_I, nol_R, rsum_0, rsum_I, rsum_R, ps_s, ps_n, true_and, and_true, Nat.reduceAdd, Nat.reduceLeDiff, e5, e51, e52, e53, e54, v0, v1, v2, v3, v4, x0, x1, x2, x3, x4, un, s0, s1, s2, s3, s4]
  refine go_blk [(.iaload, 0, 0, 0)] (by decide +kernel) ?_
  simp only [e_ia, ai_0_4, ai_1_7, ai_2_1, ai_2_2, ai_3_1, ai_4_1, ai_6_3, ai_6_4, ai_6_5, ai_6_6, ai_6_7, ai_6_8, ai_8_5, ai_8_6, ai_8_17, ai_8_21, ai_8_23, ai_8_24, ai_8_27, ai_8_28, ai_8_38, ai_8_39, ai_8_40, e_nil, nol_n, nol_I, nol_R, rsum_0, rsum_I, rsum_R, ps_s, ps_n, true_and, and_true, Nat.reduceAdd, Nat.reduceLeDiff, e5, e51, e52, e53, e54, v0, v1, v2, v3, v4, x0, x1, x2, x3, x4, un, s0, s1, s2, s3, s4]
  refine go_blk [(.putfield 86, 8, 10, 0)] (by decide +kernel) ?_
  simp only [e_pf_8_10, e_nil, nol_n, nol_I, nol_R, rsum_0, rsum_I, rsum_R, ps_s, ps_n, true_and, and_true, Nat.reduceAdd, Nat.reduceLeDiff, e5, e51, e52, e53, e54, v0, v1, v2, v3, v4, x0, x1, x2, x3, x4, un, s0, s1, s2, s3, s4]
  refine go_blk [(.return_, 0, 0, 0)] (by decide +kernel) ?_
  simp only [e_vret, e_nil, nol_n, nol_I, nol_R, rsum_0, rsum_I, rsum_R, ps_s, ps_n, true_and, and_true, Nat.reduceAdd, Nat.reduceLeDiff, e5, e51, e52, e53, e54, v0, v1, v2, v3, v4, x0, x1, x2, x3, x4, un, s0, s1, s2, s3, s4]
  have oO := offm_up (offm_up (offm_up (offm_up (offm_up (offm_rf μ) (j := 6) (by omega) (by omega) (nI (mSt t))) (j := 7) (by omega) (by omega) (nI (mSd t))) (j := 8) (by omega) (by omega) (nI (htF t (t 0 1)))) (j := 9) (by omega) (by omega) (nI (t 8 0))) (j := 10) (by omega) (by omega) (nI (t 8 1))
  refine h _ (mr_of oO hM h0 h35 ?_ ?_ ?_ ?_ ?_) oO
  · rw [up_ne (by omega), up_ne (by omega), up_ne (by omega), up_ne (by omega), up_self]
  · rw [up_ne (by omega), up_ne (by omega), up_ne (by omega), up_self]
  · rw [up_ne (by omega), up_ne (by omega), up_self, h0]
  · rw [up_ne (by omega), up_self]
  · rw [up_self]
theorem okm_ahead {l : Launch} {K : KK} {d : Nat} {μ : Mm} {P : Option AV → Mm → Prop} {op fs : Nat} {t : TS} (hI : TInv op t) (hM : MRep μ t) (hf2 : fs < 2) (h24 : μ 8 0 0 24 = nI fs) (hd1 : 1 ≤ d) (h : P (some (vI (nI (std t fs) - nI (std t (1 - fs))))) μ) : Ok l K d 150 [vR 8 0 0] μ P := by
  refine ok_go 3 (by decide +kernel) [some (vR 8 0 0), none, none] rfl (Nat.le_of_ble_eq_true rfl) ?_
  have m6 : μ 8 0 0 6 = nI (mSt t) := hM.2.1.1
  have m7 : μ 8 0 0 7 = nI (mSd t) := hM.2.1.2.1
  have l6 := mSt_lt hI.1
  have ea : nI (mSt t) &&& nI (mSd t) = nI (mS1 t) := by rw [nI_and, mS1_eq]
  have l1 : mS1 t < 2 ^ 6 := mskF_lt15 _ hI.1
  have es : nI (pop (mSt t)) - nI (std t 1) = nI (std t 0) := by rw [pop_St hI, pk_sub (by omega), show std t 0 + std t 1 - std t 1 = std t 0 by omega]
  have e27 : (nI fs = 0) = (fs = 0) := propext (nI_eq (b := 0) (by omega) (by omega))
  refine go_blk [(.aload_n 0, 0, 0, 0), (.getfield 99, 8, 6, 0), (.aload_n 0, 0, 0, 0), (.getfield 102, 8, 7, 0), (.iand, 0, 0, 0), (.invokestatic 117, 105, 1, 0)] (by decide +kernel) ?_
  simp only [e_al_0, e_gf_8_6, e_gf_8_7, e_iand, e_ivs_1, rd_8_6, rd_8_7, e_nil, Nat.reduceLT, nol_n, nol_I, nol_R, rsum_0, rsum_I, rsum_R, ps_s, ps_n, true_and, and_true, Nat.reduceAdd, Nat.reduceLeDiff, hd1, m6, m7, ea, es, h24, e27]
  refine okm_size (by omega) ?_
  rw [pop_S1 hI.1]
  refine go_blk [(.istore_n 1, 0, 0, 0), (.aload_n 0, 0, 0, 0), (.getfield 99, 8, 6, 0), (.invokestatic 117, 105, 1, 0)] (by decide +kernel) ?_
  simp only [e_is_1n, e_is_1I, e_is_1R, e_al_0, e_gf_8_6, e_ivs_1, rd_8_6, e_nil, Nat.reduceLT, nol_n, nol_I, nol_R, rsum_0, rsum_I, rsum_R, ps_s, ps_n, true_and, and_true, Nat.reduceAdd, Nat.reduceLeDiff, hd1, m6, m7, ea, es, h24, e27]
  refine okm_size (by omega) ?_
  refine go_blk [(.iload_n 1, 0, 0, 0), (.isub, 0, 0, 0), (.istore_n 2, 0, 0, 0), (.aload_n 0, 0, 0, 0), (.getfield 196, 8, 24, 0), (.ifCond .ne 9, 36, 0, 0)] (by decide +kernel) ?_
  simp only [e_il_1, e_isub, e_is_2n, e_is_2I, e_is_2R, e_al_0, e_gf_8_24, e_if_ne, rd_8_24, e_nil, nol_n, nol_I, nol_R, rsum_0, rsum_I, rsum_R, ps_s, ps_n, true_and, and_true, Nat.reduceAdd, Nat.reduceLeDiff, hd1, m6, m7, ea, es, h24, e27]
  refine ⟨fun c27 => ?_, fun c27 => ?_⟩
  · have f1 : fs = 1 := by omega
    subst f1
    refine go_blk [(.iload_n 1, 0, 0, 0), (.iload_n 2, 0, 0, 0), (.isub, 0, 0, 0), (.ireturn, 0, 0, 0)] (by decide +kernel) ?_
    simp only [e_il_1, e_il_2, e_isub, e_iret0, e_nil, nol_n, nol_I, nol_R, rsum_0, rsum_I, rsum_R, ps_s, ps_n, true_and, and_true, Nat.reduceAdd, Nat.reduceLeDiff, hd1, m6, m7, ea, es, h24, e27]
    exact h
  · subst c27
    refine go_blk [(.iload_n 2, 0, 0, 0), (.iload_n 1, 0, 0, 0), (.isub, 0, 0, 0), (.goto 6, 39, 0, 0), (.ireturn, 0, 0, 0)] (by decide +kernel) ?_
    simp only [e_il_2, e_il_1, e_isub, e_goto, e_iret0, e_nil, nol_n, nol_I, nol_R, rsum_0, rsum_I, rsum_R, ps_s, ps_n, true_and, and_true, Nat.reduceAdd, Nat.reduceLeDiff, hd1, m6, m7, ea, es, h24, e27]
    exact h
theorem okm_turn {l : Launch} {K : KK} {d : Nat} {μ : Mm} {P : Option AV → Mm → Prop} {op fs a u : Nat} {t : TS} (hI : TInv op t) (hM : MRep μ t) (ha : a < t 0 1) (hf2 : fs < 2) (hu : u < 3) (h24 : μ 8 0 0 24 = nI fs) (h : P (some (vI (bi (decide (t 4 a = (fs + u) % 2))))) μ) : Ok l K d 151 [vR 8 0 0, vI (nI a), vI (nI u)] μ P := by
  refine ok_go 3 (by decide +kernel) [some (vR 8 0 0), some (vI (nI a)), some (vI (nI u))] rfl (Nat.le_of_ble_eq_true rfl) ?_
  have hn := hI.1
  have ra := (hI.2.1 a ha).2.1
  have m7 : μ 8 0 0 7 = nI (mSd t) := hM.2.1.2.1
  have l7 := mSd_lt hn
  have e7 : (nI (mSd t) >>> (nI a &&& 31)) &&& 1 = nI (t 4 a) := by
    rw [nI_bitb (by omega) (by omega), mSd_bit ha]
    rcases (show t 4 a = 0 ∨ t 4 a = 1 by omega) with z | z <;> rw [z] <;> rfl
  have er : nI (fs + u) - nI (fs + u) / 2 * 2 = nI ((fs + u) % 2) := pk_rem (d := 2) (by omega) (by omega) (by omega)
  have n2 : ((2 : Int32) = 0) = False := by decide
  have e16 : (nI (t 4 a) = nI ((fs + u) % 2)) = (t 4 a = (fs + u) % 2) := propext (nI_eq (by omega) (by omega))
  refine go_blk [(.aload_n 0, 0, 0, 0), (.getfield 102, 8, 7, 0), (.iload_n 1, 0, 0, 0), (.ishr, 0, 0, 0), (.iconst 1, 0, 0, 0), (.iand, 0, 0, 0), (.aload_n 0, 0, 0, 0), (.getfield 196, 8, 24, 0), (.iload_n 2, 0, 0, 0), (.iadd, 0, 0, 0), (.iconst 2, 0, 0, 0), (.irem, 0, 0, 0), (.if_icmp .ne 7, 23, 0, 0)] (by decide +kernel) ?_
  simp only [e_al_0, e_gf_8_7, e_il_1, e_ishr, e_ic_1, e_iand, e_gf_8_24, e_il_2, e_iadd, e_ic_2, e_irem, e_icmp_ne, rd_8_7, rd_8_24, e_nil, nol_n, nol_I, nol_R, rsum_0, rsum_I, rsum_R, ps_s, ps_n, true_and, and_true, Nat.reduceAdd, Nat.reduceLeDiff, m7, h24, e7, nI_add, er, n2, e16, true_implies, false_implies, not_true_eq_false, not_false_eq_true]
  refine ⟨fun c16 => ?_, fun c16 => ?_⟩
  · rw [decide_eq_false c16] at h
    refine go_blk [(.iconst 0, 0, 0, 0), (.ireturn, 1, 0, 0)] (by decide +kernel) ?_
    simp only [e_ic_0, e_iret1, e_nil, nol_n, nol_I, nol_R, rsum_0, rsum_I, rsum_R, ps_s, ps_n, true_and, and_true, Nat.reduceAdd, Nat.reduceLeDiff, m7, h24, e7, nI_add, er, n2, e16, true_implies, false_implies, not_true_eq_false, not_false_eq_true]
    exact ⟨by decide, h⟩
  · rw [decide_eq_true c16] at h
    refine go_blk [(.iconst 1, 0, 0, 0), (.goto 4, 24, 0, 0), (.ireturn, 1, 0, 0)] (by decide +kernel) ?_
    simp only [e_ic_1, e_goto, e_iret1, e_nil, nol_n, nol_I, nol_R, rsum_0, rsum_I, rsum_R, ps_s, ps_n, true_and, and_true, Nat.reduceAdd, Nat.reduceLeDiff, m7, h24, e7, nI_add, er, n2, e16, true_implies, false_implies, not_true_eq_false, not_false_eq_true]
    exact ⟨by decide, h⟩
