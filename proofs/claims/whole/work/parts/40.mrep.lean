/-- a set of soldiers, as bits -/
def mskF (f : Nat → Bool) : Nat → Nat
  | 0 => 0
  | k + 1 => mskF f k ||| (if f k then 2 ^ k else 0)
theorem mskF_lt (f : Nat → Bool) : ∀ k, mskF f k < 2 ^ k
  | 0 => Nat.one_pos
  | k + 1 => by
    refine or_lt (Nat.lt_of_lt_of_le (mskF_lt f k) (Nat.pow_le_pow_right (by decide) (by omega))) ?_
    split
    · exact Nat.pow_lt_pow_right (by decide) (by omega)
    · exact Nat.two_pow_pos _
theorem mskF_bit (f : Nat → Bool) : ∀ k j, (mskF f k).testBit j = (decide (j < k) && f j)
  | 0, j => by simp [mskF]
  | k + 1, j => by
    have ih := mskF_bit f k j
    show (mskF f k ||| (if f k then 2 ^ k else 0)).testBit j = _
    rw [Nat.testBit_or, ih]
    by_cases h : j = k
    · subst h
      cases hf : f j <;> simp [Nat.testBit_two_pow]
    · have h2 : (if f k = true then 2 ^ k else 0).testBit j = false := by
        split
        · rw [Nat.testBit_two_pow]; simpa using fun e => h e.symm
        · exact Nat.zero_testBit j
      rw [h2, Bool.or_false]
      by_cases h3 : j < k
      · have h4 : j < k + 1 := by omega
        simp [h3, h4]
      · have h4 : ¬ j < k + 1 := by omega
        simp [h3, h4]
theorem mskF_eq {f g : Nat → Bool} {k : Nat} (h : ∀ j, j < k → f j = g j) : mskF f k = mskF g k := by
  apply Nat.eq_of_testBit_eq
  intro j
  rw [mskF_bit, mskF_bit]
  by_cases hj : j < k
  · rw [h j hj]
  · simp [hj]
theorem mskF_lt15 (f : Nat → Bool) {k : Nat} (h : k ≤ 6) : mskF f k < 2 ^ 6 := Nat.lt_of_lt_of_le (mskF_lt f k) (Nat.pow_le_pow_right (by decide) h)
/-- how often each was hit, two bits each -/
def htF (t : TS) : Nat → Nat
  | 0 => 0
  | k + 1 => htF t k + t 6 k * 4 ^ k
theorem htF_lt (t : TS) : ∀ k, (∀ j, j < k → t 6 j < 4) → htF t k < 4 ^ k
  | 0, _ => Nat.one_pos
  | k + 1, h => by
    have ih := htF_lt t k (fun j hj => h j (by omega))
    have h2 := h k (by omega)
    have h3 : t 6 k * 4 ^ k ≤ 3 * 4 ^ k := Nat.mul_le_mul_right _ (by omega)
    show htF t k + t 6 k * 4 ^ k < 4 ^ (k + 1)
    rw [Nat.pow_succ]
    omega
theorem htF_eq {t t' : TS} : ∀ k, (∀ j, j < k → t' 6 j = t 6 j) → htF t' k = htF t k
  | 0, _ => rfl
  | k + 1, h => by
    show htF t' k + t' 6 k * 4 ^ k = htF t k + t 6 k * 4 ^ k
    rw [htF_eq k (fun j hj => h j (by omega)), h k (by omega)]
theorem htF_at (t : TS) : ∀ k, (∀ j, j < k → t 6 j < 4) → ∀ j, j < k → htF t k / 4 ^ j % 4 = t 6 j
  | 0, _, j, hj => by omega
  | k + 1, h, j, hj => by
    have hl := htF_lt t k (fun j hj => h j (by omega))
    have h2 := h k (by omega)
    show (htF t k + t 6 k * 4 ^ k) / 4 ^ j % 4 = t 6 j
    by_cases e : j = k
    · subst e
      rw [Nat.add_mul_div_right _ _ (Nat.pow_pos (by decide)), Nat.div_eq_of_lt hl, Nat.zero_add]
      exact Nat.mod_eq_of_lt h2
    · have e2 : (4 : Nat) ^ k = 4 ^ (k - j - 1) * 4 * 4 ^ j := by
        rw [← Nat.pow_succ, ← Nat.pow_add]
        congr 1
        omega
      rw [e2, ← Nat.mul_assoc, Nat.add_mul_div_right _ _ (Nat.pow_pos (by decide)), ← Nat.mul_assoc, Nat.add_mul_mod_self_right]
      exact htF_at t k (fun j hj => h j (by omega)) j (by omega)
theorem htF_inc {t t' : TS} {b : Nat} (hb : t' 6 b = t 6 b + 1) (ho : ∀ j, j ≠ b → t' 6 j = t 6 j) : ∀ k, b < k → htF t' k = htF t k + 4 ^ b
  | 0, h => by omega
  | k + 1, h => by
    show htF t' k + t' 6 k * 4 ^ k = htF t k + t 6 k * 4 ^ k + 4 ^ b
    by_cases e : b = k
    · subst e
      rw [htF_eq b (fun j hj => ho j (by omega)), hb, Nat.add_mul]
      omega
    · rw [htF_inc hb ho k (by omega), ho k (by omega)]
      omega
theorem nI_andn (m o : Nat) : nI m &&& (nI o ^^^ (-1)) = nI (m ^^^ (m &&& o)) := by
  rw [← nI_xor, ← nI_and]
  generalize nI m = x
  generalize nI o = y
  apply Int32.toBitVec_inj.mp
  rw [Int32.toBitVec_and, Int32.toBitVec_xor, Int32.toBitVec_xor, Int32.toBitVec_and]
  have e : (-1 : Int32).toBitVec = BitVec.allOnes 32 := by decide
  rw [e]
  generalize x.toBitVec = u
  generalize y.toBitVec = v
  apply BitVec.eq_of_getLsbD_eq
  intro i hi
  simp only [BitVec.getLsbD_and, BitVec.getLsbD_xor, BitVec.getLsbD_allOnes, hi, decide_true]
  cases u.getLsbD i <;> cases v.getLsbD i <;> rfl
/-- the soldiers, as the other class keeps them -/
def MRep (μ : Mm) (t : TS) : Prop := (μ 8 0 0 3 = nI (t 0 1) ∧ (∀ j, j < t 0 1 → μ 8 0 5 j = nI (t 3 j)) ∧ ∀ j, j < t 0 1 → μ 8 0 6 j = nI (t 5 j)) ∧ (μ 8 0 0 6 = nI (mskF (stn t) (t 0 1)) ∧ μ 8 0 0 7 = nI (mskF (fun j => t 4 j == 1) (t 0 1)) ∧ μ 8 0 0 8 = nI (htF t (t 0 1))) ∧ μ 8 0 0 9 = nI (t 8 0) ∧ μ 8 0 0 10 = nI (t 8 1)
def mSt (t : TS) : Nat := mskF (stn t) (t 0 1)
def mSd (t : TS) : Nat := mskF (fun j => t 4 j == 1) (t 0 1)
theorem mSt_lt {t : TS} (h : t 0 1 ≤ 6) : mSt t < 2 ^ 6 := mskF_lt15 _ h
theorem mSd_lt {t : TS} (h : t 0 1 ≤ 6) : mSd t < 2 ^ 6 := mskF_lt15 _ h
theorem mSt_bit {t : TS} {j : Nat} (h : j < t 0 1) : (mSt t).testBit j = stn t j := by
  unfold mSt; rw [mskF_bit]; simp [h]
theorem mSd_bit {t : TS} {j : Nat} (h : j < t 0 1) : (mSd t).testBit j = (t 4 j == 1) := by
  unfold mSd; rw [mskF_bit]; simp [h]
def lwF (t : TS) (c : Nat) : Nat → Nat → Nat → Nat
  | 0, _, w => w
  | k + 1, j, w => lwF t c k (j + 1) (if t 5 j = c then j else w)
theorem lwF_sp (t : TS) (c : Nat) : ∀ k j w, (lwF t c k j w = w ∧ ∀ i, j ≤ i → i < j + k → t 5 i ≠ c) ∨ (j ≤ lwF t c k j w ∧ lwF t c k j w < j + k ∧ t 5 (lwF t c k j w) = c)
  | 0, j, w => Or.inl ⟨rfl, fun i h1 h2 => by omega⟩
  | k + 1, j, w => by
    unfold lwF
    by_cases h : t 5 j = c
    · rw [if_pos h]
      rcases lwF_sp t c k (j + 1) j with ⟨e, -⟩ | ⟨e1, e2, e3⟩
      · rw [e]; exact Or.inr ⟨by omega, by omega, h⟩
      · exact Or.inr ⟨by omega, by omega, e3⟩
    · rw [if_neg h]
      rcases lwF_sp t c k (j + 1) w with ⟨e, f⟩ | ⟨e1, e2, e3⟩
      · refine Or.inl ⟨e, fun i h1 h2 => ?_⟩
        by_cases hi : i = j
        · subst hi; exact h
        · exact f i (by omega) (by omega)
      · exact Or.inr ⟨by omega, by omega, e3⟩
theorem lwF_who {op : Nat} {t : TS} (hI : TInv op t) (c : Nat) : lwF t c (t 0 1) 0 99 = whoN t c := by
  rcases lwF_sp t c (t 0 1) 0 99 with ⟨e, f⟩ | ⟨-, e2, e3⟩ <;> rcases whoN_sp hI.1 c with ⟨g, k⟩ | ⟨g1, g2⟩
  · rw [e, g]
  · exact absurd g2 (f _ (by omega) (by omega))
  · exact absurd e3 (k _ (by omega))
  · exact hI.2.2.2 _ _ (by omega) g1 (e3.trans g2.symm)
theorem lp_mwho {l : Launch} {K : KK} {d : Nat} {μ : Mm} {P : Option AV → Mm → Prop} {op c : Nat} {t : TS} (hI : TInv op t) (hc : c < 15) (hn : μ 8 0 0 3 = nI (t 0 1)) (h6 : ∀ j, j < t 0 1 → μ 8 0 6 j = nI (t 5 j)) (h : P (some (vI (eN (lwF t c (t 0 1) 0 99)))) μ) : ∀ (r j w : Nat), j + r = t 0 1 → lwF t c r j w = lwF t c (t 0 1) 0 99 → Go l K d 123 4 [some (vR 8 0 0), some (vI (nI c)), some (vI (eN w)), some (vI (nI j))] [] μ P := by
  have hn6 := hI.1
  intro r
  induction r with
  | zero =>
    intro j w hj he
    refine go_blk [(.iload_n 3, 0, 0, 0), (.aload_n 0, 0, 0, 0), (.getfield 96, 8, 3, 0), (.if_icmp .ge 25, 34, 0, 0)] (by decide +kernel) ?_
    simp only [e_il_3, e_al_0, e_gf_8_3, e_icmp_ge, rd_8_3, e_nil, nol_n, nol_I, nol_R, rsum_0, rsum_I, rsum_R, ps_s, ps_n, true_and, and_true, Nat.reduceAdd, Nat.reduceLeDiff, hn]
    refine ⟨fun c9 => ?_, fun c9 => ?_⟩
    · refine go_blk [(.iload_n 2, 0, 0, 0), (.ireturn, 0, 0, 0)] (by decide +kernel) ?_
      simp only [e_il_2, e_iret0, e_nil, nol_n, nol_I, nol_R, rsum_0, rsum_I, rsum_R, ps_s, ps_n, true_and, and_true, Nat.reduceAdd, Nat.reduceLeDiff, hn]
      rw [← he] at h
      exact h
    · exact absurd (nI_le (by omega) (by omega)) c9
  | succ r ih =>
    intro j w hj he
    have hv : vp_in (nI j) 6 := vin (by omega) (by omega)
    have hx : ix (nI j) = j := nI_ix (by omega)
    have a5 := h6 j (by omega)
    have b5 := (hI.2.1 j (by omega)).2.2.1
    have e19 : (nI (t 5 j) = nI c) = (t 5 j = c) := propext (nI_eq (by omega) (by omega))
    have u : lwF t c (r + 1) j w = lwF t c r (j + 1) (if t 5 j = c then j else w) := rfl
    rw [u] at he
    have ej : nI j = eN j := by unfold eN; rw [if_neg (by omega)]
    refine go_blk [(.iload_n 3, 0, 0, 0), (.aload_n 0, 0, 0, 0), (.getfield 96, 8, 3, 0), (.if_icmp .ge 25, 34, 0, 0)] (by decide +kernel) ?_
    simp only [e_il_3, e_al_0, e_gf_8_3, e_icmp_ge, rd_8_3, e_nil, nol_n, nol_I, nol_R, rsum_0, rsum_I, rsum_R, ps_s, ps_n, true_and, and_true, Nat.reduceAdd, Nat.reduceLeDiff, hn, hv, hx, a5, e19]
    refine ⟨fun c9 => ?_, fun c9 => ?_⟩
    · exact absurd c9 (nI_ge (by omega) (by omega))
    · refine go_blk [(.aload_n 0, 0, 0, 0), (.getfield 13, 8, 5, 0), (.iload_n 3, 0, 0, 0), (.iaload, 0, 0, 0), (.iload_n 1, 0, 0, 0), (.if_icmp .ne 7, 26, 0, 0)] (by decide +kernel) ?_
      simp only [e_al_0, e_gf_8_5, e_il_3, e_ia, e_il_1, e_icmp_ne, rd_8_5, ai_0_4, ai_1_7, ai_2_1, ai_2_2, ai_3_1, ai_4_1, ai_6_3, ai_6_4, ai_6_5, ai_6_6, ai_6_7, ai_6_8, ai_8_5, ai_8_6, ai_8_17, ai_8_21, ai_8_23, ai_8_24, ai_8_27, ai_8_28, ai_8_38, ai_8_39, ai_8_40, e_nil, nol_n, nol_I, nol_R, rsum_0, rsum_I, rsum_R, ps_s, ps_n, true_and, and_true, Nat.reduceAdd, Nat.reduceLeDiff, hn, hv, hx, a5, e19]
      refine ⟨fun c19 => ?_, fun c19 => ?_⟩
      · rw [if_neg c19] at he
        refine go_blk [(.iload_n 2, 0, 0, 0), (.istore_n 2, 0, 0, 0), (.iinc 3 1, 0, 0, 0), (.goto (-27), 4, 0, 0)] (by decide +kernel) ?_
        simp only [e_il_2, e_is_2n, e_is_2I, e_is_2R, e_inc_3_1n, e_inc_3_1I, e_inc_3_1R, e_goto, e_nil, nol_n, nol_I, nol_R, rsum_0, rsum_I, rsum_R, ps_s, ps_n, true_and, and_true, Nat.reduceAdd, Nat.reduceLeDiff, hn, hv, hx, a5, e19]
        rw [nI_1]
        exact ih (j + 1) w (by omega) he
      · rw [if_pos c19] at he
        refine go_blk [(.iload_n 3, 0, 0, 0), (.goto 4, 27, 0, 0), (.istore_n 2, 0, 0, 0), (.iinc 3 1, 0, 0, 0), (.goto (-27), 4, 0, 0)] (by decide +kernel) ?_
        simp only [e_il_3, e_goto, e_is_2n, e_is_2I, e_is_2R, e_inc_3_1n, e_inc_3_1I, e_inc_3_1R, e_nil, nol_n, nol_I, nol_R, rsum_0, rsum_I, rsum_R, ps_s, ps_n, true_and, and_true, Nat.reduceAdd, Nat.reduceLeDiff, hn, hv, hx, a5, e19]
        rw [nI_1, ej]
        have z := ih (j + 1) j (by omega) he
        exact z
theorem okm_who {l : Launch} {K : KK} {d : Nat} {μ : Mm} {P : Option AV → Mm → Prop} {op c : Nat} {t : TS} (hI : TInv op t) (hM : MRep μ t) (hc : c < 15) (h : P (some (vI (eN (whoN t c)))) μ) : Ok l K d 123 [vR 8 0 0, vI (nI c)] μ P := by
  refine ok_go 4 (by decide +kernel) [some (vR 8 0 0), some (vI (nI c)), none, none] rfl (Nat.le_of_ble_eq_true rfl) ?_
  rw [← lwF_who hI c] at h
  refine go_blk [(.iconst (-1), 0, 0, 0), (.istore_n 2, 0, 0, 0), (.iconst 0, 0, 0, 0), (.istore_n 3, 0, 0, 0)] (by decide +kernel) ?_
  simp only [e_ic_m1, e_is_2n, e_is_2I, e_is_2R, e_ic_0, e_is_3n, e_is_3I, e_is_3R, e_nil, nol_n, nol_I, nol_R, rsum_0, rsum_I, rsum_R, ps_s, ps_n, true_and, and_true, Nat.reduceAdd, Nat.reduceLeDiff]
  exact lp_mwho hI hc hM.1.1 hM.1.2.2 h (t 0 1) 0 99 (by omega) rfl
