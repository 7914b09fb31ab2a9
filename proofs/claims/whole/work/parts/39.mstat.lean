theorem okm_within {l : Launch} {K : KK} {d : Nat} {μ : Mm} {P : Option AV → Mm → Prop} {x a b : Int32} (h : P (some (vI (bi (!decide (x < a) && !decide (b < x))))) μ) : Ok l K d 103 [vI x, vI a, vI b] μ P := by
  refine ok_go 3 (by decide +kernel) [some (vI x), some (vI a), some (vI b)] rfl (Nat.le_of_ble_eq_true rfl) ?_
  refine go_blk [(.iload_n 0, 0, 0, 0), (.iload_n 1, 0, 0, 0), (.if_icmp .lt 12, 14, 0, 0)] (by decide +kernel) ?_
  simp only [e_il_0, e_il_1, e_icmp_lt, e_nil, nol_n, nol_I, nol_R, rsum_0, rsum_I, rsum_R, ps_s, ps_n, true_and, and_true, Nat.reduceAdd, Nat.reduceLeDiff]
  refine ⟨fun c2 => ?_, fun c2 => ?_⟩
  · refine go_blk [(.iconst 0, 0, 0, 0), (.ireturn, 1, 0, 0)] (by decide +kernel) ?_
    simp only [e_ic_0, e_iret1, e_nil, nol_n, nol_I, nol_R, rsum_0, rsum_I, rsum_R, ps_s, ps_n, true_and, and_true, Nat.reduceAdd, Nat.reduceLeDiff]
    refine ⟨by decide, ?_⟩
    simp_all [bi]
  · refine go_blk [(.iload_n 0, 0, 0, 0), (.iload_n 2, 0, 0, 0), (.if_icmp .gt 7, 14, 0, 0)] (by decide +kernel) ?_
    simp only [e_il_0, e_il_2, e_icmp_gt, e_nil, nol_n, nol_I, nol_R, rsum_0, rsum_I, rsum_R, ps_s, ps_n, true_and, and_true, Nat.reduceAdd, Nat.reduceLeDiff]
    refine ⟨fun c7 => ?_, fun c7 => ?_⟩
    · refine go_blk [(.iconst 0, 0, 0, 0), (.ireturn, 1, 0, 0)] (by decide +kernel) ?_
      simp only [e_ic_0, e_iret1, e_nil, nol_n, nol_I, nol_R, rsum_0, rsum_I, rsum_R, ps_s, ps_n, true_and, and_true, Nat.reduceAdd, Nat.reduceLeDiff]
      refine ⟨by decide, ?_⟩
      simp_all [bi]
    · refine go_blk [(.iconst 1, 0, 0, 0), (.goto 4, 15, 0, 0), (.ireturn, 1, 0, 0)] (by decide +kernel) ?_
      simp only [e_ic_1, e_goto, e_iret1, e_nil, nol_n, nol_I, nol_R, rsum_0, rsum_I, rsum_R, ps_s, ps_n, true_and, and_true, Nat.reduceAdd, Nat.reduceLeDiff]
      refine ⟨by decide, ?_⟩
      simp_all [bi]
theorem okm_has {l : Launch} {K : KK} {d : Nat} {μ : Mm} {P : Option AV → Mm → Prop} {m c : Nat} (hm : m < 2 ^ 31) (hc : c < 32) (h : P (some (vI (bi (m.testBit c)))) μ) : Ok l K d 104 [vI (nI m), vI (nI c)] μ P := by
  refine ok_go 2 (by decide +kernel) [some (vI (nI m)), some (vI (nI c))] rfl (Nat.le_of_ble_eq_true rfl) ?_
  have eb := nI_bit1 hm hc
  refine go_blk [(.iload_n 0, 0, 0, 0), (.iload_n 1, 0, 0, 0), (.ishr, 0, 0, 0), (.iconst 1, 0, 0, 0), (.iand, 0, 0, 0), (.iconst 1, 0, 0, 0), (.if_icmp .ne 7, 13, 0, 0)] (by decide +kernel) ?_
  simp only [e_il_0, e_il_1, e_ishr, e_ic_1, e_iand, e_icmp_ne, e_nil, nol_n, nol_I, nol_R, rsum_0, rsum_I, rsum_R, ps_s, ps_n, true_and, and_true, Nat.reduceAdd, Nat.reduceLeDiff, eb, Classical.not_not]
  refine ⟨fun c6 => ?_, fun c6 => ?_⟩
  · refine go_blk [(.iconst 0, 0, 0, 0), (.ireturn, 1, 0, 0)] (by decide +kernel) ?_
    simp only [e_ic_0, e_iret1, e_nil, nol_n, nol_I, nol_R, rsum_0, rsum_I, rsum_R, ps_s, ps_n, true_and, and_true, Nat.reduceAdd, Nat.reduceLeDiff, eb, Classical.not_not]
    refine ⟨by decide, ?_⟩
    simp_all [bi]
  · refine go_blk [(.iconst 1, 0, 0, 0), (.goto 4, 14, 0, 0), (.ireturn, 1, 0, 0)] (by decide +kernel) ?_
    simp only [e_ic_1, e_goto, e_iret1, e_nil, nol_n, nol_I, nol_R, rsum_0, rsum_I, rsum_R, ps_s, ps_n, true_and, and_true, Nat.reduceAdd, Nat.reduceLeDiff, eb, Classical.not_not]
    refine ⟨by decide, ?_⟩
    simp_all [bi]
theorem pop_low : ∀ k m, m < 2 ^ k → m ≠ 0 → popF k (m &&& (m - 1)) + 1 = popF k m
  | 0, m, h, h0 => by omega
  | k + 1, m, h, h0 => by
    obtain ⟨q, a, ha, rfl⟩ := half m
    have hq : q < 2 ^ k := by rw [Nat.pow_succ] at h; omega
    rcases (show a = 0 ∨ a = 1 by omega) with rfl | rfl
    · have q0 : q ≠ 0 := by omega
      have ih := pop_low k q hq q0
      have e : 2 * q + 0 - 1 = 2 * (q - 1) + 1 := by omega
      rw [e, and2 (by omega) (by omega)]
      simp only [popF]
      rw [show (2 * (q &&& (q - 1)) + 0 * 1) % 2 = 0 by omega, show (2 * (q &&& (q - 1)) + 0 * 1) / 2 = q &&& (q - 1) by omega, show (2 * q + 0) % 2 = 0 by omega, show (2 * q + 0) / 2 = q by omega]
      omega
    · have e : 2 * q + 1 - 1 = 2 * q + 0 := by omega
      rw [e, and2 (by omega) (by omega), Nat.and_self]
      simp only [popF]
      rw [show (2 * q + 1 * 0) % 2 = 0 by omega, show (2 * q + 1 * 0) / 2 = q by omega, show (2 * q + 1) % 2 = 1 by omega, show (2 * q + 1) / 2 = q by omega]
      omega
theorem pop_0 : ∀ k m, m < 2 ^ k → popF k m = 0 → m = 0
  | 0, m, h, _ => by omega
  | k + 1, m, h, h0 => by
    simp only [popF] at h0
    have := pop_0 k (m / 2) (by rw [Nat.pow_succ] at h; omega) (by omega)
    omega
theorem sub1I {m : Nat} (h : m ≠ 0) : nI m - 1 = nI (m - 1) := sub1 (by omega)
theorem lp_size {l : Launch} {K : KK} {d : Nat} {μ : Mm} {P : Option AV → Mm → Prop} {x0 : Int32} : ∀ (r m n : Nat), pop m = r → m < 2 ^ 15 → P (some (vI (nI (n + r)))) μ → Go l K d 105 4 [some (vI x0), some (vI (nI n)), some (vI (nI m))] [] μ P := by
  intro r
  induction r with
  | zero =>
    intro m n hr hm h
    have m0 := pop_0 15 m hm hr
    subst m0
    have q5 : (nI 0 = 0) = True := eq_true rfl
    refine go_blk [(.iload_n 2, 0, 0, 0), (.ifCond .eq 15, 20, 0, 0)] (by decide +kernel) ?_
    simp only [e_il_2, e_if_eq, e_nil, nol_n, nol_I, nol_R, rsum_0, rsum_I, rsum_R, ps_s, ps_n, true_and, and_true, Nat.reduceAdd, Nat.reduceLeDiff, q5, true_implies, false_implies, not_true_eq_false, not_false_eq_true]
    refine go_blk [(.iload_n 1, 0, 0, 0), (.ireturn, 0, 0, 0)] (by decide +kernel) ?_
    simp only [e_il_1, e_iret0, e_nil, nol_n, nol_I, nol_R, rsum_0, rsum_I, rsum_R, ps_s, ps_n, true_and, and_true, Nat.reduceAdd, Nat.reduceLeDiff, q5, true_implies, false_implies, not_true_eq_false, not_false_eq_true]
    exact h
  | succ r ih =>
    intro m n hr hm h
    have m0 : m ≠ 0 := by
      intro z
      subst z
      cases hr
    have q5 : (nI m = 0) = False := eq_false (nI_ne0 (by omega) (by omega))
    have e1 := sub1I m0
    have e2 := nI_and m (m - 1)
    have hl := pop_low 15 m hm m0
    have hlt : m &&& (m - 1) < 2 ^ 15 := Nat.lt_of_le_of_lt Nat.and_le_left hm
    refine go_blk [(.iload_n 2, 0, 0, 0), (.ifCond .eq 15, 20, 0, 0)] (by decide +kernel) ?_
    simp only [e_il_2, e_if_eq, e_nil, nol_n, nol_I, nol_R, rsum_0, rsum_I, rsum_R, ps_s, ps_n, true_and, and_true, Nat.reduceAdd, Nat.reduceLeDiff, q5, e1, e2, true_implies, false_implies, not_true_eq_false, not_false_eq_true]
    refine go_blk [(.iinc 1 1, 0, 0, 0), (.iload_n 2, 0, 0, 0), (.iload_n 2, 0, 0, 0), (.iconst 1, 0, 0, 0), (.isub, 0, 0, 0), (.iand, 0, 0, 0), (.istore_n 2, 0, 0, 0), (.goto (-13), 4, 0, 0)] (by decide +kernel) ?_
    simp only [e_inc_1_1n, e_inc_1_1I, e_inc_1_1R, e_il_2, e_ic_1, e_isub, e_iand, e_is_2n, e_is_2I, e_is_2R, e_goto, e_nil, nol_n, nol_I, nol_R, rsum_0, rsum_I, rsum_R, ps_s, ps_n, true_and, and_true, Nat.reduceAdd, Nat.reduceLeDiff, q5, e1, e2, true_implies, false_implies, not_true_eq_false, not_false_eq_true]
    rw [nI_1]
    refine ih (m &&& (m - 1)) (n + 1) ?_ hlt ?_
    · unfold pop at hr ⊢; omega
    · rw [show n + 1 + r = n + (r + 1) by omega]; exact h
theorem okm_size {l : Launch} {K : KK} {d : Nat} {μ : Mm} {P : Option AV → Mm → Prop} {m : Nat} (hm : m < 2 ^ 15) (h : P (some (vI (nI (pop m)))) μ) : Ok l K d 105 [vI (nI m)] μ P := by
  refine ok_go 3 (by decide +kernel) [some (vI (nI m)), none, none] rfl (Nat.le_of_ble_eq_true rfl) ?_
  refine go_blk [(.iconst 0, 0, 0, 0), (.istore_n 1, 0, 0, 0), (.iload_n 0, 0, 0, 0), (.istore_n 2, 0, 0, 0)] (by decide +kernel) ?_
  simp only [e_ic_0, e_is_1n, e_is_1I, e_is_1R, e_il_0, e_is_2n, e_is_2I, e_is_2R, e_nil, nol_n, nol_I, nol_R, rsum_0, rsum_I, rsum_R, ps_s, ps_n, true_and, and_true, Nat.reduceAdd, Nat.reduceLeDiff]
  exact lp_size (pop m) m 0 rfl hm (by rw [Nat.zero_add]; exact h)
theorem okm_rowOf {l : Launch} {K : KK} {d : Nat} {μ : Mm} {P : Option AV → Mm → Prop} {x : Int32} (h : P (some (vI (rwI x))) μ) : Ok l K d 117 [vI x] μ P := by
  refine ok_go 1 (by decide +kernel) [some (vI x)] rfl (Nat.le_of_ble_eq_true rfl) ?_
  refine go_blk [(.iload_n 0, 0, 0, 0), (.iconst 5, 0, 0, 0), (.idiv, 0, 0, 0), (.ireturn, 0, 0, 0)] (by decide +kernel) ?_
  simp only [e_il_0, e_ic_5, e_idiv, e_iret0, e_nil, nol_n, nol_I, nol_R, rsum_0, rsum_I, rsum_R, ps_s, ps_n, true_and, and_true, Nat.reduceAdd, Nat.reduceLeDiff]
  exact ⟨by decide, h⟩
theorem okm_columnOf {l : Launch} {K : KK} {d : Nat} {μ : Mm} {P : Option AV → Mm → Prop} {x : Int32} (h : P (some (vI (clI x))) μ) : Ok l K d 118 [vI x] μ P := by
  refine ok_go 1 (by decide +kernel) [some (vI x)] rfl (Nat.le_of_ble_eq_true rfl) ?_
  refine go_blk [(.iload_n 0, 0, 0, 0), (.iconst 5, 0, 0, 0), (.irem, 0, 0, 0), (.ireturn, 0, 0, 0)] (by decide +kernel) ?_
  simp only [e_il_0, e_ic_5, e_irem, e_iret0, e_nil, nol_n, nol_I, nol_R, rsum_0, rsum_I, rsum_R, ps_s, ps_n, true_and, and_true, Nat.reduceAdd, Nat.reduceLeDiff]
  exact ⟨by decide, h⟩
theorem sgM (x : Int32) : sg x = if x ≤ 0 then (if 0 ≤ x then 0 else -1) else 1 := by
  unfold sg
  have z : (0 : Int32).toInt = 0 := rfl
  by_cases h0 : x = 0
  · subst h0; decide
  · have h1 : x.toInt ≠ 0 := fun e => h0 (Int32.toInt_inj.mp (e.trans z.symm))
    by_cases h2 : (0 : Int32) ≤ x
    · have h3 : ¬ x ≤ 0 := by
        rw [Int32.le_iff_toInt_le, z] at h2 ⊢
        omega
      simp [h0, h2, h3]
    · have h3 : x ≤ 0 := by
        rw [Int32.le_iff_toInt_le, z] at h2 ⊢
        omega
      simp [h0, h2, h3]
theorem okm_sign {l : Launch} {K : KK} {d : Nat} {μ : Mm} {P : Option AV → Mm → Prop} {x : Int32} (h : P (some (vI (sg x))) μ) : Ok l K d 119 [vI x] μ P := by
  refine ok_go 1 (by decide +kernel) [some (vI x)] rfl (Nat.le_of_ble_eq_true rfl) ?_
  rw [sgM] at h
  refine go_blk [(.iload_n 0, 0, 0, 0), (.ifCond .le 7, 8, 0, 0)] (by decide +kernel) ?_
  simp only [e_il_0, e_if_le, e_nil, nol_n, nol_I, nol_R, rsum_0, rsum_I, rsum_R, ps_s, ps_n, true_and, and_true, Nat.reduceAdd, Nat.reduceLeDiff]
  refine ⟨fun c1 => ?_, fun c1 => ?_⟩
  · refine go_blk [(.iload_n 0, 0, 0, 0), (.ifCond .ge 7, 16, 0, 0)] (by decide +kernel) ?_
    simp only [e_il_0, e_if_ge, e_nil, nol_n, nol_I, nol_R, rsum_0, rsum_I, rsum_R, ps_s, ps_n, true_and, and_true, Nat.reduceAdd, Nat.reduceLeDiff]
    refine ⟨fun c9 => ?_, fun c9 => ?_⟩
    · refine go_blk [(.iconst 0, 0, 0, 0), (.ireturn, 0, 0, 0)] (by decide +kernel) ?_
      simp only [e_ic_0, e_iret0, e_nil, nol_n, nol_I, nol_R, rsum_0, rsum_I, rsum_R, ps_s, ps_n, true_and, and_true, Nat.reduceAdd, Nat.reduceLeDiff]
      simp_all
    · refine go_blk [(.iconst (-1), 0, 0, 0), (.goto 4, 17, 0, 0), (.ireturn, 0, 0, 0)] (by decide +kernel) ?_
      simp only [e_ic_m1, e_goto, e_iret0, e_nil, nol_n, nol_I, nol_R, rsum_0, rsum_I, rsum_R, ps_s, ps_n, true_and, and_true, Nat.reduceAdd, Nat.reduceLeDiff]
      simp_all
  · refine go_blk [(.iconst 1, 0, 0, 0), (.goto 12, 17, 0, 0), (.ireturn, 0, 0, 0)] (by decide +kernel) ?_
    simp only [e_ic_1, e_goto, e_iret0, e_nil, nol_n, nol_I, nol_R, rsum_0, rsum_I, rsum_R, ps_s, ps_n, true_and, and_true, Nat.reduceAdd, Nat.reduceLeDiff]
    simp_all
theorem okm_plain {l : Launch} {K : KK} {d : Nat} {μ : Mm} {P : Option AV → Mm → Prop} {x : Int32} (h : P (some (vI (abI x))) μ) : Ok l K d 120 [vI x] μ P := by
  refine ok_go 1 (by decide +kernel) [some (vI x)] rfl (Nat.le_of_ble_eq_true rfl) ?_
  refine go_blk [(.iload_n 0, 0, 0, 0), (.ifCond .ge 8, 9, 0, 0)] (by decide +kernel) ?_
  simp only [e_il_0, e_if_ge, e_nil, nol_n, nol_I, nol_R, rsum_0, rsum_I, rsum_R, ps_s, ps_n, true_and, and_true, Nat.reduceAdd, Nat.reduceLeDiff]
  refine ⟨fun c1 => ?_, fun c1 => ?_⟩
  · refine go_blk [(.iload_n 0, 0, 0, 0), (.ireturn, 0, 0, 0)] (by decide +kernel) ?_
    simp only [e_il_0, e_iret0, e_nil, nol_n, nol_I, nol_R, rsum_0, rsum_I, rsum_R, ps_s, ps_n, true_and, and_true, Nat.reduceAdd, Nat.reduceLeDiff]
    unfold abI at h
    simp_all [Int32.zero_sub]
  · refine go_blk [(.iload_n 0, 0, 0, 0), (.ineg, 0, 0, 0), (.goto 4, 10, 0, 0), (.ireturn, 0, 0, 0)] (by decide +kernel) ?_
    simp only [e_il_0, e_ineg, e_goto, e_iret0, e_nil, nol_n, nol_I, nol_R, rsum_0, rsum_I, rsum_R, ps_s, ps_n, true_and, and_true, Nat.reduceAdd, Nat.reduceLeDiff]
    unfold abI at h
    simp_all [Int32.zero_sub]
/-- the distance along a line; 0: none -/
def dsM (a b : Nat) : Nat := if lne a b then dst a b else 0
def dmE (D R : Int32) : Int32 := if D = 0 then R else if R = 0 ∨ R = D then D else 0
theorem g_dsm : ∀ a, a < 15 → ∀ b, b < 15 → dmE (abI (dnI a b)) (abI (rtI a b)) = nI (dsM a b) ∧ dsM a b < 5 := by decide +kernel
theorem okm_distance {l : Launch} {K : KK} {d : Nat} {μ : Mm} {P : Option AV → Mm → Prop} {a b : Nat} (ha : a < 15) (hb : b < 15) (hd1 : 1 ≤ d) (h : P (some (vI (nI (dsM a b)))) μ) : Ok l K d 121 [vI (nI a), vI (nI b)] μ P := by
  refine ok_go 4 (by decide +kernel) [some (vI (nI a)), some (vI (nI b)), none, none] rfl (Nat.le_of_ble_eq_true rfl) ?_
  rw [← (g_dsm a ha b hb).1] at h
  unfold dmE dnI rtI at h
  refine go_blk [(.iload_n 1, 0, 0, 0), (.invokestatic 120, 117, 1, 0)] (by decide +kernel) ?_
  simp only [e_il_1, e_ivs_1, e_nil, Nat.reduceLT, nol_n, nol_I, nol_R, rsum_0, rsum_I, rsum_R, ps_s, ps_n, true_and, and_true, Nat.reduceAdd, Nat.reduceLeDiff, hd1]
  refine okm_rowOf ?_
  refine go_blk [(.iload_n 0, 0, 0, 0), (.invokestatic 120, 117, 1, 0)] (by decide +kernel) ?_
  simp only [e_il_0, e_ivs_1, e_nil, Nat.reduceLT, nol_n, nol_I, nol_R, rsum_0, rsum_I, rsum_R, ps_s, ps_n, true_and, and_true, Nat.reduceAdd, Nat.reduceLeDiff, hd1]
  refine okm_rowOf ?_
  refine go_blk [(.isub, 0, 0, 0), (.invokestatic 123, 120, 1, 0)] (by decide +kernel) ?_
  simp only [e_isub, e_ivs_1, e_nil, Nat.reduceLT, nol_n, nol_I, nol_R, rsum_0, rsum_I, rsum_R, ps_s, ps_n, true_and, and_true, Nat.reduceAdd, Nat.reduceLeDiff, hd1]
  refine okm_plain ?_
  refine go_blk [(.istore_n 2, 0, 0, 0), (.iload_n 1, 0, 0, 0), (.invokestatic 126, 118, 1, 0)] (by decide +kernel) ?_
  simp only [e_is_2n, e_is_2I, e_is_2R, e_il_1, e_ivs_1, e_nil, Nat.reduceLT, nol_n, nol_I, nol_R, rsum_0, rsum_I, rsum_R, ps_s, ps_n, true_and, and_true, Nat.reduceAdd, Nat.reduceLeDiff, hd1]
  refine okm_columnOf ?_
  refine go_blk [(.iload_n 0, 0, 0, 0), (.invokestatic 126, 118, 1, 0)] (by decide +kernel) ?_
  simp only [e_il_0, e_ivs_1, e_nil, Nat.reduceLT, nol_n, nol_I, nol_R, rsum_0, rsum_I, rsum_R, ps_s, ps_n, true_and, and_true, Nat.reduceAdd, Nat.reduceLeDiff, hd1]
  refine okm_columnOf ?_
  refine go_blk [(.isub, 0, 0, 0), (.invokestatic 123, 120, 1, 0)] (by decide +kernel) ?_
  simp only [e_isub, e_ivs_1, e_nil, Nat.reduceLT, nol_n, nol_I, nol_R, rsum_0, rsum_I, rsum_R, ps_s, ps_n, true_and, and_true, Nat.reduceAdd, Nat.reduceLeDiff, hd1]
  refine okm_plain ?_
  refine go_blk [(.istore_n 3, 0, 0, 0)] (by decide +kernel) ?_
  simp only [e_is_3n, e_is_3I, e_is_3R, e_nil, nol_n, nol_I, nol_R, rsum_0, rsum_I, rsum_R, ps_s, ps_n, true_and, and_true, Nat.reduceAdd, Nat.reduceLeDiff, hd1]
  generalize abI (rwI (nI b) - rwI (nI a)) = D at h ⊢
  generalize abI (clI (nI b) - clI (nI a)) = R at h ⊢
  refine go_blk [(.iload_n 2, 0, 0, 0), (.ifCond .ne 7, 34, 0, 0)] (by decide +kernel) ?_
  simp only [e_il_2, e_if_ne, e_nil, nol_n, nol_I, nol_R, rsum_0, rsum_I, rsum_R, ps_s, ps_n, true_and, and_true, Nat.reduceAdd, Nat.reduceLeDiff, hd1]
  refine ⟨fun c27 => ?_, fun c27 => ?_⟩
  · refine go_blk [(.iload_n 3, 0, 0, 0), (.ifCond .eq 8, 43, 0, 0)] (by decide +kernel) ?_
    simp only [e_il_3, e_if_eq, e_nil, nol_n, nol_I, nol_R, rsum_0, rsum_I, rsum_R, ps_s, ps_n, true_and, and_true, Nat.reduceAdd, Nat.reduceLeDiff, hd1]
    refine ⟨fun c35 => ?_, fun c35 => ?_⟩
    · refine go_blk [(.iload_n 2, 0, 0, 0), (.goto 4, 48, 0, 0), (.ireturn, 0, 0, 0)] (by decide +kernel) ?_
      simp only [e_il_2, e_goto, e_iret0, e_nil, nol_n, nol_I, nol_R, rsum_0, rsum_I, rsum_R, ps_s, ps_n, true_and, and_true, Nat.reduceAdd, Nat.reduceLeDiff, hd1]
      simp_all
    · refine go_blk [(.iload_n 3, 0, 0, 0), (.iload_n 2, 0, 0, 0), (.if_icmp .ne 7, 47, 0, 0)] (by decide +kernel) ?_
      simp only [e_il_3, e_il_2, e_icmp_ne, e_nil, nol_n, nol_I, nol_R, rsum_0, rsum_I, rsum_R, ps_s, ps_n, true_and, and_true, Nat.reduceAdd, Nat.reduceLeDiff, hd1]
      refine ⟨fun c40 => ?_, fun c40 => ?_⟩
      · refine go_blk [(.iconst 0, 0, 0, 0), (.ireturn, 0, 0, 0)] (by decide +kernel) ?_
        simp only [e_ic_0, e_iret0, e_nil, nol_n, nol_I, nol_R, rsum_0, rsum_I, rsum_R, ps_s, ps_n, true_and, and_true, Nat.reduceAdd, Nat.reduceLeDiff, hd1]
        simp_all
      · refine go_blk [(.iload_n 2, 0, 0, 0), (.goto 4, 48, 0, 0), (.ireturn, 0, 0, 0)] (by decide +kernel) ?_
        simp only [e_il_2, e_goto, e_iret0, e_nil, nol_n, nol_I, nol_R, rsum_0, rsum_I, rsum_R, ps_s, ps_n, true_and, and_true, Nat.reduceAdd, Nat.reduceLeDiff, hd1]
        simp_all
  · refine go_blk [(.iload_n 3, 0, 0, 0), (.goto 17, 48, 0, 0), (.ireturn, 0, 0, 0)] (by decide +kernel) ?_
    simp only [e_il_3, e_goto, e_iret0, e_nil, nol_n, nol_I, nol_R, rsum_0, rsum_I, rsum_R, ps_s, ps_n, true_and, and_true, Nat.reduceAdd, Nat.reduceLeDiff, hd1]
    simp_all
/-- the cell so many steps on the way from a to b; 99: outside -/
def wyN (a b k : Nat) : Nat := rayN a (dU a b) (dV a b) k
def wyE (r c : Int32) : Int32 := if (!decide (r < 0) && !decide (2 < r)) = true then (if (!decide (c < 0) && !decide (4 < c)) = true then 5 * r + c else -1) else -1
def wyT (a b k : Nat) : Bool := decide (wyE (rwI (nI a) + nI k * sg (dnI a b)) (clI (nI a) + nI k * sg (rtI a b)) = eN (wyN a b k)) && (decide (wyN a b k < 15) || decide (wyN a b k = 99))
theorem wy_tb : ∀ a, a < 15 → ∀ b, b < 15 → ∀ k, k < 6 → wyT a b k = true := by decide +kernel
theorem wy_tab {a b k : Nat} (ha : a < 15) (hb : b < 15) (hk : k < 6) : wyE (rwI (nI a) + nI k * sg (dnI a b)) (clI (nI a) + nI k * sg (rtI a b)) = eN (wyN a b k) ∧ (wyN a b k < 15 ∨ wyN a b k = 99) := by
  have := wy_tb a ha b hb k hk
  unfold wyT at this
  simpa using this
theorem okm_onWay {l : Launch} {K : KK} {d : Nat} {μ : Mm} {P : Option AV → Mm → Prop} {a b k : Nat} (ha : a < 15) (hb : b < 15) (hk : k < 6) (hd1 : 1 ≤ d) (h : P (some (vI (eN (wyN a b k)))) μ) : Ok l K d 122 [vI (nI a), vI (nI b), vI (nI k)] μ P := by
  refine ok_go 5 (by decide +kernel) [some (vI (nI a)), some (vI (nI b)), some (vI (nI k)), none, none] rfl (Nat.le_of_ble_eq_true rfl) ?_
  rw [← (wy_tab ha hb hk).1] at h
  unfold wyE dnI rtI at h
  refine go_blk [(.iload_n 0, 0, 0, 0), (.invokestatic 120, 117, 1, 0)] (by decide +kernel) ?_
  simp only [e_il_0, e_ivs_1, e_nil, Nat.reduceLT, nol_n, nol_I, nol_R, rsum_0, rsum_I, rsum_R, ps_s, ps_n, true_and, and_true, Nat.reduceAdd, Nat.reduceLeDiff, hd1, bi_0]
  refine okm_rowOf ?_
  refine go_blk [(.iload_n 2, 0, 0, 0), (.iload_n 1, 0, 0, 0), (.invokestatic 120, 117, 1, 0)] (by decide +kernel) ?_
  simp only [e_il_2, e_il_1, e_ivs_1, e_nil, Nat.reduceLT, nol_n, nol_I, nol_R, rsum_0, rsum_I, rsum_R, ps_s, ps_n, true_and, and_true, Nat.reduceAdd, Nat.reduceLeDiff, hd1, bi_0]
  refine okm_rowOf ?_
  refine go_blk [(.iload_n 0, 0, 0, 0), (.invokestatic 120, 117, 1, 0)] (by decide +kernel) ?_
  simp only [e_il_0, e_ivs_1, e_nil, Nat.reduceLT, nol_n, nol_I, nol_R, rsum_0, rsum_I, rsum_R, ps_s, ps_n, true_and, and_true, Nat.reduceAdd, Nat.reduceLeDiff, hd1, bi_0]
  refine okm_rowOf ?_
  refine go_blk [(.isub, 0, 0, 0), (.invokestatic 129, 119, 1, 0)] (by decide +kernel) ?_
  simp only [e_isub, e_ivs_1, e_nil, Nat.reduceLT, nol_n, nol_I, nol_R, rsum_0, rsum_I, rsum_R, ps_s, ps_n, true_and, and_true, Nat.reduceAdd, Nat.reduceLeDiff, hd1, bi_0]
  refine okm_sign ?_
  refine go_blk [(.imul, 0, 0, 0), (.iadd, 0, 0, 0), (.istore_n 3, 0, 0, 0), (.iload_n 0, 0, 0, 0), (.invokestatic 126, 118, 1, 0)] (by decide +kernel) ?_
  simp only [e_imul, e_iadd, e_is_3n, e_is_3I, e_is_3R, e_il_0, e_ivs_1, e_nil, Nat.reduceLT, nol_n, nol_I, nol_R, rsum_0, rsum_I, rsum_R, ps_s, ps_n, true_and, and_true, Nat.reduceAdd, Nat.reduceLeDiff, hd1, bi_0]
  refine okm_columnOf ?_
  refine go_blk [(.iload_n 2, 0, 0, 0), (.iload_n 1, 0, 0, 0), (.invokestatic 126, 118, 1, 0)] (by decide +kernel) ?_
  simp only [e_il_2, e_il_1, e_ivs_1, e_nil, Nat.reduceLT, nol_n, nol_I, nol_R, rsum_0, rsum_I, rsum_R, ps_s, ps_n, true_and, and_true, Nat.reduceAdd, Nat.reduceLeDiff, hd1, bi_0]
  refine okm_columnOf ?_
  refine go_blk [(.iload_n 0, 0, 0, 0), (.invokestatic 126, 118, 1, 0)] (by decide +kernel) ?_
  simp only [e_il_0, e_ivs_1, e_nil, Nat.reduceLT, nol_n, nol_I, nol_R, rsum_0, rsum_I, rsum_R, ps_s, ps_n, true_and, and_true, Nat.reduceAdd, Nat.reduceLeDiff, hd1, bi_0]
  refine okm_columnOf ?_
  refine go_blk [(.isub, 0, 0, 0), (.invokestatic 129, 119, 1, 0)] (by decide +kernel) ?_
  simp only [e_isub, e_ivs_1, e_nil, Nat.reduceLT, nol_n, nol_I, nol_R, rsum_0, rsum_I, rsum_R, ps_s, ps_n, true_and, and_true, Nat.reduceAdd, Nat.reduceLeDiff, hd1, bi_0]
  refine okm_sign ?_
  refine go_blk [(.imul, 0, 0, 0), (.iadd, 0, 0, 0), (.istore 4, 0, 0, 0), (.iload_n 3, 0, 0, 0), (.iconst 0, 0, 0, 0), (.iconst 2, 0, 0, 0), (.invokestatic 51, 103, 3, 0)] (by decide +kernel) ?_
  simp only [e_imul, e_iadd, e_isw_4n, e_isw_4I, e_isw_4R, e_il_3, e_ic_0, e_ic_2, e_ivs_3, e_nil, Nat.reduceLT, nol_n, nol_I, nol_R, rsum_0, rsum_I, rsum_R, ps_s, ps_n, true_and, and_true, Nat.reduceAdd, Nat.reduceLeDiff, hd1, bi_0]
  refine okm_within ?_
  refine go_blk [(.ifCond .eq 22, 69, 0, 0)] (by decide +kernel) ?_
  simp only [e_if_eq, e_nil, nol_n, nol_I, nol_R, rsum_0, rsum_I, rsum_R, ps_s, ps_n, true_and, and_true, Nat.reduceAdd, Nat.reduceLeDiff, hd1, bi_0]
  refine ⟨fun c47 => ?_, fun c47 => ?_⟩
  · rw [if_neg (by rw [c47]; decide)] at h
    refine go_blk [(.iconst (-1), 0, 0, 0), (.ireturn, 0, 0, 0)] (by decide +kernel) ?_
    simp only [e_ic_m1, e_iret0, e_nil, nol_n, nol_I, nol_R, rsum_0, rsum_I, rsum_R, ps_s, ps_n, true_and, and_true, Nat.reduceAdd, Nat.reduceLeDiff, hd1, bi_0]
    exact h
  · rw [if_pos (eq_true_of_ne_false c47)] at h
    refine go_blk [(.iload 4, 0, 0, 0), (.iconst 0, 0, 0, 0), (.iconst 4, 0, 0, 0), (.invokestatic 51, 103, 3, 0)] (by decide +kernel) ?_
    simp only [e_ilw_4, e_ic_0, e_ic_4, e_ivs_3, e_nil, Nat.reduceLT, nol_n, nol_I, nol_R, rsum_0, rsum_I, rsum_R, ps_s, ps_n, true_and, and_true, Nat.reduceAdd, Nat.reduceLeDiff, hd1, bi_0]
    refine okm_within ?_
    refine go_blk [(.ifCond .eq 12, 69, 0, 0)] (by decide +kernel) ?_
    simp only [e_if_eq, e_nil, nol_n, nol_I, nol_R, rsum_0, rsum_I, rsum_R, ps_s, ps_n, true_and, and_true, Nat.reduceAdd, Nat.reduceLeDiff, hd1, bi_0]
    refine ⟨fun c57 => ?_, fun c57 => ?_⟩
    · rw [if_neg (by rw [c57]; decide)] at h
      refine go_blk [(.iconst (-1), 0, 0, 0), (.ireturn, 0, 0, 0)] (by decide +kernel) ?_
      simp only [e_ic_m1, e_iret0, e_nil, nol_n, nol_I, nol_R, rsum_0, rsum_I, rsum_R, ps_s, ps_n, true_and, and_true, Nat.reduceAdd, Nat.reduceLeDiff, hd1, bi_0]
      exact h
    · rw [if_pos (eq_true_of_ne_false c57)] at h
      refine go_blk [(.iconst 5, 0, 0, 0), (.iload_n 3, 0, 0, 0), (.imul, 0, 0, 0), (.iload 4, 0, 0, 0), (.iadd, 0, 0, 0), (.goto 4, 70, 0, 0), (.ireturn, 0, 0, 0)] (by decide +kernel) ?_
      simp only [e_ic_5, e_il_3, e_imul, e_ilw_4, e_iadd, e_goto, e_iret0, e_nil, nol_n, nol_I, nol_R, rsum_0, rsum_I, rsum_R, ps_s, ps_n, true_and, and_true, Nat.reduceAdd, Nat.reduceLeDiff, hd1, bi_0]
      exact h
theorem lt14 (x : Int32) : ((14 : Int32) < x) = ((15 : Int32) ≤ x) := by
  apply propext
  rw [Int32.lt_iff_toInt_lt, Int32.le_iff_toInt_le, show (14 : Int32).toInt = 14 from rfl, show (15 : Int32).toInt = 15 from rfl]
  omega
theorem lt14b (x : Int32) : (!decide ((14 : Int32) < x)) = (!decide ((15 : Int32) ≤ x)) := by
  simp only [lt14]
theorem okm_isCell {l : Launch} {K : KK} {d : Nat} {μ : Mm} {P : Option AV → Mm → Prop} {laid : Bool} {x : Int32} (hl : μ 8 0 0 0 = bi laid) (hd1 : 1 ≤ d) (h : P (some (vI (bi (laid && !decide (x < 0) && !decide (15 ≤ x))))) μ) : Ok l K d 116 [vR 8 0 0, vI x] μ P := by
  refine ok_go 2 (by decide +kernel) [some (vR 8 0 0), some (vI x)] rfl (Nat.le_of_ble_eq_true rfl) ?_
  rw [Bool.and_assoc, ← lt14b] at h
  refine go_blk [(.aload_n 0, 0, 0, 0), (.getfield 89, 8, 0, 0), (.ifCond .eq 17, 21, 0, 0)] (by decide +kernel) ?_
  simp only [e_al_0, e_gf_8_0, e_if_eq, rd_8_0, e_nil, nol_n, nol_I, nol_R, rsum_0, rsum_I, rsum_R, ps_s, ps_n, true_and, and_true, Nat.reduceAdd, Nat.reduceLeDiff, hl, bi_0, hd1]
  refine ⟨fun c4 => ?_, fun c4 => ?_⟩
  · rw [c4] at h
    refine go_blk [(.iconst 0, 0, 0, 0), (.ireturn, 1, 0, 0)] (by decide +kernel) ?_
    simp only [e_ic_0, e_iret1, e_nil, nol_n, nol_I, nol_R, rsum_0, rsum_I, rsum_R, ps_s, ps_n, true_and, and_true, Nat.reduceAdd, Nat.reduceLeDiff, hl, bi_0, hd1]
    exact ⟨by decide, h⟩
  · refine go_blk [(.iload_n 1, 0, 0, 0), (.iconst 0, 0, 0, 0), (.bipush 14, 0, 0, 0), (.invokestatic 51, 103, 3, 0)] (by decide +kernel) ?_
    simp only [e_il_1, e_ic_0, e_bp_14, e_ivs_3, e_nil, Nat.reduceLT, nol_n, nol_I, nol_R, rsum_0, rsum_I, rsum_R, ps_s, ps_n, true_and, and_true, Nat.reduceAdd, Nat.reduceLeDiff, hl, bi_0, hd1]
    refine okm_within ?_
    refine go_blk [(.ifCond .eq 7, 21, 0, 0)] (by decide +kernel) ?_
    simp only [e_if_eq, e_nil, nol_n, nol_I, nol_R, rsum_0, rsum_I, rsum_R, ps_s, ps_n, true_and, and_true, Nat.reduceAdd, Nat.reduceLeDiff, hl, bi_0, hd1]
    refine ⟨fun c14 => ?_, fun c14 => ?_⟩
    · rw [c14, Bool.and_false] at h
      refine go_blk [(.iconst 0, 0, 0, 0), (.ireturn, 1, 0, 0)] (by decide +kernel) ?_
      simp only [e_ic_0, e_iret1, e_nil, nol_n, nol_I, nol_R, rsum_0, rsum_I, rsum_R, ps_s, ps_n, true_and, and_true, Nat.reduceAdd, Nat.reduceLeDiff, hl, bi_0, hd1]
      exact ⟨by decide, h⟩
    · rw [eq_true_of_ne_false c14, eq_true_of_ne_false c4] at h
      refine go_blk [(.iconst 1, 0, 0, 0), (.goto 4, 22, 0, 0), (.ireturn, 1, 0, 0)] (by decide +kernel) ?_
      simp only [e_ic_1, e_goto, e_iret1, e_nil, nol_n, nol_I, nol_R, rsum_0, rsum_I, rsum_R, ps_s, ps_n, true_and, and_true, Nat.reduceAdd, Nat.reduceLeDiff, hl, bi_0, hd1]
      exact ⟨by decide, h⟩
theorem okm_better {l : Launch} {K : KK} {d : Nat} {μ : Mm} {P : Option AV → Mm → Prop} {u : Nat} {x y : Int32} (hu : u < 4) (h : P (some (vI (if u % 2 = 0 then (if x ≤ y then y else x) else (if x ≤ y then x else y)))) μ) : Ok l K d 152 [vI (nI u), vI x, vI y] μ P := by
  refine ok_go 4 (by decide +kernel) [some (vI (nI u)), some (vI x), some (vI y), none] rfl (Nat.le_of_ble_eq_true rfl) ?_
  have er : ((nI u - nI u / 2 * 2 : Int32) = 0) = (u % 2 = 0) := by
    have e : nI u - nI u / 2 * 2 = nI (u % 2) := pk_rem (d := 2) (by omega) (by omega) (by omega)
    rw [e]
    exact propext (nI_eq (b := 0) (by omega) (by omega))
  have n2 : ((2 : Int32) = 0) = False := by decide
  refine go_blk [(.iload_n 0, 0, 0, 0), (.iconst 2, 0, 0, 0), (.irem, 0, 0, 0), (.ifCond .ne 7, 10, 0, 0)] (by decide +kernel) ?_
  simp only [e_il_0, e_ic_2, e_irem, e_if_ne, e_nil, nol_n, nol_I, nol_R, rsum_0, rsum_I, rsum_R, ps_s, ps_n, true_and, and_true, Nat.reduceAdd, Nat.reduceLeDiff, er, n2, true_implies, false_implies, not_true_eq_false, not_false_eq_true]
  refine ⟨fun c3 => ?_, fun c3 => ?_⟩
  · refine go_blk [(.iconst 0, 0, 0, 0), (.istore_n 3, 0, 0, 0), (.iload_n 1, 0, 0, 0), (.iload_n 2, 0, 0, 0), (.if_icmp .le 7, 21, 0, 0)] (by decide +kernel) ?_
    simp only [e_ic_0, e_is_3n, e_is_3I, e_is_3R, e_il_1, e_il_2, e_icmp_le, e_nil, nol_n, nol_I, nol_R, rsum_0, rsum_I, rsum_R, ps_s, ps_n, true_and, and_true, Nat.reduceAdd, Nat.reduceLeDiff, er, n2, true_implies, false_implies, not_true_eq_false, not_false_eq_true]
    refine ⟨fun c14 => ?_, fun c14 => ?_⟩
    · refine go_blk [(.iconst 0, 0, 0, 0), (.iload_n 3, 0, 0, 0), (.if_icmp .ne 7, 30, 0, 0)] (by decide +kernel) ?_
      simp only [e_ic_0, e_il_3, e_icmp_ne, e_nil, (show ((0 : Int32) = 0) = True by decide), true_implies, false_implies, not_true_eq_false, not_false_eq_true, nol_n, nol_I, nol_R, rsum_0, rsum_I, rsum_R, ps_s, ps_n, true_and, and_true, Nat.reduceAdd, Nat.reduceLeDiff, er, n2, true_implies, false_implies, not_true_eq_false, not_false_eq_true]
      refine go_blk [(.iload_n 1, 0, 0, 0), (.goto 4, 31, 0, 0), (.ireturn, 0, 0, 0)] (by decide +kernel) ?_
      simp only [e_il_1, e_goto, e_iret0, e_nil, nol_n, nol_I, nol_R, rsum_0, rsum_I, rsum_R, ps_s, ps_n, true_and, and_true, Nat.reduceAdd, Nat.reduceLeDiff, er, n2, true_implies, false_implies, not_true_eq_false, not_false_eq_true]
      simp_all
    · refine go_blk [(.iconst 1, 0, 0, 0), (.goto 4, 22, 0, 0), (.iload_n 3, 0, 0, 0), (.if_icmp .ne 7, 30, 0, 0)] (by decide +kernel) ?_
      simp only [e_ic_1, e_goto, e_il_3, e_icmp_ne, e_nil, (show ((1 : Int32) = 0) = False by decide), true_implies, false_implies, not_true_eq_false, not_false_eq_true, nol_n, nol_I, nol_R, rsum_0, rsum_I, rsum_R, ps_s, ps_n, true_and, and_true, Nat.reduceAdd, Nat.reduceLeDiff, er, n2, true_implies, false_implies, not_true_eq_false, not_false_eq_true]
      refine go_blk [(.iload_n 2, 0, 0, 0), (.ireturn, 0, 0, 0)] (by decide +kernel) ?_
      simp only [e_il_2, e_iret0, e_nil, nol_n, nol_I, nol_R, rsum_0, rsum_I, rsum_R, ps_s, ps_n, true_and, and_true, Nat.reduceAdd, Nat.reduceLeDiff, er, n2, true_implies, false_implies, not_true_eq_false, not_false_eq_true]
      simp_all
  · refine go_blk [(.iconst 1, 0, 0, 0), (.goto 4, 11, 0, 0), (.istore_n 3, 0, 0, 0), (.iload_n 1, 0, 0, 0), (.iload_n 2, 0, 0, 0), (.if_icmp .le 7, 21, 0, 0)] (by decide +kernel) ?_
    simp only [e_ic_1, e_goto, e_is_3n, e_is_3I, e_is_3R, e_il_1, e_il_2, e_icmp_le, e_nil, nol_n, nol_I, nol_R, rsum_0, rsum_I, rsum_R, ps_s, ps_n, true_and, and_true, Nat.reduceAdd, Nat.reduceLeDiff, er, n2, true_implies, false_implies, not_true_eq_false, not_false_eq_true]
    refine ⟨fun c14 => ?_, fun c14 => ?_⟩
    · refine go_blk [(.iconst 0, 0, 0, 0), (.iload_n 3, 0, 0, 0), (.if_icmp .ne 7, 30, 0, 0)] (by decide +kernel) ?_
      simp only [e_ic_0, e_il_3, e_icmp_ne, e_nil, (show ((0 : Int32) = 1) = False by decide), true_implies, false_implies, not_true_eq_false, not_false_eq_true, nol_n, nol_I, nol_R, rsum_0, rsum_I, rsum_R, ps_s, ps_n, true_and, and_true, Nat.reduceAdd, Nat.reduceLeDiff, er, n2, true_implies, false_implies, not_true_eq_false, not_false_eq_true]
      refine go_blk [(.iload_n 2, 0, 0, 0), (.ireturn, 0, 0, 0)] (by decide +kernel) ?_
      simp only [e_il_2, e_iret0, e_nil, nol_n, nol_I, nol_R, rsum_0, rsum_I, rsum_R, ps_s, ps_n, true_and, and_true, Nat.reduceAdd, Nat.reduceLeDiff, er, n2, true_implies, false_implies, not_true_eq_false, not_false_eq_true]
      simp_all
    · refine go_blk [(.iconst 1, 0, 0, 0), (.goto 4, 22, 0, 0), (.iload_n 3, 0, 0, 0), (.if_icmp .ne 7, 30, 0, 0)] (by decide +kernel) ?_
      simp only [e_ic_1, e_goto, e_il_3, e_icmp_ne, e_nil, (show ((1 : Int32) = 1) = True by decide), true_implies, false_implies, not_true_eq_false, not_false_eq_true, nol_n, nol_I, nol_R, rsum_0, rsum_I, rsum_R, ps_s, ps_n, true_and, and_true, Nat.reduceAdd, Nat.reduceLeDiff, er, n2, true_implies, false_implies, not_true_eq_false, not_false_eq_true]
      refine go_blk [(.iload_n 1, 0, 0, 0), (.goto 4, 31, 0, 0), (.ireturn, 0, 0, 0)] (by decide +kernel) ?_
      simp only [e_il_1, e_goto, e_iret0, e_nil, nol_n, nol_I, nol_R, rsum_0, rsum_I, rsum_R, ps_s, ps_n, true_and, and_true, Nat.reduceAdd, Nat.reduceLeDiff, er, n2, true_implies, false_implies, not_true_eq_false, not_false_eq_true]
      simp_all
