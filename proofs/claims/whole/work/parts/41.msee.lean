theorem allB_i {f : Nat → Bool} : ∀ (k j : Nat), (∀ i, j ≤ i → i < j + k → f i = true) → allB f k j = true
  | 0, _, _ => rfl
  | k + 1, j, h => by
    show (f j && allB f k (j + 1)) = true
    rw [h j (by omega) (by omega), allB_i k (j + 1) (fun i h1 h2 => h i (by omega) (by omega))]
    rfl
theorem anyB_i {f : Nat → Bool} : ∀ (k j i : Nat), j ≤ i → i < j + k → f i = true → anyB f k j = true
  | 0, j, i, h1, h2, _ => by omega
  | k + 1, j, i, h1, h2, h => by
    show (f j || anyB f k (j + 1)) = true
    by_cases e : j = i
    · subst e; rw [h]; rfl
    · rw [anyB_i k (j + 1) i (by omega) (by omega) h, Bool.or_true]
theorem anyB_e {f : Nat → Bool} : ∀ (k j : Nat), anyB f k j = true → ∃ i, j ≤ i ∧ i < j + k ∧ f i = true
  | 0, _, h => by cases h
  | k + 1, j, h => by
    have h' : (f j || anyB f k (j + 1)) = true := h
    rcases Bool.or_eq_true _ _ ▸ h' with h1 | h1
    · exact ⟨j, by omega, by omega, h1⟩
    · obtain ⟨i, a, b, c⟩ := anyB_e k (j + 1) h1
      exact ⟨i, by omega, by omega, c⟩
theorem bt_tb : ∀ a, a < 15 → ∀ b, b < 15 → (lne a b && allB (fun c => (btw a b).testBit c != anyB (fun k => wyN a b k == c) (dst a b - 1) 1) 15 0) = false ∧ (lne a b && !(allB (fun c => (btw a b).testBit c == anyB (fun k => wyN a b k == c) (dst a b - 1) 1) 15 0 && allB (fun k => decide (wyN a b k < 15)) (dst a b - 1) 1)) = false := by decide +kernel
theorem bt_tab {a b : Nat} (ha : a < 15) (hb : b < 15) (hl : lne a b = true) : (∀ c, c < 15 → (btw a b).testBit c = anyB (fun k => wyN a b k == c) (dst a b - 1) 1) ∧ ∀ k, 1 ≤ k → k < dst a b → wyN a b k < 15 := by
  have := (bt_tb a ha b hb).2
  rw [hl, Bool.true_and] at this
  have h2 : (allB (fun c => (btw a b).testBit c == anyB (fun k => wyN a b k == c) (dst a b - 1) 1) 15 0 && allB (fun k => decide (wyN a b k < 15)) (dst a b - 1) 1) = true := by simpa using this
  rw [Bool.and_eq_true] at h2
  refine ⟨fun c hc => ?_, fun k h1 h3 => ?_⟩
  · have := allB_e _ _ h2.1 c (by omega) (by omega)
    exact eq_of_beq this
  · have := allB_e _ _ h2.2 k (by omega) (by omega)
    exact of_decide_eq_true this
theorem sub_iff (x op : Nat) (hx : x < 2 ^ 15) : (x &&& op = x) ↔ ∀ c, c < 15 → x.testBit c = true → op.testBit c = true := by
  constructor
  · intro h c _ hc
    rw [← h, Nat.testBit_and, Bool.and_eq_true] at hc
    exact hc.2
  · intro h
    apply Nat.eq_of_testBit_eq
    intro c
    rw [Nat.testBit_and]
    by_cases hc : c < 15
    · cases hx2 : x.testBit c
      · rfl
      · rw [h c hc hx2]; rfl
    · have : x.testBit c = false := Nat.testBit_lt_two_pow (Nat.lt_of_lt_of_le hx (Nat.pow_le_pow_right (by decide) (by omega)))
      rw [this]; rfl
theorem bt_sub {a b : Nat} (op : Nat) (ha : a < 15) (hb : b < 15) (hl : lne a b = true) : (btw a b &&& op == btw a b) = allB (fun k => op.testBit (wyN a b k)) (dst a b - 1) 1 := by
  obtain ⟨t1, t2⟩ := bt_tab ha hb hl
  have hi := sub_iff (btw a b) op (btw_lt a ha b hb hl)
  apply Bool.eq_iff_iff.mpr
  rw [beq_iff_eq, hi]
  constructor
  · intro h
    refine allB_i _ _ (fun k h1 h2 => h _ (t2 k h1 (by omega)) ?_)
    rw [t1 _ (t2 k h1 (by omega))]
    exact anyB_i _ _ k h1 h2 (beq_self_eq_true _)
  · intro h c hc hb2
    rw [t1 c hc] at hb2
    obtain ⟨k, h1, h2, h3⟩ := anyB_e _ _ hb2
    have := allB_e _ _ h k h1 h2
    rw [eq_of_beq h3] at this
    exact this
theorem lp_sees {l : Launch} {K : KK} {d : Nat} {μ : Mm} {P : Option AV → Mm → Prop} {a b op F : Nat} (ha : a < 15) (hb : b < 15) (ho : μ 8 0 0 2 = nI op) (hop : op < 2 ^ 15) (hF : F < 5) (hw : ∀ k, 1 ≤ k → k < F → wyN a b k < 15) (hd1 : 2 ≤ d) : ∀ (r k : Nat) (is : Bool), 1 ≤ k → k < 6 → (k + r = F ∨ (F ≤ k ∧ r = 0)) → (∀ y, Go l K d 124 58 [some (vR 8 0 0), some (vI (nI a)), some (vI (nI b)), some (vI (nI F)), some (vI (bi (is && allB (fun k => op.testBit (wyN a b k)) r k))), y] [] μ P) → Go l K d 124 25 [some (vR 8 0 0), some (vI (nI a)), some (vI (nI b)), some (vI (nI F)), some (vI (bi is)), some (vI (nI k))] [] μ P := by
  have hd2 : 1 ≤ d := by omega
  intro r
  induction r with
  | zero =>
    intro k is hk1 hk6 hk h
    have e : (is && allB (fun k => op.testBit (wyN a b k)) 0 k) = is := Bool.and_true is
    rw [e] at h
    refine go_blk [(.iload 5, 0, 0, 0), (.iload_n 3, 0, 0, 0), (.if_icmp .ge 30, 58, 0, 0)] (by decide +kernel) ?_
    simp only [e_ilw_5, e_il_3, e_icmp_ge, e_nil, nol_n, nol_I, nol_R, rsum_0, rsum_I, rsum_R, ps_s, ps_n, true_and, and_true, Nat.reduceAdd, Nat.reduceLeDiff]
    refine ⟨fun c28 => ?_, fun c28 => ?_⟩
    · exact h _
    · exact absurd (nI_le (by omega) (by omega)) c28
  | succ r ih =>
    intro k is hk1 hk6 hk h
    have hk2 : k < F := by omega
    have hw2 := hw k hk1 hk2
    have ew : eN (wyN a b k) = nI (wyN a b k) := by unfold eN; rw [if_neg (by omega)]
    have u : allB (fun k => op.testBit (wyN a b k)) (r + 1) k = (op.testBit (wyN a b k) && allB (fun k => op.testBit (wyN a b k)) r (k + 1)) := rfl
    rw [u] at h
    refine go_blk [(.iload 5, 0, 0, 0), (.iload_n 3, 0, 0, 0), (.if_icmp .ge 30, 58, 0, 0)] (by decide +kernel) ?_
    simp only [e_ilw_5, e_il_3, e_icmp_ge, e_nil, nol_n, nol_I, nol_R, rsum_0, rsum_I, rsum_R, ps_s, ps_n, true_and, and_true, Nat.reduceAdd, Nat.reduceLeDiff, ho, hd2, bi_0]
    refine ⟨fun c28 => ?_, fun c28 => ?_⟩
    · exact absurd c28 (nI_ge hk2 (by omega))
    · refine go_blk [(.iload 4, 0, 0, 0), (.ifCond .eq 25, 58, 0, 0)] (by decide +kernel) ?_
      simp only [e_ilw_4, e_if_eq, e_nil, nol_n, nol_I, nol_R, rsum_0, rsum_I, rsum_R, ps_s, ps_n, true_and, and_true, Nat.reduceAdd, Nat.reduceLeDiff, ho, hd2, bi_0]
      refine ⟨fun c33 => ?_, fun c33 => ?_⟩
      · rw [c33, Bool.false_and] at h
        rw [c33]
        exact h _
      · rw [eq_true_of_ne_false c33, Bool.true_and] at h
        refine go_blk [(.aload_n 0, 0, 0, 0), (.getfield 80, 8, 2, 0), (.iload_n 1, 0, 0, 0), (.iload_n 2, 0, 0, 0), (.iload 5, 0, 0, 0), (.invokestatic 136, 122, 3, 0)] (by decide +kernel) ?_
        simp only [e_al_0, e_gf_8_2, e_il_1, e_il_2, e_ilw_5, e_ivs_3, rd_8_2, e_nil, Nat.reduceLT, nol_n, nol_I, nol_R, rsum_0, rsum_I, rsum_R, ps_s, ps_n, true_and, and_true, Nat.reduceAdd, Nat.reduceLeDiff, ho, hd2, bi_0]
        refine okm_onWay ha hb (by omega) (by omega) ?_
        rw [ew]
        refine go_blk [(.invokestatic 69, 104, 2, 0)] (by decide +kernel) ?_
        simp only [e_ivs_2, e_nil, Nat.reduceLT, nol_n, nol_I, nol_R, rsum_0, rsum_I, rsum_R, ps_s, ps_n, true_and, and_true, Nat.reduceAdd, Nat.reduceLeDiff, ho, hd2, bi_0]
        refine okm_has (by omega) (by omega) ?_
        refine go_blk [(.istore 4, 0, 0, 0), (.iinc 5 1, 0, 0, 0), (.goto (-30), 25, 0, 0)] (by decide +kernel) ?_
        simp only [e_isw_4n, e_isw_4I, e_isw_4R, e_inc_5_1n, e_inc_5_1I, e_inc_5_1R, e_goto, e_nil, nol_n, nol_I, nol_R, rsum_0, rsum_I, rsum_R, ps_s, ps_n, true_and, and_true, Nat.reduceAdd, Nat.reduceLeDiff, ho, hd2, bi_0]
        rw [nI_1]
        exact ih (k + 1) _ (by omega) (by omega) (by omega) h
def seeM (op a b : Nat) : Bool := (a == b || (lne a b && allB (fun k => op.testBit (wyN a b k)) (dst a b - 1) 1)) && op.testBit b
theorem dsM_pos {a b : Nat} (ha : a < 15) (hb : b < 15) (h : lne a b = true) : dsM a b = dst a b ∧ 1 ≤ dst a b ∧ dst a b < 5 := by
  have h2 := (g_dsm a ha b hb).2
  have h3 : dsM a b = dst a b := if_pos h
  refine ⟨h3, ?_, by omega⟩
  have : ∀ a, a < 15 → ∀ b, b < 15 → lne a b = true → 1 ≤ dst a b := by decide +kernel
  exact this a ha b hb h
theorem dsM_0 {a b : Nat} (h : lne a b = false) : dsM a b = 0 := by unfold dsM; rw [h]; rfl
theorem lne_self (a : Nat) : lne a a = false := by simp [lne]
theorem okm_sees {l : Launch} {K : KK} {d : Nat} {μ : Mm} {P : Option AV → Mm → Prop} {a b op : Nat} (ha : a < 15) (hb : b < 15) (ho : μ 8 0 0 2 = nI op) (hop : op < 2 ^ 15) (hd1 : 2 ≤ d) (h : P (some (vI (bi (seeM op a b)))) μ) : Ok l K d 124 [vR 8 0 0, vI (nI a), vI (nI b)] μ P := by
  refine ok_go 6 (by decide +kernel) [some (vR 8 0 0), some (vI (nI a)), some (vI (nI b)), none, none, none] rfl (Nat.le_of_ble_eq_true rfl) ?_
  have hd2 : 1 ≤ d := by omega
  have e8 : (nI a = nI b) = (a = b) := propext (nI_eq (by omega) (by omega))
  have hF := (g_dsm a ha b hb).2
  have e12 : (nI (dsM a b) ≤ 0) = (dsM a b = 0) := propext ((nI_leI (b := 0) (by omega) (by omega)).trans Nat.le_zero)
  unfold seeM at h
  have fin : ∀ (is : Bool) (y : Option AV), P (some (vI (bi (is && op.testBit b)))) μ → Go l K d 124 58 [some (vR 8 0 0), some (vI (nI a)), some (vI (nI b)), some (vI (nI (dsM a b))), some (vI (bi is)), y] [] μ P := by
    intro is y h
    refine go_blk [(.iload 4, 0, 0, 0), (.ifCond .eq 18, 78, 0, 0)] (by decide +kernel) ?_
    simp only [e_ilw_4, e_if_eq, e_nil, nol_n, nol_I, nol_R, rsum_0, rsum_I, rsum_R, ps_s, ps_n, true_and, and_true, Nat.reduceAdd, Nat.reduceLeDiff, ho, hd2, bi_0]
    refine ⟨fun c60 => ?_, fun c60 => ?_⟩
    · rw [c60, Bool.false_and] at h
      refine go_blk [(.iconst 0, 0, 0, 0), (.ireturn, 1, 0, 0)] (by decide +kernel) ?_
      simp only [e_ic_0, e_iret1, e_nil, nol_n, nol_I, nol_R, rsum_0, rsum_I, rsum_R, ps_s, ps_n, true_and, and_true, Nat.reduceAdd, Nat.reduceLeDiff, ho, hd2, bi_0]
      exact ⟨by decide, h⟩
    · rw [eq_true_of_ne_false c60, Bool.true_and] at h
      refine go_blk [(.aload_n 0, 0, 0, 0), (.getfield 80, 8, 2, 0), (.iload_n 2, 0, 0, 0), (.invokestatic 69, 104, 2, 0)] (by decide +kernel) ?_
      simp only [e_al_0, e_gf_8_2, e_il_2, e_ivs_2, rd_8_2, e_nil, Nat.reduceLT, nol_n, nol_I, nol_R, rsum_0, rsum_I, rsum_R, ps_s, ps_n, true_and, and_true, Nat.reduceAdd, Nat.reduceLeDiff, ho, hd2, bi_0]
      refine okm_has (by omega) (by omega) ?_
      refine go_blk [(.ifCond .eq 7, 78, 0, 0)] (by decide +kernel) ?_
      simp only [e_if_eq, e_nil, nol_n, nol_I, nol_R, rsum_0, rsum_I, rsum_R, ps_s, ps_n, true_and, and_true, Nat.reduceAdd, Nat.reduceLeDiff, ho, hd2, bi_0]
      refine ⟨fun c71 => ?_, fun c71 => ?_⟩
      · rw [c71] at h
        refine go_blk [(.iconst 0, 0, 0, 0), (.ireturn, 1, 0, 0)] (by decide +kernel) ?_
        simp only [e_ic_0, e_iret1, e_nil, nol_n, nol_I, nol_R, rsum_0, rsum_I, rsum_R, ps_s, ps_n, true_and, and_true, Nat.reduceAdd, Nat.reduceLeDiff, ho, hd2, bi_0]
        exact ⟨by decide, h⟩
      · rw [eq_true_of_ne_false c71] at h
        refine go_blk [(.iconst 1, 0, 0, 0), (.goto 4, 79, 0, 0), (.ireturn, 1, 0, 0)] (by decide +kernel) ?_
        simp only [e_ic_1, e_goto, e_iret1, e_nil, nol_n, nol_I, nol_R, rsum_0, rsum_I, rsum_R, ps_s, ps_n, true_and, and_true, Nat.reduceAdd, Nat.reduceLeDiff, ho, hd2, bi_0]
        exact ⟨by decide, h⟩
  refine go_blk [(.iload_n 1, 0, 0, 0), (.iload_n 2, 0, 0, 0), (.invokestatic 132, 121, 2, 0)] (by decide +kernel) ?_
  simp only [e_il_1, e_il_2, e_ivs_2, e_nil, Nat.reduceLT, nol_n, nol_I, nol_R, rsum_0, rsum_I, rsum_R, ps_s, ps_n, true_and, and_true, Nat.reduceAdd, Nat.reduceLeDiff, hd2, e8, e12]
  refine okm_distance ha hb (by omega) ?_
  refine go_blk [(.istore_n 3, 0, 0, 0), (.iload_n 1, 0, 0, 0), (.iload_n 2, 0, 0, 0), (.if_icmp .eq 7, 15, 0, 0)] (by decide +kernel) ?_
  simp only [e_is_3n, e_is_3I, e_is_3R, e_il_1, e_il_2, e_icmp_eq, e_nil, nol_n, nol_I, nol_R, rsum_0, rsum_I, rsum_R, ps_s, ps_n, true_and, and_true, Nat.reduceAdd, Nat.reduceLeDiff, hd2, e8, e12]
  refine ⟨fun c8 => ?_, fun c8 => ?_⟩
  · subst c8
    rw [beq_self_eq_true, Bool.true_or, Bool.true_and] at h
    rw [dsM_0 (lne_self a)] at fin ⊢
    refine go_blk [(.iconst 1, 0, 0, 0), (.goto 4, 20, 0, 0), (.istore 4, 0, 0, 0), (.iconst 1, 0, 0, 0), (.istore 5, 0, 0, 0)] (by decide +kernel) ?_
    simp only [e_ic_1, e_goto, e_isw_4n, e_isw_4I, e_isw_4R, e_isw_5n, e_isw_5I, e_isw_5R, e_nil, nol_n, nol_I, nol_R, rsum_0, rsum_I, rsum_R, ps_s, ps_n, true_and, and_true, Nat.reduceAdd, Nat.reduceLeDiff, hd2, e8, e12]
    rw [← bi_t]
    exact lp_sees ha ha ho hop (by omega) (fun k h1 h2 => by omega) hd1 0 1 true (by omega) (by omega) (Or.inr ⟨by omega, rfl⟩) (fun y => fin true y h)
  · have eb : (a == b) = false := by simpa using c8
    rw [eb, Bool.false_or] at h
    refine go_blk [(.iload_n 3, 0, 0, 0), (.ifCond .le 7, 19, 0, 0)] (by decide +kernel) ?_
    simp only [e_il_3, e_if_le, e_nil, nol_n, nol_I, nol_R, rsum_0, rsum_I, rsum_R, ps_s, ps_n, true_and, and_true, Nat.reduceAdd, Nat.reduceLeDiff, hd2, e8, e12]
    refine ⟨fun c12 => ?_, fun c12 => ?_⟩
    · have el : lne a b = false := by
        cases hl : lne a b
        · rfl
        · have := dsM_pos ha hb hl; omega
      rw [el, Bool.false_and] at h
      rw [c12] at fin ⊢
      refine go_blk [(.iconst 0, 0, 0, 0), (.istore 4, 0, 0, 0), (.iconst 1, 0, 0, 0), (.istore 5, 0, 0, 0)] (by decide +kernel) ?_
      simp only [e_ic_0, e_isw_4n, e_isw_4I, e_isw_4R, e_ic_1, e_isw_5n, e_isw_5I, e_isw_5R, e_nil, nol_n, nol_I, nol_R, rsum_0, rsum_I, rsum_R, ps_s, ps_n, true_and, and_true, Nat.reduceAdd, Nat.reduceLeDiff, hd2, e8, e12]
      rw [← bi_f]
      exact lp_sees ha hb ho hop (by omega) (fun k h1 h2 => by omega) hd1 0 1 false (by omega) (by omega) (Or.inr ⟨by omega, rfl⟩) (fun y => fin false y h)
    · have el : lne a b = true := by
        cases hl : lne a b
        · exact absurd (dsM_0 hl) c12
        · rfl
      obtain ⟨d1, d2, d3⟩ := dsM_pos ha hb el
      rw [el, Bool.true_and] at h
      rw [d1] at fin ⊢
      refine go_blk [(.iconst 1, 0, 0, 0), (.goto 4, 20, 0, 0), (.istore 4, 0, 0, 0), (.iconst 1, 0, 0, 0), (.istore 5, 0, 0, 0)] (by decide +kernel) ?_
      simp only [e_ic_1, e_goto, e_isw_4n, e_isw_4I, e_isw_4R, e_isw_5n, e_isw_5I, e_isw_5R, e_nil, nol_n, nol_I, nol_R, rsum_0, rsum_I, rsum_R, ps_s, ps_n, true_and, and_true, Nat.reduceAdd, Nat.reduceLeDiff, hd2, e8, e12]
      rw [← bi_t]
      exact lp_sees ha hb ho hop d3 (bt_tab ha hb el).2 hd1 (dst a b - 1) 1 true (by omega) (by omega) (Or.inl (by omega)) (fun y => fin _ y (by rw [Bool.true_and]; exact h))
/-- what is seen from a cell, bit by bit -/
def snF (op a : Nat) : Nat → Nat
  | 0 => 0
  | e + 1 => snF op a e ||| (if op.testBit a && seeM op a e then 2 ^ e else 0)
theorem snF_msk (op a : Nat) : ∀ k, snF op a k = mskF (fun e => op.testBit a && seeM op a e) k
  | 0 => rfl
  | k + 1 => by
    show snF op a k ||| _ = mskF _ k ||| _
    rw [snF_msk op a k]
theorem seeM_see {op a e : Nat} (ha : a < 15) (he : e < 15) (h : op.testBit a = true) : seeM op a e = (decide (e = a) || see op a e) := by
  unfold seeM see
  by_cases q : a = e
  · subst q; simp [h]
  · have q2 : (a == e) = false := by simpa using q
    have q3 : decide (e = a) = false := by simpa using fun z : e = a => q z.symm
    rw [q2, q3, Bool.false_or, Bool.false_or]
    cases hl : lne a e
    · simp
    · rw [bt_sub op ha he hl, Bool.true_and, Bool.and_true, Bool.and_comm]
theorem lkS_bit (op c : Nat) : ∀ k j, (lkS op c k).testBit j = (decide (j = c) || (decide (j < k) && see op c j))
  | 0, j => by
    show (2 ^ c).testBit j = _
    rw [Nat.testBit_two_pow]
    by_cases h : j = c
    · subst h; simp
    · have : ¬ c = j := fun z => h z.symm
      simp [h, this]
  | k + 1, j => by
    show (lkS op c k ||| (if see op c k then 2 ^ k else 0)).testBit j = _
    rw [Nat.testBit_or, lkS_bit op c k j]
    by_cases h : j = k
    · subst h
      cases hs : see op c j <;> simp [Nat.testBit_two_pow]
    · have h2 : (if see op c k = true then 2 ^ k else 0).testBit j = false := by
        split
        · rw [Nat.testBit_two_pow]; simpa using fun e => h e.symm
        · exact Nat.zero_testBit j
      have h3 : (j < k + 1) = (j < k) := propext ⟨fun _ => by omega, fun _ => by omega⟩
      rw [h2, Bool.or_false]
      simp only [h3]
theorem snF_sn {op a : Nat} (ha : a < 15) : snF op a 15 = sn op a := by
  rw [snF_msk]
  apply Nat.eq_of_testBit_eq
  intro j
  rw [mskF_bit]
  unfold sn
  cases h : op.testBit a
  · simp
  · rw [if_pos rfl, lkS_bit]
    by_cases hj : j < 15
    · rw [seeM_see ha hj h]; simp [hj]
    · have : ¬ j = a := by omega
      simp [hj, this]
theorem lp_seen {l : Launch} {K : KK} {d : Nat} {μ : Mm} {P : Option AV → Mm → Prop} {a op : Nat} (ha : a < 15) (ho : μ 8 0 0 2 = nI op) (hop : op < 2 ^ 15) (hd1 : 3 ≤ d) (h : P (some (vI (nI (snF op a 15)))) μ) : ∀ (r e : Nat), e + r = 15 → Go l K d 125 4 [some (vR 8 0 0), some (vI (nI a)), some (vI (nI (snF op a e))), some (vI (nI e))] [] μ P := by
  have hd2 : 1 ≤ d := by omega
  intro r
  induction r with
  | zero =>
    intro e he
    have e0 : e = 15 := by omega
    subst e0
    refine go_blk [(.iload_n 3, 0, 0, 0), (.bipush 15, 0, 0, 0), (.if_icmp .ge 39, 46, 0, 0)] (by decide +kernel) ?_
    simp only [e_il_3, e_bp_15, e_icmp_ge, e_nil, nol_n, nol_I, nol_R, rsum_0, rsum_I, rsum_R, ps_s, ps_n, true_and, and_true, Nat.reduceAdd, Nat.reduceLeDiff]
    refine ⟨fun c7 => ?_, fun c7 => ?_⟩
    · refine go_blk [(.iload_n 2, 0, 0, 0), (.ireturn, 0, 0, 0)] (by decide +kernel) ?_
      simp only [e_il_2, e_iret0, e_nil, nol_n, nol_I, nol_R, rsum_0, rsum_I, rsum_R, ps_s, ps_n, true_and, and_true, Nat.reduceAdd, Nat.reduceLeDiff]
      exact h
    · exact absurd (by decide) c7
  | succ r ih =>
    intro e he
    have u : snF op a (e + 1) = snF op a e ||| (if op.testBit a && seeM op a e then 2 ^ e else 0) := rfl
    have es := nI_shl (c := e) (by omega)
    have z0 : nI (snF op a e) ||| 0 = nI (snF op a e) := by rw [← nI_0, nI_or, Nat.or_zero]
    have g := ih (e + 1) (by omega)
    rw [u] at g
    refine go_blk [(.iload_n 3, 0, 0, 0), (.bipush 15, 0, 0, 0), (.if_icmp .ge 39, 46, 0, 0)] (by decide +kernel) ?_
    simp only [e_il_3, e_bp_15, e_icmp_ge, e_nil, nol_n, nol_I, nol_R, rsum_0, rsum_I, rsum_R, ps_s, ps_n, true_and, and_true, Nat.reduceAdd, Nat.reduceLeDiff, ho, hd2, bi_0, es, z0, nI_or]
    refine ⟨fun c7 => ?_, fun c7 => ?_⟩
    · exact absurd c7 (nI_ge (b := 15) (by omega) (by omega))
    · refine go_blk [(.iload_n 2, 0, 0, 0), (.aload_n 0, 0, 0, 0), (.getfield 80, 8, 2, 0), (.iload_n 1, 0, 0, 0), (.invokestatic 69, 104, 2, 0)] (by decide +kernel) ?_
      simp only [e_il_2, e_al_0, e_gf_8_2, e_il_1, e_ivs_2, rd_8_2, e_nil, Nat.reduceLT, nol_n, nol_I, nol_R, rsum_0, rsum_I, rsum_R, ps_s, ps_n, true_and, and_true, Nat.reduceAdd, Nat.reduceLeDiff, ho, hd2, bi_0, es, z0, nI_or]
      refine okm_has (by omega) (by omega) ?_
      refine go_blk [(.ifCond .eq 18, 37, 0, 0)] (by decide +kernel) ?_
      simp only [e_if_eq, e_nil, nol_n, nol_I, nol_R, rsum_0, rsum_I, rsum_R, ps_s, ps_n, true_and, and_true, Nat.reduceAdd, Nat.reduceLeDiff, ho, hd2, bi_0, es, z0, nI_or]
      refine ⟨fun c19 => ?_, fun c19 => ?_⟩
      · rw [c19, Bool.false_and, if_neg (by decide), Nat.or_zero] at g
        refine go_blk [(.iconst 0, 0, 0, 0), (.ior, 0, 0, 0), (.istore_n 2, 0, 0, 0), (.iinc 3 1, 0, 0, 0), (.goto (-39), 4, 0, 0)] (by decide +kernel) ?_
        simp only [e_ic_0, e_ior, e_is_2n, e_is_2I, e_is_2R, e_inc_3_1n, e_inc_3_1I, e_inc_3_1R, e_goto, e_nil, nol_n, nol_I, nol_R, rsum_0, rsum_I, rsum_R, ps_s, ps_n, true_and, and_true, Nat.reduceAdd, Nat.reduceLeDiff, ho, hd2, bi_0, es, z0, nI_or]
        rw [nI_1]
        exact g
      · rw [eq_true_of_ne_false c19, Bool.true_and] at g
        refine go_blk [(.aload_n 0, 0, 0, 0), (.iload_n 1, 0, 0, 0), (.iload_n 3, 0, 0, 0), (.invokevirtual 140, 124, 2, 8)] (by decide +kernel) ?_
        simp only [e_al_0, e_il_1, e_il_3, e_iv_8_2, e_nil, nol_n, nol_I, nol_R, rsum_0, rsum_I, rsum_R, ps_s, ps_n, true_and, and_true, Nat.reduceAdd, Nat.reduceLeDiff, ho, hd2, bi_0, es, z0, nI_or]
        refine okm_sees ha (by omega) ho hop (by omega) ?_
        refine go_blk [(.ifCond .eq 9, 37, 0, 0)] (by decide +kernel) ?_
        simp only [e_if_eq, e_nil, nol_n, nol_I, nol_R, rsum_0, rsum_I, rsum_R, ps_s, ps_n, true_and, and_true, Nat.reduceAdd, Nat.reduceLeDiff, ho, hd2, bi_0, es, z0, nI_or]
        refine ⟨fun c28 => ?_, fun c28 => ?_⟩
        · rw [c28, if_neg (by decide), Nat.or_zero] at g
          refine go_blk [(.iconst 0, 0, 0, 0), (.ior, 0, 0, 0), (.istore_n 2, 0, 0, 0), (.iinc 3 1, 0, 0, 0), (.goto (-39), 4, 0, 0)] (by decide +kernel) ?_
          simp only [e_ic_0, e_ior, e_is_2n, e_is_2I, e_is_2R, e_inc_3_1n, e_inc_3_1I, e_inc_3_1R, e_goto, e_nil, nol_n, nol_I, nol_R, rsum_0, rsum_I, rsum_R, ps_s, ps_n, true_and, and_true, Nat.reduceAdd, Nat.reduceLeDiff, ho, hd2, bi_0, es, z0, nI_or]
          rw [nI_1]
          exact g
        · rw [eq_true_of_ne_false c28, if_pos rfl] at g
          refine go_blk [(.iconst 1, 0, 0, 0), (.iload_n 3, 0, 0, 0), (.ishl, 0, 0, 0), (.goto 4, 38, 0, 0), (.ior, 0, 0, 0), (.istore_n 2, 0, 0, 0), (.iinc 3 1, 0, 0, 0), (.goto (-39), 4, 0, 0)] (by decide +kernel) ?_
          simp only [e_ic_1, e_il_3, e_ishl, e_goto, e_ior, e_is_2n, e_is_2I, e_is_2R, e_inc_3_1n, e_inc_3_1I, e_inc_3_1R, e_nil, nol_n, nol_I, nol_R, rsum_0, rsum_I, rsum_R, ps_s, ps_n, true_and, and_true, Nat.reduceAdd, Nat.reduceLeDiff, ho, hd2, bi_0, es, z0, nI_or]
          rw [nI_1]
          exact g
theorem okm_seen {l : Launch} {K : KK} {d : Nat} {μ : Mm} {P : Option AV → Mm → Prop} {a op : Nat} (ha : a < 15) (ho : μ 8 0 0 2 = nI op) (hop : op < 2 ^ 15) (hd1 : 3 ≤ d) (h : P (some (vI (nI (sn op a)))) μ) : Ok l K d 125 [vR 8 0 0, vI (nI a)] μ P := by
  refine ok_go 4 (by decide +kernel) [some (vR 8 0 0), some (vI (nI a)), none, none] rfl (Nat.le_of_ble_eq_true rfl) ?_
  rw [← snF_sn ha] at h
  refine go_blk [(.iconst 0, 0, 0, 0), (.istore_n 2, 0, 0, 0), (.iconst 0, 0, 0, 0), (.istore_n 3, 0, 0, 0)] (by decide +kernel) ?_
  simp only [e_ic_0, e_is_2n, e_is_2I, e_is_2R, e_is_3n, e_is_3I, e_is_3R, e_nil, nol_n, nol_I, nol_R, rsum_0, rsum_I, rsum_R, ps_s, ps_n, true_and, and_true, Nat.reduceAdd, Nat.reduceLeDiff]
  exact lp_seen ha ho hop hd1 h 15 0 rfl
