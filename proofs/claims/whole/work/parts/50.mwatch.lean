theorem pop_sub : ∀ n x y, x &&& y = x → y < 2 ^ n → popF n x ≤ popF n y ∧ (x ≠ y → popF n x < popF n y)
  | 0, x, y, h, hy => by
    have y0 : y = 0 := by omega
    subst y0
    rw [Nat.and_zero] at h
    exact ⟨Nat.le_refl _, fun z => absurd h.symm z⟩
  | n + 1, x, y, h, hy => by
    obtain ⟨q, a, ha, rfl⟩ := half x
    obtain ⟨w, b, hb, rfl⟩ := half y
    obtain ⟨s1, s2⟩ := sub2 ha hb h
    obtain ⟨i1, i2⟩ := pop_sub n q w s1 (by rw [Nat.pow_succ] at hy; omega)
    simp only [popF]
    rw [show (2 * q + a) % 2 = a by omega, show (2 * q + a) / 2 = q by omega, show (2 * w + b) % 2 = b by omega, show (2 * w + b) / 2 = w by omega]
    refine ⟨by omega, fun z => ?_⟩
    by_cases e : q = w
    · subst e; omega
    · have := i2 e; omega
theorem stg_bit (op m j : Nat) : ∀ c, (stgF op m c).testBit j = true ↔ ∃ e, e < c ∧ m.testBit e = true ∧ (sn op e).testBit j = true
  | 0 => by
    constructor
    · intro h
      have : (0 : Nat).testBit j = true := h
      rw [Nat.zero_testBit] at this; cases this
    · rintro ⟨e, h, -⟩; omega
  | c + 1 => by
    show (stgF op m c ||| (if m.testBit c then sn op c else 0)).testBit j = true ↔ _
    rw [Nat.testBit_or, Bool.or_eq_true, stg_bit op m j c]
    constructor
    · rintro (⟨e, h1, h2, h3⟩ | h)
      · exact ⟨e, by omega, h2, h3⟩
      · split at h
        · rename_i q
          exact ⟨c, by omega, q, h⟩
        · rw [Nat.zero_testBit] at h; cases h
    · rintro ⟨e, h1, h2, h3⟩
      by_cases z : e = c
      · subst z
        right
        rw [if_pos h2]; exact h3
      · exact Or.inl ⟨e, by omega, h2, h3⟩
theorem stg_op {op : Nat} (h : op < 2 ^ 15) : stgF op op 15 = op := by
  apply Nat.eq_of_testBit_eq
  intro j
  apply Bool.eq_iff_iff.mpr
  rw [stg_bit]
  constructor
  · rintro ⟨e, h1, h2, h3⟩
    unfold sn at h3
    rw [if_pos h2, lkS_bit, Bool.or_eq_true, decide_eq_true_eq, Bool.and_eq_true] at h3
    rcases h3 with z | ⟨-, z⟩
    · rw [z]; exact h2
    · unfold see at z
      rw [Bool.and_eq_true, Bool.and_eq_true] at z
      exact z.1.1
  · intro z
    have hj : j < 15 := by
      by_cases q : j < 15
      · exact q
      · rw [Nat.testBit_lt_two_pow (Nat.lt_of_lt_of_le h (Nat.pow_le_pow_right (by decide) (by omega)))] at z; cases z
    refine ⟨j, hj, z, ?_⟩
    unfold sn
    rw [if_pos z, lkS_bit]
    simp
/-- the watchers as the other class looks for them; 99999: none yet -/
def mwF (op : Nat) : Nat → Nat
  | 0 => 99999
  | k + 1 => if okW op k ∧ (mwF op k = 99999 ∨ pop k < pop (mwF op k)) then k else mwF op k
theorem mw_inv {op : Nat} (hop : op < 2 ^ 15) : ∀ k, k ≤ op → (mwF op k = 99999 ∧ cF op k = op) ∨ (mwF op k ≠ 99999 ∧ mwF op k = cF op k ∧ pop (cF op k) < pop op)
  | 0, _ => Or.inl ⟨rfl, rfl⟩
  | k + 1, h => by
    have um : mwF op (k + 1) = if okW op k ∧ (mwF op k = 99999 ∨ pop k < pop (mwF op k)) then k else mwF op k := rfl
    have uc : cF op (k + 1) = if okW op k ∧ pop k < pop (cF op k) then k else cF op k := rfl
    have ps : okW op k → pop k < pop op := fun z => (pop_sub 15 k op z.1 hop).2 (by omega)
    rcases mw_inv hop k (by omega) with ⟨a, b⟩ | ⟨a, b, c⟩
    · rw [um, uc, a, b]
      by_cases q : okW op k
      · rw [if_pos ⟨q, Or.inl rfl⟩, if_pos ⟨q, ps q⟩]
        exact Or.inr ⟨by omega, rfl, ps q⟩
      · rw [if_neg (fun z => q z.1), if_neg (fun z => q z.1)]
        exact Or.inl ⟨rfl, rfl⟩
    · rw [um, uc, b]
      by_cases q : okW op k ∧ pop k < pop (cF op k)
      · rw [if_pos ⟨q.1, Or.inr q.2⟩, if_pos q]
        exact Or.inr ⟨by omega, rfl, ps q.1⟩
      · rw [if_neg (fun z => q ⟨z.1, z.2.resolve_left (by rw [← b]; exact a)⟩), if_neg q]
        exact Or.inr ⟨by rw [← b]; exact a, rfl, c⟩
theorem mw_op {op : Nat} (hop : op < 2 ^ 15) : ∀ j, mwF op (op + 1 + j) = cF op op
  | 0 => by
    show (if okW op op ∧ (mwF op op = 99999 ∨ pop op < pop (mwF op op)) then op else mwF op op) = _
    rcases mw_inv hop op (Nat.le_refl op) with ⟨a, b⟩ | ⟨a, b, c⟩
    · rw [if_pos ⟨⟨Nat.and_self op, stg_op hop⟩, Or.inl a⟩, b]
    · rw [if_neg (fun z => ?_), b]
      rcases z.2 with y | y
      · exact a y
      · rw [b] at y; omega
  | j + 1 => by
    show (if okW op (op + 1 + j) ∧ _ then _ else mwF op (op + 1 + j)) = _
    rw [if_neg (fun z => by have := sub_le z.1.1; omega)]
    exact mw_op hop j
theorem mw_cF {op N : Nat} (hop : op < 2 ^ 15) (hN : N = 32768) : mwF op N = cF op op := by
  have := mw_op hop (N - (op + 1))
  rwa [show op + 1 + (N - (op + 1)) = N by omega] at this
theorem mw_lt (op : Nat) : ∀ k, mwF op k = 99999 ∨ mwF op k < k
  | 0 => Or.inl rfl
  | k + 1 => by
    have um : mwF op (k + 1) = if okW op k ∧ (mwF op k = 99999 ∨ pop k < pop (mwF op k)) then k else mwF op k := rfl
    rw [um]
    split
    · right; omega
    · rcases mw_lt op k with z | z
      · exact Or.inl z
      · right; omega
def eW (w : Nat) : Int32 := if w = 99999 then -1 else nI w
theorem nb15e {e : Nat} (h : e = 32768) : ((32768 : Int32) ≤ nI e) = True := eq_true (by
  rw [lit_nI 32768]
  exact nI_le (by omega) (by omega))
def WtR (μ : Mm) (op : Nat) : Prop := ∀ c, c < 15 → μ 8 0 23 c = nI (sn op c)
theorem lp_wi {l : Launch} {K : KK} {d : Nat} {μ : Mm} {P : Option AV → Mm → Prop} {op m : Nat} {x1 x2 x4 : Int32} (hm : m < 2 ^ 15) (hW : WtR μ op) (hd1 : 1 ≤ d) (hk : ∀ y6, Go l K d 146 93 [some (vR 8 0 0), some (vI x1), some (vI x2), some (vI (nI m)), some (vI x4), some (vI (nI (stgF op m 15))), y6] [] μ P) : ∀ (r e : Nat), e + r = 15 → Go l K d 146 55 [some (vR 8 0 0), some (vI x1), some (vI x2), some (vI (nI m)), some (vI x4), some (vI (nI (stgF op m e))), some (vI (nI e))] [] μ P := by
  intro r
  induction r with
  | zero =>
    intro e he
    have e0 : e = 15 := by omega
    subst e0
    refine go_blk [(.iload 6, 0, 0, 0), (.bipush 15, 0, 0, 0), (.if_icmp .ge 34, 93, 0, 0)] (by decide +kernel) ?_
    simp only [e_ilw_6, e_bp_15, e_icmp_ge, e_nil, nol_n, nol_I, nol_R, rsum_0, rsum_I, rsum_R, ps_s, ps_n, true_and, and_true, Nat.reduceAdd, Nat.reduceLeDiff]
    refine ⟨fun c59 => ?_, fun c59 => ?_⟩
    · exact hk _
    · exact absurd (by decide) c59
  | succ r ih =>
    intro e he
    have vi : vp_in (nI e) 15 := vin (by omega) (by omega)
    have hx : ix (nI e) = e := nI_ix (by omega)
    have hb := hW e (by omega)
    have u : stgF op m (e + 1) = stgF op m e ||| (if m.testBit e then sn op e else 0) := rfl
    have g := ih (e + 1) (by omega)
    rw [u] at g
    have z0 : nI (stgF op m e) ||| 0 = nI (stgF op m e) := by rw [← nI_0, nI_or, Nat.or_zero]
    refine go_blk [(.iload 6, 0, 0, 0), (.bipush 15, 0, 0, 0), (.if_icmp .ge 34, 93, 0, 0)] (by decide +kernel) ?_
    simp only [e_ilw_6, e_bp_15, e_icmp_ge, e_nil, nol_n, nol_I, nol_R, rsum_0, rsum_I, rsum_R, ps_s, ps_n, true_and, and_true, Nat.reduceAdd, Nat.reduceLeDiff, hd1, vi, hx, hb, bi_0, z0, nI_or]
    refine ⟨fun c59 => ?_, fun c59 => ?_⟩
    · exact absurd c59 (nI_ge (b := 15) (by omega) (by omega))
    · refine go_blk [(.iload 5, 0, 0, 0), (.iload_n 3, 0, 0, 0), (.iload 6, 0, 0, 0), (.invokestatic 69, 104, 2, 0)] (by decide +kernel) ?_
      simp only [e_ilw_5, e_il_3, e_ilw_6, e_ivs_2, e_nil, Nat.reduceLT, nol_n, nol_I, nol_R, rsum_0, rsum_I, rsum_R, ps_s, ps_n, true_and, and_true, Nat.reduceAdd, Nat.reduceLeDiff, hd1, vi, hx, hb, bi_0, z0, nI_or]
      refine okm_has (by omega) (by omega) ?_
      refine go_blk [(.ifCond .eq 13, 83, 0, 0)] (by decide +kernel) ?_
      simp only [e_if_eq, e_nil, nol_n, nol_I, nol_R, rsum_0, rsum_I, rsum_R, ps_s, ps_n, true_and, and_true, Nat.reduceAdd, Nat.reduceLeDiff, hd1, vi, hx, hb, bi_0, z0, nI_or]
      refine ⟨fun c70 => ?_, fun c70 => ?_⟩
      · rw [c70, if_neg (by decide), Nat.or_zero] at g
        refine go_blk [(.iconst 0, 0, 0, 0), (.ior, 0, 0, 0), (.istore 5, 0, 0, 0), (.iinc 6 1, 0, 0, 0), (.goto (-35), 55, 0, 0)] (by decide +kernel) ?_
        simp only [e_ic_0, e_ior, e_isw_5n, e_isw_5I, e_isw_5R, e_inc_6_1n, e_inc_6_1I, e_inc_6_1R, e_goto, e_nil, nol_n, nol_I, nol_R, rsum_0, rsum_I, rsum_R, ps_s, ps_n, true_and, and_true, Nat.reduceAdd, Nat.reduceLeDiff, hd1, vi, hx, hb, bi_0, z0, nI_or]
        rw [nI_1]
        exact g
      · rw [eq_true_of_ne_false c70, if_pos rfl] at g
        refine go_blk [(.aload_n 0, 0, 0, 0), (.getfield 30, 8, 22, 0), (.iload 6, 0, 0, 0), (.iaload, 0, 0, 0), (.goto 4, 84, 0, 0), (.ior, 0, 0, 0), (.istore 5, 0, 0, 0), (.iinc 6 1, 0, 0, 0), (.goto (-35), 55, 0, 0)] (by decide +kernel) ?_
        simp only [e_al_0, e_gf_8_22, e_ilw_6, e_ia, e_goto, e_ior, e_isw_5n, e_isw_5I, e_isw_5R, e_inc_6_1n, e_inc_6_1I, e_inc_6_1R, rd_8_22, ai_0_4, ai_1_7, ai_2_1, ai_2_2, ai_3_1, ai_4_1, ai_6_3, ai_6_4, ai_6_5, ai_6_6, ai_6_7, ai_6_8, ai_8_5, ai_8_6, ai_8_17, ai_8_21, ai_8_23, ai_8_24, ai_8_27, ai_8_28, ai_8_38, ai_8_39, ai_8_40, e_nil, nol_n, nol_I, nol_R, rsum_0, rsum_I, rsum_R, ps_s, ps_n, true_and, and_true, Nat.reduceAdd, Nat.reduceLeDiff, hd1, vi, hx, hb, bi_0, z0, nI_or]
        rw [nI_1]
        exact g
theorem lp_wn {l : Launch} {K : KK} {d : Nat} {μ : Mm} {P : Option AV → Mm → Prop} {op N : Nat} {x1 : Int32} (hN : N = 32768) (hop : op < 2 ^ 15) (ho : μ 8 0 0 2 = nI op) (hW : WtR μ op) (hd1 : 1 ≤ d) (hk : ∀ y4 y5 y6, Go l K d 146 114 [some (vR 8 0 0), some (vI x1), some (vI (eW (mwF op N))), some (vI (nI N)), y4, y5, y6] [] μ P) : ∀ (r k : Nat) (y4 y5 y6 : Option AV), k + r = N → Go l K d 146 4 [some (vR 8 0 0), some (vI x1), some (vI (eW (mwF op k))), some (vI (nI k)), y4, y5, y6] [] μ P := by
  intro r
  induction r with
  | zero =>
    intro k y4 y5 y6 he
    have e0 : k = N := by omega
    subst e0
    have nb := nb15e hN
    refine go_blk [(.iload_n 3, 0, 0, 0), (.ldc 189, 0, 0, 32768), (.if_icmp .ge 107, 114, 0, 0)] (by decide +kernel) ?_
    simp only [e_il_3, e_ldc_32768, e_icmp_ge, e_nil, nol_n, nol_I, nol_R, rsum_0, rsum_I, rsum_R, ps_s, ps_n, true_and, and_true, Nat.reduceAdd, Nat.reduceLeDiff, nb, true_implies, false_implies, not_true_eq_false, not_false_eq_true]
    exact hk _ _ _
  | succ r ih =>
    intro k y4 y5 y6 he
    have nb := nb15 (e := k) (by omega)
    have hm : k < 2 ^ 15 := by omega
    have um : mwF op (k + 1) = if okW op k ∧ (mwF op k = 99999 ∨ pop k < pop (mwF op k)) then k else mwF op k := rfl
    have g := fun y4 y5 y6 => ih (k + 1) y4 y5 y6 (by omega)
    rw [um] at g
    have wl := mw_lt op k
    have pl := pop_le k
    have pf := pop_le (mwF op k)
    have e23 : (nI (pop (mwF op k)) ≤ nI (pop k)) = (pop (mwF op k) ≤ pop k) := propext (nI_leI (by omega) (by omega))
    have eo := nI_out (m := k) (o := op) (by omega)
    have sl := stgF_lt op k 15 (by omega)
    have e99 : (nI (stgF op k 15) = nI op) = (stgF op k 15 = op) := propext (nI_eq (by omega) (by omega))
    have ek : eW k = nI k := by unfold eW; rw [if_neg (by omega)]
    refine go_blk [(.iload_n 3, 0, 0, 0), (.ldc 189, 0, 0, 32768), (.if_icmp .ge 107, 114, 0, 0)] (by decide +kernel) ?_
    simp only [e_il_3, e_ldc_32768, e_icmp_ge, e_nil, nol_n, nol_I, nol_R, rsum_0, rsum_I, rsum_R, ps_s, ps_n, true_and, and_true, Nat.reduceAdd, Nat.reduceLeDiff, nb, e23, ho, eo, e99, hd1, Classical.not_not, true_implies, false_implies, not_true_eq_false, not_false_eq_true]
    refine go_blk [(.iload_n 2, 0, 0, 0), (.iconst (-1), 0, 0, 0), (.if_icmp .eq 14, 26, 0, 0)] (by decide +kernel) ?_
    simp only [e_il_2, e_ic_m1, e_icmp_eq, e_nil, nol_n, nol_I, nol_R, rsum_0, rsum_I, rsum_R, ps_s, ps_n, true_and, and_true, Nat.reduceAdd, Nat.reduceLeDiff, nb, e23, ho, eo, e99, hd1, Classical.not_not, true_implies, false_implies, not_true_eq_false, not_false_eq_true]
    refine ⟨fun c12 => ?_, fun c12 => ?_⟩
    · have few : mwF op k = 99999 ∨ pop k < pop (mwF op k) := by
        left
        rcases wl with z | z
        · exact z
        · unfold eW at c12
          rw [if_neg (by omega)] at c12
          exact absurd c12 (nI_nm1 (by omega))
      refine go_blk [(.iconst 1, 0, 0, 0), (.goto 4, 31, 0, 0), (.istore 4, 0, 0, 0), (.iload 4, 0, 0, 0), (.ifCond .eq 73, 108, 0, 0)] (by decide +kernel) ?_
      simp only [e_ic_1, e_goto, e_isw_4n, e_isw_4I, e_isw_4R, e_ilw_4, e_if_eq, e_nil, (show ((1 : Int32) = 0) = False by decide), true_implies, false_implies, not_true_eq_false, not_false_eq_true, nol_n, nol_I, nol_R, rsum_0, rsum_I, rsum_R, ps_s, ps_n, true_and, and_true, Nat.reduceAdd, Nat.reduceLeDiff, nb, e23, ho, eo, e99, hd1, Classical.not_not, true_implies, false_implies, not_true_eq_false, not_false_eq_true]
      refine go_blk [(.iload_n 3, 0, 0, 0), (.aload_n 0, 0, 0, 0), (.getfield 80, 8, 2, 0), (.iconst (-1), 0, 0, 0), (.ixor, 0, 0, 0), (.iand, 0, 0, 0), (.ifCond .ne 62, 108, 0, 0)] (by decide +kernel) ?_
      simp only [e_il_3, e_al_0, e_gf_8_2, e_ic_m1, e_ixor, e_iand, e_if_ne, rd_8_2, e_nil, nol_n, nol_I, nol_R, rsum_0, rsum_I, rsum_R, ps_s, ps_n, true_and, and_true, Nat.reduceAdd, Nat.reduceLeDiff, nb, e23, ho, eo, e99, hd1, Classical.not_not, true_implies, false_implies, not_true_eq_false, not_false_eq_true]
      refine ⟨fun c46 => ?_, fun c46 => ?_⟩
      · rw [if_neg (fun z => c46 z.1.1)] at g
        refine go_blk [(.iinc 3 1, 0, 0, 0), (.goto (-107), 4, 0, 0)] (by decide +kernel) ?_
        simp only [e_inc_3_1n, e_inc_3_1I, e_inc_3_1R, e_goto, e_nil, nol_n, nol_I, nol_R, rsum_0, rsum_I, rsum_R, ps_s, ps_n, true_and, and_true, Nat.reduceAdd, Nat.reduceLeDiff, nb, e23, ho, eo, e99, hd1, Classical.not_not, true_implies, false_implies, not_true_eq_false, not_false_eq_true]
        rw [nI_1]
        exact g _ _ _
      · refine go_blk [(.iconst 0, 0, 0, 0), (.istore 5, 0, 0, 0), (.iconst 0, 0, 0, 0), (.istore 6, 0, 0, 0)] (by decide +kernel) ?_
        simp only [e_ic_0, e_isw_5n, e_isw_5I, e_isw_5R, e_isw_6n, e_isw_6I, e_isw_6R, e_nil, nol_n, nol_I, nol_R, rsum_0, rsum_I, rsum_R, ps_s, ps_n, true_and, and_true, Nat.reduceAdd, Nat.reduceLeDiff, nb, e23, ho, eo, e99, hd1, Classical.not_not, true_implies, false_implies, not_true_eq_false, not_false_eq_true]
        refine lp_wi hm hW hd1 (fun y6 => ?_) 15 0 rfl
        refine go_blk [(.iload 5, 0, 0, 0), (.aload_n 0, 0, 0, 0), (.getfield 80, 8, 2, 0), (.if_icmp .ne 7, 106, 0, 0)] (by decide +kernel) ?_
        simp only [e_ilw_5, e_al_0, e_gf_8_2, e_icmp_ne, rd_8_2, e_nil, nol_n, nol_I, nol_R, rsum_0, rsum_I, rsum_R, ps_s, ps_n, true_and, and_true, Nat.reduceAdd, Nat.reduceLeDiff, nb, e23, ho, eo, e99, hd1, Classical.not_not, true_implies, false_implies, not_true_eq_false, not_false_eq_true]
        refine ⟨fun c99 => ?_, fun c99 => ?_⟩
        · rw [if_neg (fun z => c99 z.1.2)] at g
          refine go_blk [(.iload_n 2, 0, 0, 0), (.istore_n 2, 0, 0, 0), (.iinc 3 1, 0, 0, 0), (.goto (-107), 4, 0, 0)] (by decide +kernel) ?_
          simp only [e_il_2, e_is_2n, e_is_2I, e_is_2R, e_inc_3_1n, e_inc_3_1I, e_inc_3_1R, e_goto, e_nil, nol_n, nol_I, nol_R, rsum_0, rsum_I, rsum_R, ps_s, ps_n, true_and, and_true, Nat.reduceAdd, Nat.reduceLeDiff, nb, e23, ho, eo, e99, hd1, Classical.not_not, true_implies, false_implies, not_true_eq_false, not_false_eq_true]
          rw [nI_1]
          exact g _ _ _
        · rw [if_pos ⟨⟨c46, c99⟩, few⟩, ek] at g
          refine go_blk [(.iload_n 3, 0, 0, 0), (.goto 4, 107, 0, 0), (.istore_n 2, 0, 0, 0), (.iinc 3 1, 0, 0, 0), (.goto (-107), 4, 0, 0)] (by decide +kernel) ?_
          simp only [e_il_3, e_goto, e_is_2n, e_is_2I, e_is_2R, e_inc_3_1n, e_inc_3_1I, e_inc_3_1R, e_nil, nol_n, nol_I, nol_R, rsum_0, rsum_I, rsum_R, ps_s, ps_n, true_and, and_true, Nat.reduceAdd, Nat.reduceLeDiff, nb, e23, ho, eo, e99, hd1, Classical.not_not, true_implies, false_implies, not_true_eq_false, not_false_eq_true]
          rw [nI_1]
          exact g _ _ _
    · have w9 : mwF op k ≠ 99999 := fun z => c12 (by unfold eW; rw [if_pos z])
      have ew : eW (mwF op k) = nI (mwF op k) := by unfold eW; rw [if_neg w9]
      refine go_blk [(.iload_n 3, 0, 0, 0), (.invokestatic 117, 105, 1, 0)] (by decide +kernel) ?_
      simp only [e_il_3, e_ivs_1, e_nil, Nat.reduceLT, nol_n, nol_I, nol_R, rsum_0, rsum_I, rsum_R, ps_s, ps_n, true_and, and_true, Nat.reduceAdd, Nat.reduceLeDiff, nb, e23, ho, eo, e99, hd1, Classical.not_not, true_implies, false_implies, not_true_eq_false, not_false_eq_true]
      refine okm_size hm ?_
      refine go_blk [(.iload_n 2, 0, 0, 0), (.invokestatic 117, 105, 1, 0)] (by decide +kernel) ?_
      simp only [e_il_2, e_ivs_1, e_nil, Nat.reduceLT, nol_n, nol_I, nol_R, rsum_0, rsum_I, rsum_R, ps_s, ps_n, true_and, and_true, Nat.reduceAdd, Nat.reduceLeDiff, nb, e23, ho, eo, e99, hd1, Classical.not_not, true_implies, false_implies, not_true_eq_false, not_false_eq_true]
      rw [ew]
      refine okm_size (by omega) ?_
      rw [← ew]
      refine go_blk [(.if_icmp .ge 7, 30, 0, 0)] (by decide +kernel) ?_
      simp only [e_icmp_ge, e_nil, nol_n, nol_I, nol_R, rsum_0, rsum_I, rsum_R, ps_s, ps_n, true_and, and_true, Nat.reduceAdd, Nat.reduceLeDiff, nb, e23, ho, eo, e99, hd1, Classical.not_not, true_implies, false_implies, not_true_eq_false, not_false_eq_true]
      refine ⟨fun c23 => ?_, fun c23 => ?_⟩
      · rw [if_neg (fun z => by rcases z.2 with y | y; exact w9 y; omega)] at g
        refine go_blk [(.iconst 0, 0, 0, 0), (.istore 4, 0, 0, 0), (.iload 4, 0, 0, 0), (.ifCond .eq 73, 108, 0, 0)] (by decide +kernel) ?_
        simp only [e_ic_0, e_isw_4n, e_isw_4I, e_isw_4R, e_ilw_4, e_if_eq, e_nil, (show ((0 : Int32) = 0) = True by decide), true_implies, false_implies, not_true_eq_false, not_false_eq_true, nol_n, nol_I, nol_R, rsum_0, rsum_I, rsum_R, ps_s, ps_n, true_and, and_true, Nat.reduceAdd, Nat.reduceLeDiff, nb, e23, ho, eo, e99, hd1, Classical.not_not, true_implies, false_implies, not_true_eq_false, not_false_eq_true]
        refine go_blk [(.iinc 3 1, 0, 0, 0), (.goto (-107), 4, 0, 0)] (by decide +kernel) ?_
        simp only [e_inc_3_1n, e_inc_3_1I, e_inc_3_1R, e_goto, e_nil, nol_n, nol_I, nol_R, rsum_0, rsum_I, rsum_R, ps_s, ps_n, true_and, and_true, Nat.reduceAdd, Nat.reduceLeDiff, nb, e23, ho, eo, e99, hd1, Classical.not_not, true_implies, false_implies, not_true_eq_false, not_false_eq_true]
        rw [nI_1]
        exact g _ _ _
      · have few : mwF op k = 99999 ∨ pop k < pop (mwF op k) := Or.inr (by omega)
        refine go_blk [(.iconst 1, 0, 0, 0), (.goto 4, 31, 0, 0), (.istore 4, 0, 0, 0), (.iload 4, 0, 0, 0), (.ifCond .eq 73, 108, 0, 0)] (by decide +kernel) ?_
        simp only [e_ic_1, e_goto, e_isw_4n, e_isw_4I, e_isw_4R, e_ilw_4, e_if_eq, e_nil, (show ((1 : Int32) = 0) = False by decide), true_implies, false_implies, not_true_eq_false, not_false_eq_true, nol_n, nol_I, nol_R, rsum_0, rsum_I, rsum_R, ps_s, ps_n, true_and, and_true, Nat.reduceAdd, Nat.reduceLeDiff, nb, e23, ho, eo, e99, hd1, Classical.not_not, true_implies, false_implies, not_true_eq_false, not_false_eq_true]
        refine go_blk [(.iload_n 3, 0, 0, 0), (.aload_n 0, 0, 0, 0), (.getfield 80, 8, 2, 0), (.iconst (-1), 0, 0, 0), (.ixor, 0, 0, 0), (.iand, 0, 0, 0), (.ifCond .ne 62, 108, 0, 0)] (by decide +kernel) ?_
        simp only [e_il_3, e_al_0, e_gf_8_2, e_ic_m1, e_ixor, e_iand, e_if_ne, rd_8_2, e_nil, nol_n, nol_I, nol_R, rsum_0, rsum_I, rsum_R, ps_s, ps_n, true_and, and_true, Nat.reduceAdd, Nat.reduceLeDiff, nb, e23, ho, eo, e99, hd1, Classical.not_not, true_implies, false_implies, not_true_eq_false, not_false_eq_true]
        refine ⟨fun c46 => ?_, fun c46 => ?_⟩
        · rw [if_neg (fun z => c46 z.1.1)] at g
          refine go_blk [(.iinc 3 1, 0, 0, 0), (.goto (-107), 4, 0, 0)] (by decide +kernel) ?_
          simp only [e_inc_3_1n, e_inc_3_1I, e_inc_3_1R, e_goto, e_nil, nol_n, nol_I, nol_R, rsum_0, rsum_I, rsum_R, ps_s, ps_n, true_and, and_true, Nat.reduceAdd, Nat.reduceLeDiff, nb, e23, ho, eo, e99, hd1, Classical.not_not, true_implies, false_implies, not_true_eq_false, not_false_eq_true]
          rw [nI_1]
          exact g _ _ _
        · refine go_blk [(.iconst 0, 0, 0, 0), (.istore 5, 0, 0, 0), (.iconst 0, 0, 0, 0), (.istore 6, 0, 0, 0)] (by decide +kernel) ?_
          simp only [e_ic_0, e_isw_5n, e_isw_5I, e_isw_5R, e_isw_6n, e_isw_6I, e_isw_6R, e_nil, nol_n, nol_I, nol_R, rsum_0, rsum_I, rsum_R, ps_s, ps_n, true_and, and_true, Nat.reduceAdd, Nat.reduceLeDiff, nb, e23, ho, eo, e99, hd1, Classical.not_not, true_implies, false_implies, not_true_eq_false, not_false_eq_true]
          refine lp_wi hm hW hd1 (fun y6 => ?_) 15 0 rfl
          refine go_blk [(.iload 5, 0, 0, 0), (.aload_n 0, 0, 0, 0), (.getfield 80, 8, 2, 0), (.if_icmp .ne 7, 106, 0, 0)] (by decide +kernel) ?_
          simp only [e_ilw_5, e_al_0, e_gf_8_2, e_icmp_ne, rd_8_2, e_nil, nol_n, nol_I, nol_R, rsum_0, rsum_I, rsum_R, ps_s, ps_n, true_and, and_true, Nat.reduceAdd, Nat.reduceLeDiff, nb, e23, ho, eo, e99, hd1, Classical.not_not, true_implies, false_implies, not_true_eq_false, not_false_eq_true]
          refine ⟨fun c99 => ?_, fun c99 => ?_⟩
          · rw [if_neg (fun z => c99 z.1.2)] at g
            refine go_blk [(.iload_n 2, 0, 0, 0), (.istore_n 2, 0, 0, 0), (.iinc 3 1, 0, 0, 0), (.goto (-107), 4, 0, 0)] (by decide +kernel) ?_
            simp only [e_il_2, e_is_2n, e_is_2I, e_is_2R, e_inc_3_1n, e_inc_3_1I, e_inc_3_1R, e_goto, e_nil, nol_n, nol_I, nol_R, rsum_0, rsum_I, rsum_R, ps_s, ps_n, true_and, and_true, Nat.reduceAdd, Nat.reduceLeDiff, nb, e23, ho, eo, e99, hd1, Classical.not_not, true_implies, false_implies, not_true_eq_false, not_false_eq_true]
            rw [nI_1]
            exact g _ _ _
          · rw [if_pos ⟨⟨c46, c99⟩, few⟩, ek] at g
            refine go_blk [(.iload_n 3, 0, 0, 0), (.goto 4, 107, 0, 0), (.istore_n 2, 0, 0, 0), (.iinc 3 1, 0, 0, 0), (.goto (-107), 4, 0, 0)] (by decide +kernel) ?_
            simp only [e_il_3, e_goto, e_is_2n, e_is_2I, e_is_2R, e_inc_3_1n, e_inc_3_1I, e_inc_3_1R, e_nil, nol_n, nol_I, nol_R, rsum_0, rsum_I, rsum_R, ps_s, ps_n, true_and, and_true, Nat.reduceAdd, Nat.reduceLeDiff, nb, e23, ho, eo, e99, hd1, Classical.not_not, true_implies, false_implies, not_true_eq_false, not_false_eq_true]
            rw [nI_1]
            exact g _ _ _
theorem okm_watchNow {l : Launch} {K : KK} {d : Nat} {μ : Mm} {P : Option AV → Mm → Prop} {op wh : Nat} (hop : op < 2 ^ 15) (ho : μ 8 0 0 2 = nI op) (hW : WtR μ op) (hwh : wh < 2) (hd1 : 1 ≤ d) (h : P (some (vI (if wh = 1 then nI (cF op op) else nI (pop (cF op op))))) μ) : Ok l K d 146 [vR 8 0 0, vI (nI wh)] μ P := by
  refine ok_go 7 (by decide +kernel) [some (vR 8 0 0), some (vI (nI wh)), none, none, none, none, none] rfl (Nat.le_of_ble_eq_true rfl) ?_
  obtain ⟨N, hN⟩ : ∃ N, N = 32768 := ⟨_, rfl⟩
  have cl := cF_le op op (Nat.le_refl op)
  have ec : eW (mwF op N) = nI (cF op op) := by rw [mw_cF hop hN]; unfold eW; rw [if_neg (by omega)]
  have e116 : (nI wh = 1) = (wh = 1) := propext (nI_eq (b := 1) (by omega) (by omega))
  refine go_blk [(.iconst (-1), 0, 0, 0), (.istore_n 2, 0, 0, 0), (.iconst 0, 0, 0, 0), (.istore_n 3, 0, 0, 0)] (by decide +kernel) ?_
  simp only [e_ic_m1, e_is_2n, e_is_2I, e_is_2R, e_ic_0, e_is_3n, e_is_3I, e_is_3R, e_nil, nol_n, nol_I, nol_R, rsum_0, rsum_I, rsum_R, ps_s, ps_n, true_and, and_true, Nat.reduceAdd, Nat.reduceLeDiff]
  refine lp_wn (N := N) hN hop ho hW hd1 (fun y4 y5 y6 => ?_) N 0 none none none (by omega)
  rw [ec]
  refine go_blk [(.iload_n 1, 0, 0, 0), (.iconst 1, 0, 0, 0), (.if_icmp .ne 7, 123, 0, 0)] (by decide +kernel) ?_
  simp only [e_il_1, e_ic_1, e_icmp_ne, e_nil, nol_n, nol_I, nol_R, rsum_0, rsum_I, rsum_R, ps_s, ps_n, true_and, and_true, Nat.reduceAdd, Nat.reduceLeDiff, e116, hd1]
  refine ⟨fun c116 => ?_, fun c116 => ?_⟩
  · rw [if_neg c116] at h
    refine go_blk [(.iload_n 2, 0, 0, 0), (.invokestatic 117, 105, 1, 0)] (by decide +kernel) ?_
    simp only [e_il_2, e_ivs_1, e_nil, Nat.reduceLT, nol_n, nol_I, nol_R, rsum_0, rsum_I, rsum_R, ps_s, ps_n, true_and, and_true, Nat.reduceAdd, Nat.reduceLeDiff, e116, hd1]
    refine okm_size (by omega) ?_
    refine go_blk [(.ireturn, 0, 0, 0)] (by decide +kernel) ?_
    simp only [e_iret0, e_nil, nol_n, nol_I, nol_R, rsum_0, rsum_I, rsum_R, ps_s, ps_n, true_and, and_true, Nat.reduceAdd, Nat.reduceLeDiff, e116, hd1]
    exact h
  · rw [if_pos c116] at h
    refine go_blk [(.iload_n 2, 0, 0, 0), (.goto 7, 127, 0, 0), (.ireturn, 0, 0, 0)] (by decide +kernel) ?_
    simp only [e_il_2, e_goto, e_iret0, e_nil, nol_n, nol_I, nol_R, rsum_0, rsum_I, rsum_R, ps_s, ps_n, true_and, and_true, Nat.reduceAdd, Nat.reduceLeDiff, e116, hd1]
    exact h
