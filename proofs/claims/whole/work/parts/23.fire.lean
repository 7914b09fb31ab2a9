def dU (a b : Nat) : Nat := if a / 5 < b / 5 then 2 else if b / 5 < a / 5 then 0 else 1
def dV (a b : Nat) : Nat := if a % 5 < b % 5 then 2 else if b % 5 < a % 5 then 0 else 1
theorem dir_tab : ∀ a, a < 15 → ∀ b, b < 15 → sg (dnI a b) = dI (dU a b) ∧ sg (rtI a b) = dI (dV a b) ∧ dU a b < 3 ∧ dV a b < 3 := by decide +kernel
/-- the pea flies: k flights at most, the next struck is w (99: none), c have fallen or gone over -/
def flF (op u v : Nat) : Nat → TS → Nat → Nat → TS × Nat
  | 0, t, _, c => (t, c)
  | k + 1, t, w, c => if w = 99 then (t, c) else flF op u v k (stkT t w) (if t 3 w = 4 then fbS op (stkT t w) (t 5 w) u v else 99) (c + stkN t w)
def pea (t : TS) (a : Nat) : TS := tu t 8 (t 4 a) (t 8 (t 4 a) - 1)
/-- a shot of a at b -/
def fireS (op : Nat) (t : TS) (a b : Nat) (hit : Bool) : TS × Nat := flF op (dU (t 5 a) (t 5 b)) (dV (t 5 a) (t 5 b)) 6 (pea t a) (if hit then b else 99) 0
theorem stk_n (t : TS) (b : Nat) : stkT t b 0 1 = t 0 1 := by
  unfold stkT; split
  · exact tu_ne (by omega)
  · rw [tu_ne (by omega), tu_ne (by omega)]
theorem stk_3 (t : TS) (b j : Nat) : stkT t b 3 j = t 3 j ∧ stkT t b 5 j = t 5 j ∧ stkT t b 8 j = t 8 j := by
  unfold stkT; split
  · exact ⟨tu_ne (by omega), tu_ne (by omega), tu_ne (by omega)⟩
  · exact ⟨by rw [tu_ne (by omega), tu_ne (by omega)], by rw [tu_ne (by omega), tu_ne (by omega)], by rw [tu_ne (by omega), tu_ne (by omega)]⟩
theorem hf_le (k : Nat) : 1 ≤ hf k ∧ hf k ≤ 2 := by unfold hf; split <;> (try split) <;> omega
theorem stk_inv {op : Nat} {t : TS} {b : Nat} (hI : TInv op t) (hb : b < t 0 1) (hs : stn t b = true) : TInv op (stkT t b) := by
  have hs1 : t 7 b = 1 := by simpa [stn] using hs
  have hh := hf_le (t 3 b)
  obtain ⟨h1, h2, h3, h4⟩ := hI
  refine ⟨by rw [stk_n]; exact h1, fun j hj => ?_, fun j hj => by rw [(stk_3 t b j).2.2]; exact h3 j hj, fun x y hx hy e => ?_⟩
  · rw [stk_n] at hj
    obtain ⟨g3, g4, g5, g6, g7, g8, g9, g10⟩ := h2 j hj
    rw [(stk_3 t b j).1, (stk_3 t b j).2.1]
    by_cases hk : t 3 b = 2
    · have e : stkT t b = tu t 4 b (1 - t 4 b) := by simp [stkT, hk]
      rw [e, tu_ne (s' := 6) (by omega), tu_ne (s' := 7) (by omega)]
      refine ⟨g3, ?_, g5, g6, g7, g8, g9, g10⟩
      by_cases hj2 : j = b
      · subst hj2; rw [tu_self]; omega
      · rw [tu_ne (by omega)]; exact g4
    · have e : stkT t b = tu (tu t 6 b (t 6 b + 1)) 7 b (if hf (t 3 b) ≤ t 6 b + 1 then 0 else 1) := by simp [stkT, hk]
      rw [e, tu_ne (s' := 4) (by omega), tu_ne (s' := 4) (by omega)]
      by_cases hj2 : j = b
      · subst hj2
        have g11 := g10 hk hs1
        rw [tu_self, tu_ne (s' := 6) (by omega), tu_self]
        refine ⟨g3, g4, g5, by omega, by split <;> omega, g8, fun z => absurd z hk, fun _ z => ?_⟩
        by_cases q : hf (t 3 j) ≤ t 6 j + 1
        · rw [if_pos q] at z; omega
        · omega
      · rw [tu_ne (s' := 6) (by omega), tu_ne (s' := 6) (by omega), tu_ne (s' := 7) (by omega), tu_ne (s' := 7) (by omega)]
        exact ⟨g3, g4, g5, g6, g7, g8, g9, g10⟩
  · rw [stk_n] at hx hy
    rw [(stk_3 t b x).2.1, (stk_3 t b y).2.1] at e
    exact h4 x y hx hy e
theorem fbF_sp {op : Nat} {t : TS} (hn : t 0 1 ≤ 6) (c u v : Nat) : ∀ k s, fbF op t c u v k s = 99 ∨ (fbF op t c u v k s < t 0 1 ∧ stn t (fbF op t c u v k s) = true)
  | 0, s => Or.inl rfl
  | k + 1, s => by
    unfold fbF
    split
    · exact Or.inl rfl
    · split
      · exact Or.inl rfl
      · split
        · rename_i h
          rcases whoN_sp hn (rayN c u v s) with q | q
          · exact absurd q.1 h.1
          · exact Or.inr ⟨q.1, h.2⟩
        · exact fbF_sp hn c u v k (s + 1)
theorem fl_inv {op u v : Nat} : ∀ (k : Nat) {t : TS} {w : Nat} (c : Nat), TInv op t → (w = 99 ∨ w < t 0 1 ∧ stn t w = true) → TInv op (flF op u v k t w c).1 ∧ (flF op u v k t w c).1 0 1 = t 0 1 ∧ ∀ j, (flF op u v k t w c).1 3 j = t 3 j ∧ (flF op u v k t w c).1 5 j = t 5 j ∧ (flF op u v k t w c).1 8 j = t 8 j
  | 0, t, w, c, hI, _ => ⟨hI, rfl, fun j => ⟨rfl, rfl, rfl⟩⟩
  | k + 1, t, w, c, hI, hw => by
    unfold flF
    by_cases h : w = 99
    · rw [if_pos h]; exact ⟨hI, rfl, fun j => ⟨rfl, rfl, rfl⟩⟩
    · rw [if_neg h]
      obtain ⟨h1, h2⟩ := hw.resolve_left h
      have hI2 := stk_inv hI h1 h2
      have key : (if t 3 w = 4 then fbS op (stkT t w) (t 5 w) u v else 99) = 99 ∨ (if t 3 w = 4 then fbS op (stkT t w) (t 5 w) u v else 99) < stkT t w 0 1 ∧ stn (stkT t w) (if t 3 w = 4 then fbS op (stkT t w) (t 5 w) u v else 99) = true := by
        split
        · exact fbF_sp hI2.1 (t 5 w) u v 4 1
        · exact Or.inl rfl
      obtain ⟨g1, g2, g3⟩ := fl_inv k (c + stkN t w) hI2 key
      refine ⟨g1, g2.trans (stk_n t w), fun j => ?_⟩
      obtain ⟨q1, q2, q3⟩ := g3 j
      obtain ⟨r1, r2, r3⟩ := stk_3 t w j
      exact ⟨q1.trans r1, q2.trans r2, q3.trans r3⟩
theorem lp_fire {l : Launch} {K : KK} {d : Nat} {P : Option AV → Mm → Prop} {i : Nat} (hi : i < 6) {μ0 : Mm} {op u v : Nat} {xa xb2 xh : Int32} (hu : u < 3) (hv0 : v < 3) (hC : CRep μ0 true op) (hd1 : 2 ≤ d) : ∀ (k fl : Nat) (t : TS) (w c : Nat) (μ : Mm) (y9 : Option AV), fl + k = 6 → TRep μ i t → TInv op t → (w = 99 ∨ w < t 0 1 ∧ stn t w = true) → OffT i μ0 μ → (∀ μ2, TRep μ2 i (flF op u v k t w c).1 → OffT i μ0 μ2 → P (some (vI (nI (flF op u v k t w c).2))) μ2) → Go l K d 68 84 [some (vR 6 i 0), some (vI xa), some (vI xb2), some (vI xh), some (vI (dI u)), some (vI (dI v)), some (vI (nI c)), some (vI (eN w)), some (vI (nI fl)), y9] [] μ P := by
  have hd2 : 1 ≤ d := by omega
  intro k
  induction k with
  | zero =>
    intro fl t w c μ y9 hf6 hT hI hw hO h
    have e6 : fl = 6 := by omega
    subst e6
    refine go_blk [(.iload 8, 0, 0, 0), (.bipush 6, 0, 0, 0), (.if_icmp .ge 68, 156, 0, 0)] (by decide +kernel) ?_
    simp only [e_ilw_8, e_bp_6, e_icmp_ge, e_nil, nol_n, nol_I, nol_R, rsum_0, rsum_I, rsum_R, ps_s, ps_n, true_and, and_true, Nat.reduceAdd, Nat.reduceLeDiff]
    refine ⟨fun c88 => ?_, fun c88 => ?_⟩
    · refine go_blk [(.iload 6, 0, 0, 0), (.ireturn, 0, 0, 0)] (by decide +kernel) ?_
      simp only [e_ilw_6, e_iret0, e_nil, nol_n, nol_I, nol_R, rsum_0, rsum_I, rsum_R, ps_s, ps_n, true_and, and_true, Nat.reduceAdd, Nat.reduceLeDiff]
      exact h μ hT hO
    · exact absurd (by decide) c88
  | succ k ih =>
    intro fl t w c μ y9 hf6 hT hI hw hO h
    have hn := hI.1
    have hC2 : CRep μ true op := hC.off (hO 0 0 (by omega))
    have ho := hC2.2.1
    have hop := hC2.2.2.1
    have hhas := has_eN hn (w := w) (by rcases hw with q | q <;> omega)
    unfold flF at h
    by_cases h99 : w = 99
    · rw [if_pos h99] at h
      have hh2 : decide (w ≠ 99) = false := by simp [h99]
      refine go_blk [(.iload 8, 0, 0, 0), (.bipush 6, 0, 0, 0), (.if_icmp .ge 68, 156, 0, 0)] (by decide +kernel) ?_
      simp only [e_ilw_8, e_bp_6, e_icmp_ge, e_nil, nol_n, nol_I, nol_R, rsum_0, rsum_I, rsum_R, ps_s, ps_n, true_and, and_true, Nat.reduceAdd, Nat.reduceLeDiff, hi, hd2, bi_0, hhas, hh2, true_implies, false_implies, not_true_eq_false, not_false_eq_true]
      refine ⟨fun c88 => ?_, fun c88 => ?_⟩
      · exact absurd c88 (nI_ge (b := 6) (by omega) (by omega))
      · refine go_blk [(.aload_n 0, 0, 0, 0), (.iload 7, 0, 0, 0), (.invokevirtual 39, 60, 1, 6)] (by decide +kernel) ?_
        simp only [e_al_0, e_ilw_7, e_iv_6_1, e_nil, nol_n, nol_I, nol_R, rsum_0, rsum_I, rsum_R, ps_s, ps_n, true_and, and_true, Nat.reduceAdd, Nat.reduceLeDiff, hi, hd2, bi_0, hhas, hh2, true_implies, false_implies, not_true_eq_false, not_false_eq_true]
        refine ok_has hi hT.1 ?_
        refine go_blk [(.ifCond .eq 59, 156, 0, 0)] (by decide +kernel) ?_
        simp only [e_if_eq, e_nil, nol_n, nol_I, nol_R, rsum_0, rsum_I, rsum_R, ps_s, ps_n, true_and, and_true, Nat.reduceAdd, Nat.reduceLeDiff, hi, hd2, bi_0, hhas, hh2, true_implies, false_implies, not_true_eq_false, not_false_eq_true]
        refine go_blk [(.iload 6, 0, 0, 0), (.ireturn, 0, 0, 0)] (by decide +kernel) ?_
        simp only [e_ilw_6, e_iret0, e_nil, nol_n, nol_I, nol_R, rsum_0, rsum_I, rsum_R, ps_s, ps_n, true_and, and_true, Nat.reduceAdd, Nat.reduceLeDiff, hi, hd2, bi_0, hhas, hh2, true_implies, false_implies, not_true_eq_false, not_false_eq_true]
        exact h μ hT hO
    · rw [if_neg h99] at h
      obtain ⟨hwn, hws⟩ := hw.resolve_left h99
      have hh2 : decide (w ≠ 99) = true := by simp [h99]
      have heN : eN w = nI w := by rw [eN, if_neg h99]
      rw [heN] at hhas
      rw [heN]
      have hvw : vp_in (nI w) 6 := vin (by omega) (by omega)
      have hxw : ix (nI w) = w := nI_ix (by omega)
      obtain ⟨i3, i4, i5, i6, i7, i8, i9⟩ := hI.2.1 w hwn
      have hI2 := stk_inv hI hwn hws
      have s3 := stk_3 t w w
      have key : (if t 3 w = 4 then fbS op (stkT t w) (t 5 w) u v else 99) = 99 ∨ (if t 3 w = 4 then fbS op (stkT t w) (t 5 w) u v else 99) < stkT t w 0 1 ∧ stn (stkT t w) (if t 3 w = 4 then fbS op (stkT t w) (t 5 w) u v else 99) = true := by
        split
        · exact fbF_sp hI2.1 (t 5 w) u v 4 1
        · exact Or.inl rfl
      refine go_blk [(.iload 8, 0, 0, 0), (.bipush 6, 0, 0, 0), (.if_icmp .ge 68, 156, 0, 0)] (by decide +kernel) ?_
      simp only [e_ilw_8, e_bp_6, e_icmp_ge, e_nil, nol_n, nol_I, nol_R, rsum_0, rsum_I, rsum_R, ps_s, ps_n, true_and, and_true, Nat.reduceAdd, Nat.reduceLeDiff, hi, hd2, bi_0, hhas, hh2, Bool.true_eq_false, hvw, hxw, i3, nI_add, (show (4 < 5) = True by decide), true_implies, false_implies, not_true_eq_false, not_false_eq_true]
      refine ⟨fun c88 => ?_, fun c88 => ?_⟩
      · exact absurd c88 (nI_ge (b := 6) (by omega) (by omega))
      · refine go_blk [(.aload_n 0, 0, 0, 0), (.iload 7, 0, 0, 0), (.invokevirtual 39, 60, 1, 6)] (by decide +kernel) ?_
        simp only [e_al_0, e_ilw_7, e_iv_6_1, e_nil, nol_n, nol_I, nol_R, rsum_0, rsum_I, rsum_R, ps_s, ps_n, true_and, and_true, Nat.reduceAdd, Nat.reduceLeDiff, hi, hd2, bi_0, hhas, hh2, Bool.true_eq_false, hvw, hxw, i3, nI_add, (show (4 < 5) = True by decide), true_implies, false_implies, not_true_eq_false, not_false_eq_true]
        refine ok_has hi hT.1 ?_
        refine go_blk [(.ifCond .eq 59, 156, 0, 0)] (by decide +kernel) ?_
        simp only [e_if_eq, e_nil, nol_n, nol_I, nol_R, rsum_0, rsum_I, rsum_R, ps_s, ps_n, true_and, and_true, Nat.reduceAdd, Nat.reduceLeDiff, hi, hd2, bi_0, hhas, hh2, Bool.true_eq_false, hvw, hxw, i3, nI_add, (show (4 < 5) = True by decide), true_implies, false_implies, not_true_eq_false, not_false_eq_true]
        refine go_blk [(.aload_n 0, 0, 0, 0), (.iload 7, 0, 0, 0), (.invokevirtual 77, 61, 1, 6)] (by decide +kernel) ?_
        simp only [e_al_0, e_ilw_7, e_iv_6_1, e_nil, nol_n, nol_I, nol_R, rsum_0, rsum_I, rsum_R, ps_s, ps_n, true_and, and_true, Nat.reduceAdd, Nat.reduceLeDiff, hi, hd2, bi_0, hhas, hh2, Bool.true_eq_false, hvw, hxw, i3, nI_add, (show (4 < 5) = True by decide), true_implies, false_implies, not_true_eq_false, not_false_eq_true]
        refine ok_kindOf hi hT hn hwn i3 (by omega) ?_
        refine go_blk [(.astore 9, 0, 0, 0), (.iload 6, 0, 0, 0), (.aload_n 0, 0, 0, 0), (.iload 7, 0, 0, 0), (.aload 9, 0, 0, 0), (.invokevirtual 101, 71, 2, 6)] (by decide +kernel) ?_
        simp only [e_asw_9n, e_asw_9I, e_asw_9R, e_ilw_6, e_al_0, e_ilw_7, e_alw_9, e_iv_6_2, e_nil, nol_n, nol_I, nol_R, rsum_0, rsum_I, rsum_R, ps_s, ps_n, true_and, and_true, Nat.reduceAdd, Nat.reduceLeDiff, hi, hd2, bi_0, hhas, hh2, Bool.true_eq_false, hvw, hxw, i3, nI_add, (show (4 < 5) = True by decide), true_implies, false_implies, not_true_eq_false, not_false_eq_true]
        refine ok_strike hi hT hI hwn (fun μ2 hT2 hO2 => ?_)
        have k5 : μ2 6 i 5 w = nI (t 5 w) := by rw [(hT2.row (by rw [stk_n]; exact hwn)).2.2.1, s3.2.1]
        have hO3 := hO.tr hO2
        have hC3 : CRep μ2 true op := hC.off (hO3 0 0 (by omega))
        refine go_blk [(.iadd, 0, 0, 0), (.istore 6, 0, 0, 0), (.aload 9, 0, 0, 0), (.getstatic 105, 9, 4, 0), (.if_acmp .ne 21, 147, 0, 0)] (by decide +kernel) ?_
        simp only [e_iadd, e_isw_6n, e_isw_6I, e_isw_6R, e_alw_9, e_st_4, e_acmp_ne, e_nil, nol_n, nol_I, nol_R, rsum_0, rsum_I, rsum_R, ps_s, ps_n, true_and, and_true, Nat.reduceAdd, Nat.reduceLeDiff, hi, hd2, bi_0, hhas, hh2, Bool.true_eq_false, hvw, hxw, i3, nI_add, (show (4 < 5) = True by decide), true_implies, false_implies, not_true_eq_false, not_false_eq_true, k5]
        refine ⟨fun c126 => ?_, fun c126 => ?_⟩
        · rw [if_neg c126] at h key
          refine go_blk [(.iconst (-1), 0, 0, 0), (.istore 7, 0, 0, 0), (.iinc 8 1, 0, 0, 0), (.goto (-69), 84, 0, 0)] (by decide +kernel) ?_
          simp only [e_ic_m1, e_isw_7n, e_isw_7I, e_isw_7R, e_inc_8_1n, e_inc_8_1I, e_inc_8_1R, e_goto, e_nil, nol_n, nol_I, nol_R, rsum_0, rsum_I, rsum_R, ps_s, ps_n, true_and, and_true, Nat.reduceAdd, Nat.reduceLeDiff, hi, hd2, bi_0, hhas, hh2, Bool.true_eq_false, hvw, hxw, i3, nI_add, (show (4 < 5) = True by decide), true_implies, false_implies, not_true_eq_false, not_false_eq_true, k5]
          rw [nI_1]
          exact ih (fl + 1) _ 99 _ μ2 _ (by omega) hT2 hI2 key hO3 h
        · rw [if_pos c126] at h key
          refine go_blk [(.aload_n 0, 0, 0, 0), (.aload_n 0, 0, 0, 0), (.getfield 22, 6, 4, 0), (.iload 7, 0, 0, 0), (.iaload, 0, 0, 0), (.iload 4, 0, 0, 0), (.iload 5, 0, 0, 0), (.invokevirtual 108, 72, 3, 6)] (by decide +kernel) ?_
          simp only [e_al_0, e_gf_6_4, e_ilw_7, e_ia, e_ilw_4, e_ilw_5, e_iv_6_3, rd_6_4, ai_0_4, ai_1_7, ai_2_1, ai_2_2, ai_3_1, ai_4_1, ai_6_3, ai_6_4, ai_6_5, ai_6_6, ai_6_7, ai_6_8, ai_8_5, ai_8_6, ai_8_17, ai_8_21, ai_8_23, ai_8_24, ai_8_27, ai_8_28, ai_8_38, ai_8_39, ai_8_40, e_nil, nol_n, nol_I, nol_R, rsum_0, rsum_I, rsum_R, ps_s, ps_n, true_and, and_true, Nat.reduceAdd, Nat.reduceLeDiff, hi, hd2, bi_0, hhas, hh2, Bool.true_eq_false, hvw, hxw, i3, nI_add, (show (4 < 5) = True by decide), true_implies, false_implies, not_true_eq_false, not_false_eq_true, k5]
          refine ok_firstBehind hi hT2 hI2 hC3.2.1 hC3.2.2.1 i5 hu hv0 (by omega) ?_
          refine go_blk [(.goto 4, 148, 0, 0), (.istore 7, 0, 0, 0), (.iinc 8 1, 0, 0, 0), (.goto (-69), 84, 0, 0)] (by decide +kernel) ?_
          simp only [e_goto, e_isw_7n, e_isw_7I, e_isw_7R, e_inc_8_1n, e_inc_8_1I, e_inc_8_1R, e_nil, nol_n, nol_I, nol_R, rsum_0, rsum_I, rsum_R, ps_s, ps_n, true_and, and_true, Nat.reduceAdd, Nat.reduceLeDiff, hi, hd2, bi_0, hhas, hh2, Bool.true_eq_false, hvw, hxw, i3, nI_add, (show (4 < 5) = True by decide), true_implies, false_implies, not_true_eq_false, not_false_eq_true, k5]
          rw [nI_1]
          exact ih (fl + 1) _ _ _ μ2 _ (by omega) hT2 hI2 key hO3 h
theorem pea_n (t : TS) (a : Nat) : pea t a 0 1 = t 0 1 := tu_ne (by omega)
theorem pea_inv {op : Nat} {t : TS} {a : Nat} (hI : TInv op t) : TInv op (pea t a) := by
  obtain ⟨h1, h2, h3, h4⟩ := hI
  refine ⟨by rw [pea_n]; exact h1, fun j hj => ?_, fun j hj => ?_, fun x y hx hy e => ?_⟩
  · rw [pea_n] at hj
    unfold pea
    rw [tu_ne (s' := 3) (by omega), tu_ne (s' := 4) (by omega), tu_ne (s' := 5) (by omega), tu_ne (s' := 6) (by omega), tu_ne (s' := 7) (by omega)]
    exact h2 j hj
  · unfold pea
    by_cases q : j = t 4 a
    · subst q; rw [tu_self]; have := h3 (t 4 a) hj; omega
    · rw [tu_ne (by omega)]; exact h3 j hj
  · rw [pea_n] at hx hy
    unfold pea at e
    rw [tu_ne (by omega), tu_ne (by omega)] at e
    exact h4 x y hx hy e
theorem fire_inv {op : Nat} {t : TS} {a b : Nat} {hit : Bool} (hI : TInv op t) (hb : b < t 0 1) (hs : stn t b = true) : TInv op (fireS op t a b hit).1 ∧ (fireS op t a b hit).1 0 1 = t 0 1 ∧ ∀ j, (fireS op t a b hit).1 3 j = t 3 j ∧ (fireS op t a b hit).1 5 j = t 5 j ∧ (fireS op t a b hit).1 8 j = pea t a 8 j := by
  have hw : (if hit then b else 99) = 99 ∨ (if hit then b else 99) < pea t a 0 1 ∧ stn (pea t a) (if hit then b else 99) = true := by
    cases hit
    · exact Or.inl rfl
    · refine Or.inr ⟨by rw [pea_n]; exact hb, ?_⟩
      have e : pea t a 7 b = t 7 b := tu_ne (by omega)
      simpa [stn, e] using hs
  obtain ⟨h1, h2, h3⟩ := fl_inv (op := op) (u := dU (t 5 a) (t 5 b)) (v := dV (t 5 a) (t 5 b)) 6 0 (pea_inv (a := a) hI) hw
  refine ⟨h1, h2.trans (pea_n t a), fun j => ?_⟩
  obtain ⟨q1, q2, q3⟩ := h3 j
  exact ⟨q1.trans (tu_ne (by omega)), q2.trans (tu_ne (by omega)), q3⟩
theorem chS_pos {op : Nat} {t : TS} {a b : Nat} (h : chS op t a b ≠ 0) : a < t 0 1 ∧ b < t 0 1 ∧ stn t a = true ∧ stn t b = true ∧ t 4 a ≠ t 4 b ∧ 0 < t 8 (t 4 a) ∧ lne (t 5 a) (t 5 b) = true := by
  unfold chS at h
  split at h
  · rename_i q
    simp only [Bool.and_eq_true, decide_eq_true_eq, bne_iff_ne, Bool.not_eq_true'] at q
    exact ⟨q.1.1.1.1.1.1.1, q.1.1.1.1.1.1.2, q.1.1.1.1.1.2, q.1.1.1.1.2, q.1.1.1.2, q.1.1.2, q.1.2⟩
  · exact absurd rfl h
theorem sub1 {x : Nat} (h : 0 < x) : nI x - 1 = nI (x - 1) := by
  have := nI_pred (x - 1)
  rwa [show x - 1 + 1 = x by omega] at this
theorem ok_fire {l : Launch} {K : KK} {d : Nat} {μ : Mm} {P : Option AV → Mm → Prop} {i : Nat} (hi : i < 6) {op : Nat} {t : TS} {a b : Nat} {hit : Bool} (hT : TRep μ i t) (hI : TInv op t) (hC : CRep μ true op) (ha : a < t 0 1) (hb : b < t 0 1) (hs : stn t b = true) (hp : 0 < t 8 (t 4 a)) (hd1 : 2 ≤ d) (h : ∀ μ2, TRep μ2 i (fireS op t a b hit).1 → OffT i μ μ2 → P (some (vI (nI (fireS op t a b hit).2))) μ2) : Ok l K d 68 [vR 6 i 0, vI (nI a), vI (nI b), vI (bi hit)] μ P := by
  refine ok_go 10 (by decide +kernel) [some (vR 6 i 0), some (vI (nI a)), some (vI (nI b)), some (vI (bi hit)), none, none, none, none, none, none] rfl (Nat.le_of_ble_eq_true rfl) ?_
  have hd2 : 1 ≤ d := by omega
  have hn := hI.1
  have eA : hasI (t 0 1) (nI a) = true := by rw [hasI_nI hn (by omega)]; simp [ha]
  have eB : hasI (t 0 1) (nI b) = true := by rw [hasI_nI hn (by omega)]; simp [hb]
  have hva : vp_in (nI a) 6 := vin (by omega) (by omega)
  have hxa : ix (nI a) = a := nI_ix (by omega)
  have hvb : vp_in (nI b) 6 := vin (by omega) (by omega)
  have hxb : ix (nI b) = b := nI_ix (by omega)
  obtain ⟨a3, a4, a5, a6, a7⟩ := hT.row ha
  obtain ⟨b3, b4, b5, b6, b7⟩ := hT.row hb
  obtain ⟨ia3, ia4, ia5, ia6, ia7, ia8, ia9⟩ := hI.2.1 a ha
  obtain ⟨ib3, ib4, ib5, ib6, ib7, ib8, ib9⟩ := hI.2.1 b hb
  have hv4 : vp_in (nI (t 4 a)) 2 := vin (by omega) (by omega)
  have hx4 : ix (nI (t 4 a)) = t 4 a := nI_ix (by omega)
  have p8 := hT.2.2 (t 4 a) ia4
  have ps1 := sub1 hp
  obtain ⟨du, dv, hu3, hv3⟩ := dir_tab (t 5 a) ia5 (t 5 b) ib5
  have hT1 : TRep (up μ 6 i 8 (t 4 a) (nI (t 8 (t 4 a) - 1))) i (pea t a) := hT.up (by omega) rfl
  have c5a : up μ 6 i 8 (t 4 a) (nI (t 8 (t 4 a) - 1)) 6 i 5 a = nI (t 5 a) := by rw [up_ne (by omega)]; exact a5
  have c5b : up μ 6 i 8 (t 4 a) (nI (t 8 (t 4 a) - 1)) 6 i 5 b = nI (t 5 b) := by rw [up_ne (by omega)]; exact b5
  have hO1 : OffT i μ (up μ 6 i 8 (t 4 a) (nI (t 8 (t 4 a) - 1))) := (OffT.rf i μ).up _ _ _
  have e7 : pea t a 7 b = t 7 b := tu_ne (by omega)
  have hw9 : ∀ q : Bool, (if q then b else 99) = 99 ∨ (if q then b else 99) < pea t a 0 1 ∧ stn (pea t a) (if q then b else 99) = true := by
    intro q
    cases q
    · exact Or.inl rfl
    · exact Or.inr ⟨by rw [pea_n]; exact hb, by simpa [stn, e7] using hs⟩
  have hb99 : eN b = nI b := by rw [eN, if_neg (by omega)]
  refine go_blk [(.aload_n 0, 0, 0, 0), (.iload_n 1, 0, 0, 0), (.invokevirtual 39, 60, 1, 6)] (by decide +kernel) ?_
  simp only [e_al_0, e_il_1, e_iv_6_1, e_nil, nol_n, nol_I, nol_R, rsum_0, rsum_I, rsum_R, ps_s, ps_n, true_and, and_true, Nat.reduceAdd, Nat.reduceLeDiff, hi, hd2, bi_0, eA, eB, Bool.true_eq_false, hva, hxa, hvb, hxb, a4, hv4, hx4, p8, ps1, c5a, c5b, du, dv, true_implies, false_implies, not_true_eq_false, not_false_eq_true]
  refine ok_has hi hT.1 ?_
  refine go_blk [(.ifCond .eq 11, 16, 0, 0)] (by decide +kernel) ?_
  simp only [e_if_eq, e_nil, nol_n, nol_I, nol_R, rsum_0, rsum_I, rsum_R, ps_s, ps_n, true_and, and_true, Nat.reduceAdd, Nat.reduceLeDiff, hi, hd2, bi_0, eA, eB, Bool.true_eq_false, hva, hxa, hvb, hxb, a4, hv4, hx4, p8, ps1, c5a, c5b, du, dv, true_implies, false_implies, not_true_eq_false, not_false_eq_true]
  refine go_blk [(.aload_n 0, 0, 0, 0), (.iload_n 2, 0, 0, 0), (.invokevirtual 39, 60, 1, 6)] (by decide +kernel) ?_
  simp only [e_al_0, e_il_2, e_iv_6_1, e_nil, nol_n, nol_I, nol_R, rsum_0, rsum_I, rsum_R, ps_s, ps_n, true_and, and_true, Nat.reduceAdd, Nat.reduceLeDiff, hi, hd2, bi_0, eA, eB, Bool.true_eq_false, hva, hxa, hvb, hxb, a4, hv4, hx4, p8, ps1, c5a, c5b, du, dv, true_implies, false_implies, not_true_eq_false, not_false_eq_true]
  refine ok_has hi hT.1 ?_
  refine go_blk [(.ifCond .ne 5, 18, 0, 0)] (by decide +kernel) ?_
  simp only [e_if_ne, e_nil, nol_n, nol_I, nol_R, rsum_0, rsum_I, rsum_R, ps_s, ps_n, true_and, and_true, Nat.reduceAdd, Nat.reduceLeDiff, hi, hd2, bi_0, eA, eB, Bool.true_eq_false, hva, hxa, hvb, hxb, a4, hv4, hx4, p8, ps1, c5a, c5b, du, dv, true_implies, false_implies, not_true_eq_false, not_false_eq_true]
  refine go_blk [(.aload_n 0, 0, 0, 0), (.getfield 32, 6, 7, 0), (.aload_n 0, 0, 0, 0), (.getfield 19, 6, 3, 0), (.iload_n 1, 0, 0, 0), (.iaload, 0, 0, 0), (.dup2, 0, 0, 0), (.iaload, 0, 0, 0), (.iconst 1, 0, 0, 0), (.isub, 0, 0, 0), (.iastore, 0, 0, 0)] (by decide +kernel) ?_
  simp only [e_al_0, e_gf_6_7, e_gf_6_3, e_il_1, e_ia, e_dup2, e_ic_1, e_isub, e_iast, rd_6_7, rd_6_3, ai_0_4, ai_1_7, ai_2_1, ai_2_2, ai_3_1, ai_4_1, ai_6_3, ai_6_4, ai_6_5, ai_6_6, ai_6_7, ai_6_8, ai_8_5, ai_8_6, ai_8_17, ai_8_21, ai_8_23, ai_8_24, ai_8_27, ai_8_28, ai_8_38, ai_8_39, ai_8_40, e_nil, nol_n, nol_I, nol_R, rsum_0, rsum_I, rsum_R, ps_s, ps_n, true_and, and_true, Nat.reduceAdd, Nat.reduceLeDiff, hi, hd2, bi_0, eA, eB, Bool.true_eq_false, hva, hxa, hvb, hxb, a4, hv4, hx4, p8, ps1, c5a, c5b, du, dv, true_implies, false_implies, not_true_eq_false, not_false_eq_true]
  refine go_blk [(.aload_n 0, 0, 0, 0), (.getfield 22, 6, 4, 0), (.iload_n 1, 0, 0, 0), (.iaload, 0, 0, 0), (.aload_n 0, 0, 0, 0), (.getfield 22, 6, 4, 0), (.iload_n 2, 0, 0, 0), (.iaload, 0, 0, 0), (.invokestatic 95, 24, 2, 0)] (by decide +kernel) ?_
  simp only [e_al_0, e_gf_6_4, e_il_1, e_ia, e_il_2, e_ivs_2, rd_6_4, ai_0_4, ai_1_7, ai_2_1, ai_2_2, ai_3_1, ai_4_1, ai_6_3, ai_6_4, ai_6_5, ai_6_6, ai_6_7, ai_6_8, ai_8_5, ai_8_6, ai_8_17, ai_8_21, ai_8_23, ai_8_24, ai_8_27, ai_8_28, ai_8_38, ai_8_39, ai_8_40, e_nil, Nat.reduceLT, nol_n, nol_I, nol_R, rsum_0, rsum_I, rsum_R, ps_s, ps_n, true_and, and_true, Nat.reduceAdd, Nat.reduceLeDiff, hi, hd2, bi_0, eA, eB, Bool.true_eq_false, hva, hxa, hvb, hxb, a4, hv4, hx4, p8, ps1, c5a, c5b, du, dv, true_implies, false_implies, not_true_eq_false, not_false_eq_true]
  refine ok_rowStep (by omega) ?_
  refine go_blk [(.istore 4, 0, 0, 0), (.aload_n 0, 0, 0, 0), (.getfield 22, 6, 4, 0), (.iload_n 1, 0, 0, 0), (.iaload, 0, 0, 0), (.aload_n 0, 0, 0, 0), (.getfield 22, 6, 4, 0), (.iload_n 2, 0, 0, 0), (.iaload, 0, 0, 0), (.invokestatic 98, 25, 2, 0)] (by decide +kernel) ?_
  simp only [e_isw_4n, e_isw_4I, e_isw_4R, e_al_0, e_gf_6_4, e_il_1, e_ia, e_il_2, e_ivs_2, rd_6_4, ai_0_4, ai_1_7, ai_2_1, ai_2_2, ai_3_1, ai_4_1, ai_6_3, ai_6_4, ai_6_5, ai_6_6, ai_6_7, ai_6_8, ai_8_5, ai_8_6, ai_8_17, ai_8_21, ai_8_23, ai_8_24, ai_8_27, ai_8_28, ai_8_38, ai_8_39, ai_8_40, e_nil, Nat.reduceLT, nol_n, nol_I, nol_R, rsum_0, rsum_I, rsum_R, ps_s, ps_n, true_and, and_true, Nat.reduceAdd, Nat.reduceLeDiff, hi, hd2, bi_0, eA, eB, Bool.true_eq_false, hva, hxa, hvb, hxb, a4, hv4, hx4, p8, ps1, c5a, c5b, du, dv, true_implies, false_implies, not_true_eq_false, not_false_eq_true]
  refine ok_columnStep (by omega) ?_
  refine go_blk [(.istore 5, 0, 0, 0), (.iconst 0, 0, 0, 0), (.istore 6, 0, 0, 0), (.iload_n 3, 0, 0, 0), (.ifCond .eq 7, 78, 0, 0)] (by decide +kernel) ?_
  simp only [e_isw_5n, e_isw_5I, e_isw_5R, e_ic_0, e_isw_6n, e_isw_6I, e_isw_6R, e_il_3, e_if_eq, e_nil, nol_n, nol_I, nol_R, rsum_0, rsum_I, rsum_R, ps_s, ps_n, true_and, and_true, Nat.reduceAdd, Nat.reduceLeDiff, hi, hd2, bi_0, eA, eB, Bool.true_eq_false, hva, hxa, hvb, hxb, a4, hv4, hx4, p8, ps1, c5a, c5b, du, dv, true_implies, false_implies, not_true_eq_false, not_false_eq_true]
  refine ⟨fun c71 => ?_, fun c71 => ?_⟩
  · have eh : hit = false := c71
    subst eh
    refine go_blk [(.iconst (-1), 0, 0, 0), (.istore 7, 0, 0, 0), (.iconst 0, 0, 0, 0), (.istore 8, 0, 0, 0)] (by decide +kernel) ?_
    simp only [e_ic_m1, e_isw_7n, e_isw_7I, e_isw_7R, e_ic_0, e_isw_8n, e_isw_8I, e_isw_8R, e_nil, nol_n, nol_I, nol_R, rsum_0, rsum_I, rsum_R, ps_s, ps_n, true_and, and_true, Nat.reduceAdd, Nat.reduceLeDiff, hi, hd2, bi_0, eA, eB, Bool.true_eq_false, hva, hxa, hvb, hxb, a4, hv4, hx4, p8, ps1, c5a, c5b, du, dv, true_implies, false_implies, not_true_eq_false, not_false_eq_true]
    have key := lp_fire (l := l) (K := K) (d := d) (P := P) hi (xa := nI a) (xb2 := nI b) (xh := bi false) hu3 hv3 hC hd1 6 0 (pea t a) (if false then b else 99) 0 _ none rfl hT1 (pea_inv hI) (hw9 false) hO1 h
    exact key
  · have eh : hit = true := by simpa using c71
    subst eh
    refine go_blk [(.iload_n 2, 0, 0, 0), (.goto 4, 79, 0, 0), (.istore 7, 0, 0, 0), (.iconst 0, 0, 0, 0), (.istore 8, 0, 0, 0)] (by decide +kernel) ?_
    simp only [e_il_2, e_goto, e_isw_7n, e_isw_7I, e_isw_7R, e_ic_0, e_isw_8n, e_isw_8I, e_isw_8R, e_nil, nol_n, nol_I, nol_R, rsum_0, rsum_I, rsum_R, ps_s, ps_n, true_and, and_true, Nat.reduceAdd, Nat.reduceLeDiff, hi, hd2, bi_0, eA, eB, Bool.true_eq_false, hva, hxa, hvb, hxb, a4, hv4, hx4, p8, ps1, c5a, c5b, du, dv, true_implies, false_implies, not_true_eq_false, not_false_eq_true]
    rw [← hb99]
    have key := lp_fire (l := l) (K := K) (d := d) (P := P) hi (xa := nI a) (xb2 := eN b) (xh := bi true) hu3 hv3 hC hd1 6 0 (pea t a) (if true then b else 99) 0 _ none rfl hT1 (pea_inv hI) (hw9 true) hO1 h
    exact key
