def smN (f : Nat → Nat) : Nat → Nat
  | 0 => 0
  | k + 1 => smN f k + f k
theorem aiN {v : Nat} (h : v = 1 ∨ v = 2) (j : Int32) : ain 0 2 0 v j = vp_in j 64 := by
  rcases h with rfl | rfl
  · exact ai_2_1 j
  · exact ai_2_2 j
theorem cvN {v : Nat} (h : v = 1 ∨ v = 2) : (nI v).toNatClampNeg = v := nI_clamp (by omega)
/-- how many ways lead into a set of spies by one that changed or none -/
def wyI (B : Nat → Nat) (sp s : Nat) : Nat := B s + smN (fun k => B (s ^^^ 2 ^ k)) sp
theorem pw6 {sp : Nat} (h : sp ≤ 6) : 2 ^ sp ≤ 64 := Nat.pow_le_pow_right (n := 2) (by decide) h
theorem lp_waysInto {l : Launch} {K : KK} {d : Nat} {μ : Mm} {P : Option AV → Mm → Prop} {v s sp : Nat} {B : Nat → Nat} (hv : v = 1 ∨ v = 2) (h1 : μ 2 0 0 1 = nI v) (h2 : μ 2 0 0 2 = nI sp) (hsp : sp ≤ 6) (hs : s < 2 ^ sp) (hB : ∀ j, j < 2 ^ sp → μ 2 0 v j = nI (B j)) (h : P (some (vI (nI (wyI B sp s)))) μ) : ∀ (r e : Nat), e + r = sp → Go l K d 37 9 [some (vR 2 0 0), some (vI (nI s)), some (vI (nI (wyI B e s))), some (vI (nI e))] [] μ P := by
  have ai := aiN hv
  have cv := cvN hv
  intro r
  induction r with
  | zero =>
    intro e he
    have e0 : e = sp := by omega
    subst e0
    refine go_blk [(.iload_n 3, 0, 0, 0), (.aload_n 0, 0, 0, 0), (.getfield 18, 2, 2, 0), (.if_icmp .ge 22, 36, 0, 0)] (by decide +kernel) ?_
    simp only [e_il_3, e_al_0, e_gf_2_2, e_icmp_ge, rd_2_2, e_nil, nol_n, nol_I, nol_R, rsum_0, rsum_I, rsum_R, ps_s, ps_n, true_and, and_true, Nat.reduceAdd, Nat.reduceLeDiff, h2]
    refine ⟨fun c14 => ?_, fun c14 => ?_⟩
    · refine go_blk [(.iload_n 2, 0, 0, 0), (.ireturn, 0, 0, 0)] (by decide +kernel) ?_
      simp only [e_il_2, e_iret0, e_nil, nol_n, nol_I, nol_R, rsum_0, rsum_I, rsum_R, ps_s, ps_n, true_and, and_true, Nat.reduceAdd, Nat.reduceLeDiff, h2]
      exact h
    · exact absurd (nI_le (by omega) (by omega)) c14
  | succ r ih =>
    intro e he
    have x5 : s ^^^ 2 ^ e < 2 ^ sp := Nat.xor_lt_two_pow hs (pw_lt (by omega))
    have x6 : s ^^^ 2 ^ e < 64 := Nat.lt_of_lt_of_le x5 (pw6 hsp)
    have sh : (1 : Int32) <<< (nI e &&& 31) = nI (2 ^ e) := nI_shl (by omega)
    have vi : vp_in (nI (s ^^^ 2 ^ e)) 64 := vin x6 (by omega)
    have hx : ix (nI (s ^^^ 2 ^ e)) = s ^^^ 2 ^ e := nI_ix (by omega)
    have hb := hB _ x5
    have e1 : wyI B e s + B (s ^^^ 2 ^ e) = wyI B (e + 1) s := Nat.add_assoc _ _ _
    refine go_blk [(.iload_n 3, 0, 0, 0), (.aload_n 0, 0, 0, 0), (.getfield 18, 2, 2, 0), (.if_icmp .ge 22, 36, 0, 0)] (by decide +kernel) ?_
    simp only [e_il_3, e_al_0, e_gf_2_2, e_icmp_ge, rd_2_2, e_nil, nol_n, nol_I, nol_R, rsum_0, rsum_I, rsum_R, ps_s, ps_n, true_and, and_true, Nat.reduceAdd, Nat.reduceLeDiff, h1, h2, ai, cv, sh, nI_xor, vi, hx, hb, nI_add, e1]
    refine ⟨fun c14 => ?_, fun c14 => ?_⟩
    · exact absurd c14 (nI_ge (by omega) (by omega))
    · refine go_blk [(.iload_n 2, 0, 0, 0), (.aload_n 0, 0, 0, 0), (.getfield 15, 2, 1, 0), (.iload_n 1, 0, 0, 0), (.iconst 1, 0, 0, 0), (.iload_n 3, 0, 0, 0), (.ishl, 0, 0, 0), (.ixor, 0, 0, 0), (.iaload, 0, 0, 0), (.iadd, 0, 0, 0), (.istore_n 2, 0, 0, 0), (.iinc 3 1, 0, 0, 0), (.goto (-24), 9, 0, 0)] (by decide +kernel) ?_
      simp only [e_il_2, e_al_0, e_gf_2_1, e_il_1, e_ic_1, e_il_3, e_ishl, e_ixor, e_ia, e_iadd, e_is_2n, e_is_2I, e_is_2R, e_inc_3_1n, e_inc_3_1I, e_inc_3_1R, e_goto, rd_2_1, ai_0_4, ai_1_7, ai_2_1, ai_2_2, ai_3_1, ai_4_1, ai_6_3, ai_6_4, ai_6_5, ai_6_6, ai_6_7, ai_6_8, ai_8_5, ai_8_6, ai_8_17, ai_8_21, ai_8_23, ai_8_24, ai_8_27, ai_8_28, ai_8_38, ai_8_39, ai_8_40, e_nil, nol_n, nol_I, nol_R, rsum_0, rsum_I, rsum_R, ps_s, ps_n, true_and, and_true, Nat.reduceAdd, Nat.reduceLeDiff, h1, h2, ai, cv, sh, nI_xor, vi, hx, hb, nI_add, e1]
      rw [nI_1]
      exact ih (e + 1) (by omega)
theorem ok_waysInto {l : Launch} {K : KK} {d : Nat} {μ : Mm} {P : Option AV → Mm → Prop} {v s sp : Nat} {B : Nat → Nat} (hv : v = 1 ∨ v = 2) (h1 : μ 2 0 0 1 = nI v) (h2 : μ 2 0 0 2 = nI sp) (hsp : sp ≤ 6) (hs : s < 2 ^ sp) (hB : ∀ j, j < 2 ^ sp → μ 2 0 v j = nI (B j)) (h : P (some (vI (nI (wyI B sp s)))) μ) : Ok l K d 37 [vR 2 0 0, vI (nI s)] μ P := by
  refine ok_go 4 (by decide +kernel) [some (vR 2 0 0), some (vI (nI s)), none, none] rfl (Nat.le_of_ble_eq_true rfl) ?_
  have ai := aiN hv
  have cv := cvN hv
  have s6 : s < 64 := Nat.lt_of_lt_of_le hs (pw6 hsp)
  have vi : vp_in (nI s) 64 := vin s6 (by omega)
  have hx : ix (nI s) = s := nI_ix (by omega)
  have hb := hB s hs
  refine go_blk [(.aload_n 0, 0, 0, 0), (.getfield 15, 2, 1, 0), (.iload_n 1, 0, 0, 0), (.iaload, 0, 0, 0), (.istore_n 2, 0, 0, 0), (.iconst 0, 0, 0, 0), (.istore_n 3, 0, 0, 0)] (by decide +kernel) ?_
  simp only [e_al_0, e_gf_2_1, e_il_1, e_ia, e_is_2n, e_is_2I, e_is_2R, e_ic_0, e_is_3n, e_is_3I, e_is_3R, rd_2_1, ai_0_4, ai_1_7, ai_2_1, ai_2_2, ai_3_1, ai_4_1, ai_6_3, ai_6_4, ai_6_5, ai_6_6, ai_6_7, ai_6_8, ai_8_5, ai_8_6, ai_8_17, ai_8_21, ai_8_23, ai_8_24, ai_8_27, ai_8_28, ai_8_38, ai_8_39, ai_8_40, e_nil, nol_n, nol_I, nol_R, rsum_0, rsum_I, rsum_R, ps_s, ps_n, true_and, and_true, Nat.reduceAdd, Nat.reduceLeDiff, h1, ai, cv, vi, hx, hb]
  exact lp_waysInto hv h1 h2 hsp hs hB h sp 0 (by omega)
theorem ok_startUntold {l : Launch} {K : KK} {d : Nat} {μ : Mm} {P : Option AV → Mm → Prop} {w : Nat} (hw : w = 1 ∨ w = 2) (h0 : μ 2 0 0 0 = nI w) (h : P none (up (up μ 2 0 0 3 1) 2 0 w 0 1)) : Ok l K d 35 [vR 2 0 0] μ P := by
  refine ok_go 1 (by decide +kernel) [some (vR 2 0 0)] rfl (Nat.le_of_ble_eq_true rfl) ?_
  have ai := aiN hw
  have cv := cvN hw
  have u0 : ∀ x, up μ 2 0 0 3 x 2 0 0 0 = nI w := fun x => by rw [up_ne (by omega)]; exact h0
  have vi : vp_in 0 64 := vin (j := 0) (by omega) (by omega)
  have hx : ix 0 = 0 := nI_ix (j := 0) (by omega)
  refine go_blk [(.aload_n 0, 0, 0, 0), (.iconst 1, 0, 0, 0), (.putfield 22, 2, 3, 0)] (by decide +kernel) ?_
  simp only [e_al_0, e_ic_1, e_pf_2_3, e_nil, nol_n, nol_I, nol_R, rsum_0, rsum_I, rsum_R, ps_s, ps_n, true_and, and_true, Nat.reduceAdd, Nat.reduceLeDiff, u0, ai, cv, vi, hx]
  refine go_blk [(.aload_n 0, 0, 0, 0), (.getfield 11, 2, 0, 0), (.iconst 0, 0, 0, 0), (.iconst 1, 0, 0, 0), (.iastore, 0, 0, 0)] (by decide +kernel) ?_
  simp only [e_al_0, e_gf_2_0, e_ic_0, e_ic_1, e_iast, rd_2_0, ai_0_4, ai_1_7, ai_2_1, ai_2_2, ai_3_1, ai_4_1, ai_6_3, ai_6_4, ai_6_5, ai_6_6, ai_6_7, ai_6_8, ai_8_5, ai_8_6, ai_8_17, ai_8_21, ai_8_23, ai_8_24, ai_8_27, ai_8_28, ai_8_38, ai_8_39, ai_8_40, e_nil, nol_n, nol_I, nol_R, rsum_0, rsum_I, rsum_R, ps_s, ps_n, true_and, and_true, Nat.reduceAdd, Nat.reduceLeDiff, u0, ai, cv, vi, hx]
  refine go_blk [(.return_, 0, 0, 0)] (by decide +kernel) ?_
  simp only [e_vret, e_nil, nol_n, nol_I, nol_R, rsum_0, rsum_I, rsum_R, ps_s, ps_n, true_and, and_true, Nat.reduceAdd, Nat.reduceLeDiff, u0, ai, cv, vi, hx]
  exact h
theorem lp_allWays {l : Launch} {K : KK} {d : Nat} {μ : Mm} {P : Option AV → Mm → Prop} {w st : Nat} {A : Nat → Nat} (hw : w = 1 ∨ w = 2) (h0 : μ 2 0 0 0 = nI w) (h3 : μ 2 0 0 3 = nI st) (hst : st ≤ 64) (hA : ∀ j, j < st → μ 2 0 w j = nI (A j)) (h : P (some (vI (nI (smN A st)))) μ) : ∀ (r e : Nat), e + r = st → Go l K d 33 4 [some (vR 2 0 0), some (vI (nI (smN A e))), some (vI (nI e))] [] μ P := by
  have ai := aiN hw
  have cv := cvN hw
  intro r
  induction r with
  | zero =>
    intro e he
    have e0 : e = st := by omega
    subst e0
    refine go_blk [(.iload_n 2, 0, 0, 0), (.aload_n 0, 0, 0, 0), (.getfield 22, 2, 3, 0), (.if_icmp .ge 18, 27, 0, 0)] (by decide +kernel) ?_
    simp only [e_il_2, e_al_0, e_gf_2_3, e_icmp_ge, rd_2_3, e_nil, nol_n, nol_I, nol_R, rsum_0, rsum_I, rsum_R, ps_s, ps_n, true_and, and_true, Nat.reduceAdd, Nat.reduceLeDiff, h3]
    refine ⟨fun c9 => ?_, fun c9 => ?_⟩
    · refine go_blk [(.iload_n 1, 0, 0, 0), (.ireturn, 0, 0, 0)] (by decide +kernel) ?_
      simp only [e_il_1, e_iret0, e_nil, nol_n, nol_I, nol_R, rsum_0, rsum_I, rsum_R, ps_s, ps_n, true_and, and_true, Nat.reduceAdd, Nat.reduceLeDiff, h3]
      exact h
    · exact absurd (nI_le (by omega) (by omega)) c9
  | succ r ih =>
    intro e he
    have vi : vp_in (nI e) 64 := vin (by omega) (by omega)
    have hx : ix (nI e) = e := nI_ix (by omega)
    have hb := hA e (by omega)
    have e1 : smN A e + A e = smN A (e + 1) := rfl
    refine go_blk [(.iload_n 2, 0, 0, 0), (.aload_n 0, 0, 0, 0), (.getfield 22, 2, 3, 0), (.if_icmp .ge 18, 27, 0, 0)] (by decide +kernel) ?_
    simp only [e_il_2, e_al_0, e_gf_2_3, e_icmp_ge, rd_2_3, e_nil, nol_n, nol_I, nol_R, rsum_0, rsum_I, rsum_R, ps_s, ps_n, true_and, and_true, Nat.reduceAdd, Nat.reduceLeDiff, h0, h3, ai, cv, vi, hx, hb, nI_add, e1]
    refine ⟨fun c9 => ?_, fun c9 => ?_⟩
    · exact absurd c9 (nI_ge (by omega) (by omega))
    · refine go_blk [(.iload_n 1, 0, 0, 0), (.aload_n 0, 0, 0, 0), (.getfield 11, 2, 0, 0), (.iload_n 2, 0, 0, 0), (.iaload, 0, 0, 0), (.iadd, 0, 0, 0), (.istore_n 1, 0, 0, 0), (.iinc 2 1, 0, 0, 0), (.goto (-20), 4, 0, 0)] (by decide +kernel) ?_
      simp only [e_il_1, e_al_0, e_gf_2_0, e_il_2, e_ia, e_iadd, e_is_1n, e_is_1I, e_is_1R, e_inc_2_1n, e_inc_2_1I, e_inc_2_1R, e_goto, rd_2_0, ai_0_4, ai_1_7, ai_2_1, ai_2_2, ai_3_1, ai_4_1, ai_6_3, ai_6_4, ai_6_5, ai_6_6, ai_6_7, ai_6_8, ai_8_5, ai_8_6, ai_8_17, ai_8_21, ai_8_23, ai_8_24, ai_8_27, ai_8_28, ai_8_38, ai_8_39, ai_8_40, e_nil, nol_n, nol_I, nol_R, rsum_0, rsum_I, rsum_R, ps_s, ps_n, true_and, and_true, Nat.reduceAdd, Nat.reduceLeDiff, h0, h3, ai, cv, vi, hx, hb, nI_add, e1]
      rw [nI_1]
      exact ih (e + 1) (by omega)
theorem ok_allWays {l : Launch} {K : KK} {d : Nat} {μ : Mm} {P : Option AV → Mm → Prop} {w st : Nat} {A : Nat → Nat} (hw : w = 1 ∨ w = 2) (h0 : μ 2 0 0 0 = nI w) (h3 : μ 2 0 0 3 = nI st) (hst : st ≤ 64) (hA : ∀ j, j < st → μ 2 0 w j = nI (A j)) (h : P (some (vI (nI (smN A st)))) μ) : Ok l K d 33 [vR 2 0 0] μ P := by
  refine ok_go 3 (by decide +kernel) [some (vR 2 0 0), none, none] rfl (Nat.le_of_ble_eq_true rfl) ?_
  refine go_blk [(.iconst 0, 0, 0, 0), (.istore_n 1, 0, 0, 0), (.iconst 0, 0, 0, 0), (.istore_n 2, 0, 0, 0)] (by decide +kernel) ?_
  simp only [e_ic_0, e_is_1n, e_is_1I, e_is_1R, e_is_2n, e_is_2I, e_is_2R, e_nil, nol_n, nol_I, nol_R, rsum_0, rsum_I, rsum_R, ps_s, ps_n, true_and, and_true, Nat.reduceAdd, Nat.reduceLeDiff]
  exact lp_allWays hw h0 h3 hst hA h st 0 (by omega)
/-- how many spies stand in the row ahead of a soldier -/
def spA (t : TS) (a : Nat) : Nat := cntB (fun j => decide (t 3 j = 2)) a 0
/-- a soldier's side in a set of spies -/
def sdI (t : TS) (s a : Nat) : Nat := if t 3 a = 2 then (if s.testBit (spA t a) then 0 else 1) else t 4 a
def spU (t : TS) (a : Nat) : Nat → Nat
  | 0 => 0
  | e + 1 => spU t a e + (if t 3 e = 2 then 1 else 0)
theorem spU_cnt (t : TS) (a : Nat) : ∀ r j c, c + cntB (fun j => decide (t 3 j = 2)) r j = spU t a (j + r) + c - spU t a j ∧ spU t a j ≤ spU t a (j + r)
  | 0, j, c => by simp [cntB]
  | r + 1, j, c => by
    obtain ⟨i1, i2⟩ := spU_cnt t a r (j + 1) c
    have e : j + (r + 1) = j + 1 + r := by omega
    have u : spU t a (j + 1) = spU t a j + (if t 3 j = 2 then 1 else 0) := rfl
    rw [e]
    unfold cntB
    by_cases q : t 3 j = 2
    · simp only [q, decide_true, if_true] at u ⊢
      omega
    · simp only [q, decide_false, Bool.false_eq_true, if_false] at u ⊢
      omega
theorem spU_A (t : TS) (a : Nat) : spU t a a = spA t a := by
  have h := (spU_cnt t a a 0 0).1
  simp only [Nat.zero_add, Nat.add_zero] at h
  unfold spA
  rw [h]
  show spU t a a = spU t a a - 0
  rfl
theorem spU_le (t : TS) (a : Nat) : ∀ e, spU t a e ≤ e
  | 0 => Nat.le_refl 0
  | e + 1 => by
    have := spU_le t a e
    show spU t a e + (if t 3 e = 2 then 1 else 0) ≤ e + 1
    split <;> omega
theorem lp_sideIn {l : Launch} {K : KK} {d : Nat} {μ : Mm} {P : Option AV → Mm → Prop} {i : Nat} (hi : i < 6) {t : TS} {op s a : Nat} (hT : TRep μ i t) (hI : TInv op t) (ha : a < t 0 1) (hs : s < 64) (hk : t 3 a = 2) (hd1 : 2 ≤ d) (h : P (some (vI (nI (sdI t s a)))) μ) : ∀ (r e : Nat), e + r = a → Go l K d 38 23 [some (vI (nI s)), some (vI (nI a)), some (vR 6 i 0), some (vI (nI (spU t a e))), some (vI (nI e))] [] μ P := by
  have hn := hI.1
  have hd2 : 1 ≤ d := by omega
  intro r
  induction r with
  | zero =>
    intro e he
    have e0 : e = a := by omega
    subst e0
    have ul := spU_le t e e
    have eb := nI_bit1 (m := s) (c := spU t e e) (by omega) (by omega)
    have eS : sdI t s e = if s.testBit (spU t e e) then 0 else 1 := by unfold sdI; rw [if_pos hk, spU_A]
    rw [eS] at h
    refine go_blk [(.iload 4, 0, 0, 0), (.iload_n 1, 0, 0, 0), (.if_icmp .ge 24, 50, 0, 0)] (by decide +kernel) ?_
    simp only [e_ilw_4, e_il_1, e_icmp_ge, e_nil, nol_n, nol_I, nol_R, rsum_0, rsum_I, rsum_R, ps_s, ps_n, true_and, and_true, Nat.reduceAdd, Nat.reduceLeDiff, eb, Classical.not_not]
    refine ⟨fun c26 => ?_, fun c26 => ?_⟩
    · refine go_blk [(.iload_n 0, 0, 0, 0), (.iload_n 3, 0, 0, 0), (.ishr, 0, 0, 0), (.iconst 1, 0, 0, 0), (.iand, 0, 0, 0), (.iconst 1, 0, 0, 0), (.if_icmp .ne 7, 63, 0, 0)] (by decide +kernel) ?_
      simp only [e_il_0, e_il_3, e_ishr, e_ic_1, e_iand, e_icmp_ne, e_nil, nol_n, nol_I, nol_R, rsum_0, rsum_I, rsum_R, ps_s, ps_n, true_and, and_true, Nat.reduceAdd, Nat.reduceLeDiff, eb, Classical.not_not]
      refine ⟨fun c56 => ?_, fun c56 => ?_⟩
      · rw [if_neg c56] at h
        refine go_blk [(.iconst 1, 0, 0, 0), (.ireturn, 0, 0, 0)] (by decide +kernel) ?_
        simp only [e_ic_1, e_iret0, e_nil, nol_n, nol_I, nol_R, rsum_0, rsum_I, rsum_R, ps_s, ps_n, true_and, and_true, Nat.reduceAdd, Nat.reduceLeDiff, eb, Classical.not_not]
        exact h
      · rw [if_pos c56] at h
        refine go_blk [(.iconst 0, 0, 0, 0), (.goto 4, 64, 0, 0), (.ireturn, 0, 0, 0)] (by decide +kernel) ?_
        simp only [e_ic_0, e_goto, e_iret0, e_nil, nol_n, nol_I, nol_R, rsum_0, rsum_I, rsum_R, ps_s, ps_n, true_and, and_true, Nat.reduceAdd, Nat.reduceLeDiff, eb, Classical.not_not]
        exact h
    · exact absurd (nI_le (by omega) (by omega)) c26
  | succ r ih =>
    intro e he
    have k5 := (hI.2.1 e (by omega)).1
    have u : spU t a (e + 1) = spU t a e + (if t 3 e = 2 then 1 else 0) := rfl
    refine go_blk [(.iload 4, 0, 0, 0), (.iload_n 1, 0, 0, 0), (.if_icmp .ge 24, 50, 0, 0)] (by decide +kernel) ?_
    simp only [e_ilw_4, e_il_1, e_icmp_ge, e_nil, nol_n, nol_I, nol_R, rsum_0, rsum_I, rsum_R, ps_s, ps_n, true_and, and_true, Nat.reduceAdd, Nat.reduceLeDiff, hi, hd2, k5, Nat.reduceLT, Classical.not_not]
    refine ⟨fun c26 => ?_, fun c26 => ?_⟩
    · exact absurd c26 (nI_ge (by omega) (by omega))
    · refine go_blk [(.aload_n 2, 0, 0, 0), (.iload 4, 0, 0, 0), (.invokevirtual 36, 61, 1, 6)] (by decide +kernel) ?_
      simp only [e_al_2, e_ilw_4, e_iv_6_1, e_nil, nol_n, nol_I, nol_R, rsum_0, rsum_I, rsum_R, ps_s, ps_n, true_and, and_true, Nat.reduceAdd, Nat.reduceLeDiff, hi, hd2, k5, Nat.reduceLT, Classical.not_not]
      refine ok_kindOf hi hT hn (by omega) k5 (by omega) ?_
      refine go_blk [(.getstatic 40, 9, 2, 0), (.if_acmp .ne 6, 44, 0, 0)] (by decide +kernel) ?_
      simp only [e_st_2, e_acmp_ne, e_nil, nol_n, nol_I, nol_R, rsum_0, rsum_I, rsum_R, ps_s, ps_n, true_and, and_true, Nat.reduceAdd, Nat.reduceLeDiff, hi, hd2, k5, Nat.reduceLT, Classical.not_not]
      refine ⟨fun c38 => ?_, fun c38 => ?_⟩
      · rw [if_neg c38] at u
        refine go_blk [(.iinc 4 1, 0, 0, 0), (.goto (-24), 23, 0, 0)] (by decide +kernel) ?_
        simp only [e_inc_4_1n, e_inc_4_1I, e_inc_4_1R, e_goto, e_nil, nol_n, nol_I, nol_R, rsum_0, rsum_I, rsum_R, ps_s, ps_n, true_and, and_true, Nat.reduceAdd, Nat.reduceLeDiff, hi, hd2, k5, Nat.reduceLT, Classical.not_not]
        rw [nI_1]
        have z := ih (e + 1) (by omega)
        rw [u] at z
        exact z
      · rw [if_pos c38] at u
        refine go_blk [(.iinc 3 1, 0, 0, 0), (.iinc 4 1, 0, 0, 0), (.goto (-24), 23, 0, 0)] (by decide +kernel) ?_
        simp only [e_inc_3_1n, e_inc_3_1I, e_inc_3_1R, e_inc_4_1n, e_inc_4_1I, e_inc_4_1R, e_goto, e_nil, nol_n, nol_I, nol_R, rsum_0, rsum_I, rsum_R, ps_s, ps_n, true_and, and_true, Nat.reduceAdd, Nat.reduceLeDiff, hi, hd2, k5, Nat.reduceLT, Classical.not_not]
        rw [nI_1, nI_1]
        have z := ih (e + 1) (by omega)
        rw [u] at z
        exact z
theorem ok_sideIn {l : Launch} {K : KK} {d : Nat} {μ : Mm} {P : Option AV → Mm → Prop} {i : Nat} (hi : i < 6) {t : TS} {op s a : Nat} (hT : TRep μ i t) (hI : TInv op t) (ha : a < t 0 1) (hs : s < 64) (hd1 : 2 ≤ d) (h : P (some (vI (nI (sdI t s a)))) μ) : Ok l K d 38 [vI (nI s), vI (nI a), vR 6 i 0] μ P := by
  refine ok_go 5 (by decide +kernel) [some (vI (nI s)), some (vI (nI a)), some (vR 6 i 0), none, none] rfl (Nat.le_of_ble_eq_true rfl) ?_
  have hn := hI.1
  have hd2 : 1 ≤ d := by omega
  have k5 := (hI.2.1 a ha).1
  have vi : vp_in (nI a) 6 := vin (by omega) (by omega)
  have hx : ix (nI a) = a := nI_ix (by omega)
  have a4 := (hT.row ha).2.1
  refine go_blk [(.aload_n 2, 0, 0, 0), (.iload_n 1, 0, 0, 0), (.invokevirtual 36, 61, 1, 6)] (by decide +kernel) ?_
  simp only [e_al_2, e_il_1, e_iv_6_1, e_nil, nol_n, nol_I, nol_R, rsum_0, rsum_I, rsum_R, ps_s, ps_n, true_and, and_true, Nat.reduceAdd, Nat.reduceLeDiff, hi, hd2, k5, Nat.reduceLT, vi, hx, a4]
  refine ok_kindOf hi hT hn ha k5 (by omega) ?_
  refine go_blk [(.getstatic 40, 9, 2, 0), (.if_acmp .eq 10, 18, 0, 0)] (by decide +kernel) ?_
  simp only [e_st_2, e_acmp_eq, e_nil, nol_n, nol_I, nol_R, rsum_0, rsum_I, rsum_R, ps_s, ps_n, true_and, and_true, Nat.reduceAdd, Nat.reduceLeDiff, hi, hd2, k5, Nat.reduceLT, vi, hx, a4]
  refine ⟨fun c8 => ?_, fun c8 => ?_⟩
  · refine go_blk [(.iconst 0, 0, 0, 0), (.istore_n 3, 0, 0, 0), (.iconst 0, 0, 0, 0), (.istore 4, 0, 0, 0)] (by decide +kernel) ?_
    simp only [e_ic_0, e_is_3n, e_is_3I, e_is_3R, e_isw_4n, e_isw_4I, e_isw_4R, e_nil, nol_n, nol_I, nol_R, rsum_0, rsum_I, rsum_R, ps_s, ps_n, true_and, and_true, Nat.reduceAdd, Nat.reduceLeDiff, hi, hd2, k5, Nat.reduceLT, vi, hx, a4]
    exact lp_sideIn hi hT hI ha hs c8 hd1 h a 0 (by omega)
  · have eS : sdI t s a = t 4 a := by unfold sdI; rw [if_neg c8]
    rw [eS] at h
    refine go_blk [(.aload_n 2, 0, 0, 0), (.getfield 50, 6, 3, 0), (.iload_n 1, 0, 0, 0), (.iaload, 0, 0, 0), (.ireturn, 0, 0, 0)] (by decide +kernel) ?_
    simp only [e_al_2, e_gf_6_3, e_il_1, e_ia, e_iret0, rd_6_3, ai_0_4, ai_1_7, ai_2_1, ai_2_2, ai_3_1, ai_4_1, ai_6_3, ai_6_4, ai_6_5, ai_6_6, ai_6_7, ai_6_8, ai_8_5, ai_8_6, ai_8_17, ai_8_21, ai_8_23, ai_8_24, ai_8_27, ai_8_28, ai_8_38, ai_8_39, ai_8_40, e_nil, nol_n, nol_I, nol_R, rsum_0, rsum_I, rsum_R, ps_s, ps_n, true_and, and_true, Nat.reduceAdd, Nat.reduceLeDiff, hi, hd2, k5, Nat.reduceLT, vi, hx, a4]
    exact h
