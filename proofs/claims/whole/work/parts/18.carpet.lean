def tc (op c : Nat) : Bool := !allB (fun e => op.testBit e || dst c e != 1) 15 0
def bsF (op : Nat) : Nat → Nat
  | 0 => 0
  | k + 1 => bsF op k ||| (if tc op k then 2 ^ k else 0)
/-- the cells that are beside cover -/
def bsd (op : Nat) : Nat := bsF op 15
def see (op c e : Nat) : Bool := op.testBit e && lne c e && (btw c e &&& op == btw c e)
def lkS (op c : Nat) : Nat → Nat
  | 0 => 2 ^ c
  | e + 1 => lkS op c e ||| (if see op c e then 2 ^ e else 0)
/-- what is seen from a cell -/
def sn (op c : Nat) : Nat := if op.testBit c then lkS op c 15 else 0
def opF (pg : Nat → Nat) : Nat → Nat
  | 0 => 0
  | k + 1 => opF pg k ||| (if pg (k + k / 5) = 46 then 2 ^ k else 0)
theorem ite_pw_lt {b : Bool} {k n : Nat} (h : k < n) : (if b then 2 ^ k else 0) < 2 ^ n := by
  split
  · exact pw_lt h
  · exact Nat.two_pow_pos n
theorem bsF_lt (op : Nat) : ∀ k, k ≤ 15 → bsF op k < 2 ^ 15
  | 0, _ => Nat.two_pow_pos 15
  | k + 1, h => or_lt (bsF_lt op k (by omega)) (ite_pw_lt (by omega))
theorem lkS_lt (op c : Nat) (hc : c < 15) : ∀ k, k ≤ 15 → lkS op c k < 2 ^ 15
  | 0, _ => pw_lt hc
  | k + 1, h => or_lt (lkS_lt op c hc k (by omega)) (ite_pw_lt (by omega))
theorem opF_lt (pg : Nat → Nat) : ∀ k, k ≤ 15 → opF pg k < 2 ^ 15
  | 0, _ => Nat.two_pow_pos 15
  | k + 1, h => or_lt (opF_lt pg k (by omega)) (by
      by_cases e : pg (k + k / 5) = 46
      · rw [if_pos e]; exact pw_lt (by omega)
      · rw [if_neg e]; decide)
theorem bsd_lt (op : Nat) : bsd op < 2 ^ 15 := bsF_lt op 15 (by omega)
theorem sn_lt (op c : Nat) (hc : c < 15) : sn op c < 2 ^ 15 := by
  unfold sn; split
  · exact lkS_lt op c hc 15 (by omega)
  · decide
theorem bsF_bit (op : Nat) : ∀ k c, (bsF op k).testBit c = (decide (c < k) && tc op c)
  | 0, c => by simp [bsF]
  | k + 1, c => by
    unfold bsF
    rw [Nat.testBit_or, bsF_bit op k c]
    by_cases h : c = k
    · subst h
      cases tc op c <;> simp
    · have e1 : decide (c < k + 1) = decide (c < k) := by
        have : (c < k + 1) ↔ (c < k) := by omega
        simp [this]
      rw [e1]
      have e2 : (if tc op k = true then 2 ^ k else 0).testBit c = false := by
        split
        · rw [Nat.testBit_two_pow]; simpa using fun z => h z.symm
        · simp
      rw [e2, Bool.or_false]
theorem bsd_bit (op : Nat) {c : Nat} (h : c < 15) : (bsd op).testBit c = tc op c := by
  unfold bsd; rw [bsF_bit]; simp [h]
theorem btw_lt : ∀ a, a < 15 → ∀ b, b < 15 → lne a b = true → btw a b < 2 ^ 15 := by decide +kernel
/-- the carpet: laid or not, the open cells, and what was worked out of them -/
def CRep (μ : Mm) (laid : Bool) (op : Nat) : Prop := μ 0 0 0 0 = bi laid ∧ μ 0 0 0 1 = nI op ∧ op < 2 ^ 15 ∧ (laid = false → op = 0) ∧ (laid = true → μ 0 0 0 2 = nI (bsd op) ∧ ∀ c, c < 15 → μ 0 0 4 c = nI (sn op c))
theorem nI15 {c : Nat} (h : c < 15) : ((15 : Int32) ≤ nI c) = False := eq_false (nI_ge (b := 15) (by omega) (by omega))
theorem nI0 {c : Nat} (h : c < 2 ^ 31) : (nI c < 0) = False := eq_false (nI_pos h)
theorem ok_c_has {l : Launch} {K : KK} {d : Nat} {μ : Mm} {P : Option AV → Mm → Prop} {x : Int32} {laid : Bool} (hl : μ 0 0 0 0 = bi laid) (h : P (some (vI (bi (laid && !decide (x < 0) && !decide (15 ≤ x))))) μ) : Ok l K d 2 [vR 0 0 0, vI x] μ P := by
  refine ok_go 2 (by decide +kernel) [some (vR 0 0 0), some (vI x)] rfl (Nat.le_of_ble_eq_true rfl) ?_
  refine go_blk [(.aload_n 0, 0, 0, 0), (.getfield 9, 0, 0, 0), (.ifCond .eq 17, 21, 0, 0)] (by decide +kernel) ?_
  simp only [e_al_0, e_gf_0_0, e_if_eq, rd_0_0, e_nil, nol_n, nol_I, nol_R, rsum_0, rsum_I, rsum_R, ps_s, ps_n, true_and, and_true, Nat.reduceAdd, Nat.reduceLeDiff, hl, bi_0]
  refine ⟨fun c4 => ?_, fun c4 => ?_⟩
  · refine go_blk [(.iconst 0, 0, 0, 0), (.ireturn, 1, 0, 0)] (by decide +kernel) ?_
    simp only [e_ic_0, e_iret1, e_nil, nol_n, nol_I, nol_R, rsum_0, rsum_I, rsum_R, ps_s, ps_n, true_and, and_true, Nat.reduceAdd, Nat.reduceLeDiff, hl, bi_0]
    refine ⟨by decide, ?_⟩
    simp_all [bi]
  · refine go_blk [(.iload_n 1, 0, 0, 0), (.ifCond .lt 13, 21, 0, 0)] (by decide +kernel) ?_
    simp only [e_il_1, e_if_lt, e_nil, nol_n, nol_I, nol_R, rsum_0, rsum_I, rsum_R, ps_s, ps_n, true_and, and_true, Nat.reduceAdd, Nat.reduceLeDiff, hl, bi_0]
    refine ⟨fun c8 => ?_, fun c8 => ?_⟩
    · refine go_blk [(.iconst 0, 0, 0, 0), (.ireturn, 1, 0, 0)] (by decide +kernel) ?_
      simp only [e_ic_0, e_iret1, e_nil, nol_n, nol_I, nol_R, rsum_0, rsum_I, rsum_R, ps_s, ps_n, true_and, and_true, Nat.reduceAdd, Nat.reduceLeDiff, hl, bi_0]
      refine ⟨by decide, ?_⟩
      simp_all [bi]
    · refine go_blk [(.iload_n 1, 0, 0, 0), (.bipush 15, 0, 0, 0), (.if_icmp .ge 7, 21, 0, 0)] (by decide +kernel) ?_
      simp only [e_il_1, e_bp_15, e_icmp_ge, e_nil, nol_n, nol_I, nol_R, rsum_0, rsum_I, rsum_R, ps_s, ps_n, true_and, and_true, Nat.reduceAdd, Nat.reduceLeDiff, hl, bi_0]
      refine ⟨fun c14 => ?_, fun c14 => ?_⟩
      · refine go_blk [(.iconst 0, 0, 0, 0), (.ireturn, 1, 0, 0)] (by decide +kernel) ?_
        simp only [e_ic_0, e_iret1, e_nil, nol_n, nol_I, nol_R, rsum_0, rsum_I, rsum_R, ps_s, ps_n, true_and, and_true, Nat.reduceAdd, Nat.reduceLeDiff, hl, bi_0]
        refine ⟨by decide, ?_⟩
        simp_all [bi]
      · refine go_blk [(.iconst 1, 0, 0, 0), (.goto 4, 22, 0, 0), (.ireturn, 1, 0, 0)] (by decide +kernel) ?_
        simp only [e_ic_1, e_goto, e_iret1, e_nil, nol_n, nol_I, nol_R, rsum_0, rsum_I, rsum_R, ps_s, ps_n, true_and, and_true, Nat.reduceAdd, Nat.reduceLeDiff, hl, bi_0]
        refine ⟨by decide, ?_⟩
        simp_all [bi]
theorem ok_isOpen {l : Launch} {K : KK} {d : Nat} {μ : Mm} {P : Option AV → Mm → Prop} {c op : Nat} (ho : μ 0 0 0 1 = nI op) (hop : op < 2 ^ 15) (hc : c < 15) (h : P (some (vI (bi (op.testBit c)))) μ) : Ok l K d 3 [vR 0 0 0, vI (nI c)] μ P := by
  refine ok_go 2 (by decide +kernel) [some (vR 0 0 0), some (vI (nI c))] rfl (Nat.le_of_ble_eq_true rfl) ?_
  have hb := nI_bit1 (m := op) (c := c) (by omega) (by omega)
  refine go_blk [(.iload_n 1, 0, 0, 0), (.ifCond .lt 25, 26, 0, 0)] (by decide +kernel) ?_
  simp only [e_il_1, e_if_lt, e_nil, nol_n, nol_I, nol_R, rsum_0, rsum_I, rsum_R, ps_s, ps_n, true_and, and_true, Nat.reduceAdd, Nat.reduceLeDiff, ho, nI15 hc, nI0 (show c < 2 ^ 31 by omega), hb, true_implies, false_implies, not_true_eq_false, not_false_eq_true]
  refine go_blk [(.iload_n 1, 0, 0, 0), (.bipush 15, 0, 0, 0), (.if_icmp .ge 19, 26, 0, 0)] (by decide +kernel) ?_
  simp only [e_il_1, e_bp_15, e_icmp_ge, e_nil, nol_n, nol_I, nol_R, rsum_0, rsum_I, rsum_R, ps_s, ps_n, true_and, and_true, Nat.reduceAdd, Nat.reduceLeDiff, ho, nI15 hc, nI0 (show c < 2 ^ 31 by omega), hb, true_implies, false_implies, not_true_eq_false, not_false_eq_true]
  refine go_blk [(.aload_n 0, 0, 0, 0), (.getfield 15, 0, 1, 0), (.iload_n 1, 0, 0, 0), (.ishr, 0, 0, 0), (.iconst 1, 0, 0, 0), (.iand, 0, 0, 0), (.iconst 1, 0, 0, 0), (.if_icmp .ne 7, 26, 0, 0)] (by decide +kernel) ?_
  simp only [e_al_0, e_gf_0_1, e_il_1, e_ishr, e_ic_1, e_iand, e_icmp_ne, rd_0_1, e_nil, nol_n, nol_I, nol_R, rsum_0, rsum_I, rsum_R, ps_s, ps_n, true_and, and_true, Nat.reduceAdd, Nat.reduceLeDiff, ho, nI15 hc, nI0 (show c < 2 ^ 31 by omega), hb, true_implies, false_implies, not_true_eq_false, not_false_eq_true]
  refine ⟨fun c19 => ?_, fun c19 => ?_⟩
  · refine go_blk [(.iconst 0, 0, 0, 0), (.ireturn, 1, 0, 0)] (by decide +kernel) ?_
    simp only [e_ic_0, e_iret1, e_nil, nol_n, nol_I, nol_R, rsum_0, rsum_I, rsum_R, ps_s, ps_n, true_and, and_true, Nat.reduceAdd, Nat.reduceLeDiff, ho, nI15 hc, nI0 (show c < 2 ^ 31 by omega), hb, true_implies, false_implies, not_true_eq_false, not_false_eq_true]
    refine ⟨by decide, ?_⟩
    simp_all [bi]
  · refine go_blk [(.iconst 1, 0, 0, 0), (.goto 4, 27, 0, 0), (.ireturn, 1, 0, 0)] (by decide +kernel) ?_
    simp only [e_ic_1, e_goto, e_iret1, e_nil, nol_n, nol_I, nol_R, rsum_0, rsum_I, rsum_R, ps_s, ps_n, true_and, and_true, Nat.reduceAdd, Nat.reduceLeDiff, ho, nI15 hc, nI0 (show c < 2 ^ 31 by omega), hb, true_implies, false_implies, not_true_eq_false, not_false_eq_true]
    refine ⟨by decide, ?_⟩
    simp_all [bi]
theorem ok_openCells {l : Launch} {K : KK} {d : Nat} {μ : Mm} {P : Option AV → Mm → Prop} {op : Nat} (ho : μ 0 0 0 1 = nI op) (hop : op < 2 ^ 15) (hd1 : 1 ≤ d) (h : P (some (vI (nI (pop op)))) μ) : Ok l K d 4 [vR 0 0 0] μ P := by
  refine ok_go 1 (by decide +kernel) [some (vR 0 0 0)] rfl (Nat.le_of_ble_eq_true rfl) ?_
  refine go_blk [(.aload_n 0, 0, 0, 0), (.getfield 15, 0, 1, 0), (.invokestatic 54, 178, 1, 0)] (by decide +kernel) ?_
  simp only [e_al_0, e_gf_0_1, e_ivs_1, rd_0_1, e_nil, Nat.reduceLT, nol_n, nol_I, nol_R, rsum_0, rsum_I, rsum_R, ps_s, ps_n, true_and, and_true, Nat.reduceAdd, Nat.reduceLeDiff, ho, hd1]
  refine ok_bitCount (by omega) ?_
  refine go_blk [(.ireturn, 0, 0, 0)] (by decide +kernel) ?_
  simp only [e_iret0, e_nil, nol_n, nol_I, nol_R, rsum_0, rsum_I, rsum_R, ps_s, ps_n, true_and, and_true, Nat.reduceAdd, Nat.reduceLeDiff, ho, hd1]
  exact h
theorem ok_seenFrom {l : Launch} {K : KK} {d : Nat} {μ : Mm} {P : Option AV → Mm → Prop} {c v : Nat} (hc : c < 15) (hs : μ 0 0 4 c = nI v) (h : P (some (vI (nI v))) μ) : Ok l K d 5 [vR 0 0 0, vI (nI c)] μ P := by
  refine ok_go 2 (by decide +kernel) [some (vR 0 0 0), some (vI (nI c))] rfl (Nat.le_of_ble_eq_true rfl) ?_
  have hv : vp_in (nI c) 15 := vin (by omega) (by omega)
  have hx : ix (nI c) = c := nI_ix (by omega)
  refine go_blk [(.iload_n 1, 0, 0, 0), (.ifCond .lt 18, 19, 0, 0)] (by decide +kernel) ?_
  simp only [e_il_1, e_if_lt, e_nil, nol_n, nol_I, nol_R, rsum_0, rsum_I, rsum_R, ps_s, ps_n, true_and, and_true, Nat.reduceAdd, Nat.reduceLeDiff, nI15 hc, nI0 (show c < 2 ^ 31 by omega), hv, hx, hs, true_implies, false_implies, not_true_eq_false, not_false_eq_true]
  refine go_blk [(.iload_n 1, 0, 0, 0), (.bipush 15, 0, 0, 0), (.if_icmp .ge 12, 19, 0, 0)] (by decide +kernel) ?_
  simp only [e_il_1, e_bp_15, e_icmp_ge, e_nil, nol_n, nol_I, nol_R, rsum_0, rsum_I, rsum_R, ps_s, ps_n, true_and, and_true, Nat.reduceAdd, Nat.reduceLeDiff, nI15 hc, nI0 (show c < 2 ^ 31 by omega), hv, hx, hs, true_implies, false_implies, not_true_eq_false, not_false_eq_true]
  refine go_blk [(.aload_n 0, 0, 0, 0), (.getfield 22, 0, 3, 0), (.iload_n 1, 0, 0, 0), (.iaload, 0, 0, 0), (.goto 4, 20, 0, 0), (.ireturn, 0, 0, 0)] (by decide +kernel) ?_
  simp only [e_al_0, e_gf_0_3, e_il_1, e_ia, e_goto, e_iret0, rd_0_3, ai_0_4, ai_1_7, ai_2_1, ai_2_2, ai_3_1, ai_4_1, ai_6_3, ai_6_4, ai_6_5, ai_6_6, ai_6_7, ai_6_8, ai_8_5, ai_8_6, ai_8_17, ai_8_21, ai_8_23, ai_8_24, ai_8_27, ai_8_28, ai_8_38, ai_8_39, ai_8_40, e_nil, nol_n, nol_I, nol_R, rsum_0, rsum_I, rsum_R, ps_s, ps_n, true_and, and_true, Nat.reduceAdd, Nat.reduceLeDiff, nI15 hc, nI0 (show c < 2 ^ 31 by omega), hv, hx, hs, true_implies, false_implies, not_true_eq_false, not_false_eq_true]
  exact h
theorem ok_hasCoverOn {l : Launch} {K : KK} {d : Nat} {μ : Mm} {P : Option AV → Mm → Prop} {m op : Nat} (ho : μ 0 0 0 1 = nI op) (hm : m < 2 ^ 15) (h : P (some (vI (bi (decide (¬ m &&& op = m))))) μ) : Ok l K d 6 [vR 0 0 0, vI (nI m)] μ P := by
  refine ok_go 2 (by decide +kernel) [some (vR 0 0 0), some (vI (nI m))] rfl (Nat.le_of_ble_eq_true rfl) ?_
  have he := nI_out (m := m) (o := op) (by omega)
  refine go_blk [(.iload_n 1, 0, 0, 0), (.aload_n 0, 0, 0, 0), (.getfield 15, 0, 1, 0), (.iconst (-1), 0, 0, 0), (.ixor, 0, 0, 0), (.iand, 0, 0, 0), (.ifCond .eq 7, 15, 0, 0)] (by decide +kernel) ?_
  simp only [e_il_1, e_al_0, e_gf_0_1, e_ic_m1, e_ixor, e_iand, e_if_eq, rd_0_1, e_nil, nol_n, nol_I, nol_R, rsum_0, rsum_I, rsum_R, ps_s, ps_n, true_and, and_true, Nat.reduceAdd, Nat.reduceLeDiff, ho, he]
  refine ⟨fun c8 => ?_, fun c8 => ?_⟩
  · refine go_blk [(.iconst 0, 0, 0, 0), (.ireturn, 1, 0, 0)] (by decide +kernel) ?_
    simp only [e_ic_0, e_iret1, e_nil, nol_n, nol_I, nol_R, rsum_0, rsum_I, rsum_R, ps_s, ps_n, true_and, and_true, Nat.reduceAdd, Nat.reduceLeDiff, ho, he]
    refine ⟨by decide, ?_⟩
    simp_all [bi]
  · refine go_blk [(.iconst 1, 0, 0, 0), (.goto 4, 16, 0, 0), (.ireturn, 1, 0, 0)] (by decide +kernel) ?_
    simp only [e_ic_1, e_goto, e_iret1, e_nil, nol_n, nol_I, nol_R, rsum_0, rsum_I, rsum_R, ps_s, ps_n, true_and, and_true, Nat.reduceAdd, Nat.reduceLeDiff, ho, he]
    refine ⟨by decide, ?_⟩
    simp_all [bi]
theorem ok_hasCoverAround {l : Launch} {K : KK} {d : Nat} {μ : Mm} {P : Option AV → Mm → Prop} {c bs : Nat} (ho : μ 0 0 0 2 = nI bs) (hbs : bs < 2 ^ 15) (hc : c < 15) (h : P (some (vI (bi (bs.testBit c)))) μ) : Ok l K d 7 [vR 0 0 0, vI (nI c)] μ P := by
  refine ok_go 2 (by decide +kernel) [some (vR 0 0 0), some (vI (nI c))] rfl (Nat.le_of_ble_eq_true rfl) ?_
  have hb := nI_bit1 (m := bs) (c := c) (by omega) (by omega)
  refine go_blk [(.aload_n 0, 0, 0, 0), (.getfield 19, 0, 2, 0), (.iload_n 1, 0, 0, 0), (.ishr, 0, 0, 0), (.iconst 1, 0, 0, 0), (.iand, 0, 0, 0), (.iconst 1, 0, 0, 0), (.if_icmp .ne 7, 16, 0, 0)] (by decide +kernel) ?_
  simp only [e_al_0, e_gf_0_2, e_il_1, e_ishr, e_ic_1, e_iand, e_icmp_ne, rd_0_2, e_nil, nol_n, nol_I, nol_R, rsum_0, rsum_I, rsum_R, ps_s, ps_n, true_and, and_true, Nat.reduceAdd, Nat.reduceLeDiff, ho, hb]
  refine ⟨fun c9 => ?_, fun c9 => ?_⟩
  · refine go_blk [(.iconst 0, 0, 0, 0), (.ireturn, 1, 0, 0)] (by decide +kernel) ?_
    simp only [e_ic_0, e_iret1, e_nil, nol_n, nol_I, nol_R, rsum_0, rsum_I, rsum_R, ps_s, ps_n, true_and, and_true, Nat.reduceAdd, Nat.reduceLeDiff, ho, hb]
    refine ⟨by decide, ?_⟩
    simp_all [bi]
  · refine go_blk [(.iconst 1, 0, 0, 0), (.goto 4, 17, 0, 0), (.ireturn, 1, 0, 0)] (by decide +kernel) ?_
    simp only [e_ic_1, e_goto, e_iret1, e_nil, nol_n, nol_I, nol_R, rsum_0, rsum_I, rsum_R, ps_s, ps_n, true_and, and_true, Nat.reduceAdd, Nat.reduceLeDiff, ho, hb]
    refine ⟨by decide, ?_⟩
    simp_all [bi]
theorem lp_tc {l : Launch} {K : KK} {d : Nat} {μ : Mm} {P : Option AV → Mm → Prop} {c op : Nat} (ho : μ 0 0 0 1 = nI op) (hop : op < 2 ^ 15) (hc : c < 15) (hd1 : 2 ≤ d) : ∀ (r e : Nat), e + r = 15 → P (some (vI (bi (!allB (fun e => op.testBit e || dst c e != 1) r e)))) μ → Go l K d 9 2 [some (vR 0 0 0), some (vI (nI c)), some (vI (nI e))] [] μ P := by
  have hd2 : 1 ≤ d := by omega
  intro r
  induction r with
  | zero =>
    intro e he h
    refine go_blk [(.iload_n 2, 0, 0, 0), (.bipush 15, 0, 0, 0), (.if_icmp .ge 28, 33, 0, 0)] (by decide +kernel) ?_
    simp only [e_il_2, e_bp_15, e_icmp_ge, e_nil, nol_n, nol_I, nol_R, rsum_0, rsum_I, rsum_R, ps_s, ps_n, true_and, and_true, Nat.reduceAdd, Nat.reduceLeDiff]
    refine ⟨fun c5 => ?_, fun c5 => ?_⟩
    · refine go_blk [(.iconst 0, 0, 0, 0), (.ireturn, 1, 0, 0)] (by decide +kernel) ?_
      simp only [e_ic_0, e_iret1, e_nil, nol_n, nol_I, nol_R, rsum_0, rsum_I, rsum_R, ps_s, ps_n, true_and, and_true, Nat.reduceAdd, Nat.reduceLeDiff]
      exact ⟨by decide, h⟩
    · exact absurd (nI_le (a := 15) (by omega) (by omega)) c5
  | succ r ih =>
    intro e he h
    have hdl := (g_dst c hc e (by omega)).2
    have e1 : (nI (dst c e) = 1) = (dst c e = 1) := propext (nI_eq (b := 1) (by omega) (by omega))
    refine go_blk [(.iload_n 2, 0, 0, 0), (.bipush 15, 0, 0, 0), (.if_icmp .ge 28, 33, 0, 0)] (by decide +kernel) ?_
    simp only [e_il_2, e_bp_15, e_icmp_ge, e_nil, nol_n, nol_I, nol_R, rsum_0, rsum_I, rsum_R, ps_s, ps_n, true_and, and_true, Nat.reduceAdd, Nat.reduceLeDiff, hd2, bi_0, e1]
    refine ⟨fun c5 => ?_, fun c5 => ?_⟩
    · exact absurd c5 (nI_ge (b := 15) (by omega) (by omega))
    · refine go_blk [(.aload_n 0, 0, 0, 0), (.iload_n 2, 0, 0, 0), (.invokevirtual 44, 3, 1, 0)] (by decide +kernel) ?_
      simp only [e_al_0, e_il_2, e_iv_0_1, e_nil, nol_n, nol_I, nol_R, rsum_0, rsum_I, rsum_R, ps_s, ps_n, true_and, and_true, Nat.reduceAdd, Nat.reduceLeDiff, hd2, bi_0, e1]
      refine ok_isOpen ho hop (by omega) ?_
      refine go_blk [(.ifCond .ne 14, 27, 0, 0)] (by decide +kernel) ?_
      simp only [e_if_ne, e_nil, nol_n, nol_I, nol_R, rsum_0, rsum_I, rsum_R, ps_s, ps_n, true_and, and_true, Nat.reduceAdd, Nat.reduceLeDiff, hd2, bi_0, e1]
      refine ⟨fun c13 => ?_, fun c13 => ?_⟩
      · refine go_blk [(.iinc 2 1, 0, 0, 0), (.goto (-28), 2, 0, 0)] (by decide +kernel) ?_
        simp only [e_inc_2_1n, e_inc_2_1I, e_inc_2_1R, e_goto, e_nil, nol_n, nol_I, nol_R, rsum_0, rsum_I, rsum_R, ps_s, ps_n, true_and, and_true, Nat.reduceAdd, Nat.reduceLeDiff, hd2, bi_0, e1]
        rw [nI_1]
        refine ih (e + 1) (by omega) ?_
        have e3 : (op.testBit e || dst c e != 1) = true := by simp_all
        rw [allB, e3, Bool.true_and] at h
        exact h
      · refine go_blk [(.iload_n 1, 0, 0, 0), (.iload_n 2, 0, 0, 0), (.invokestatic 63, 26, 2, 0)] (by decide +kernel) ?_
        simp only [e_il_1, e_il_2, e_ivs_2, e_nil, Nat.reduceLT, nol_n, nol_I, nol_R, rsum_0, rsum_I, rsum_R, ps_s, ps_n, true_and, and_true, Nat.reduceAdd, Nat.reduceLeDiff, hd2, bi_0, e1]
        refine ok_distance hc (by omega) (by omega) ?_
        refine go_blk [(.iconst 1, 0, 0, 0), (.if_icmp .ne 5, 27, 0, 0)] (by decide +kernel) ?_
        simp only [e_ic_1, e_icmp_ne, e_nil, nol_n, nol_I, nol_R, rsum_0, rsum_I, rsum_R, ps_s, ps_n, true_and, and_true, Nat.reduceAdd, Nat.reduceLeDiff, hd2, bi_0, e1]
        refine ⟨fun c22 => ?_, fun c22 => ?_⟩
        · refine go_blk [(.iinc 2 1, 0, 0, 0), (.goto (-28), 2, 0, 0)] (by decide +kernel) ?_
          simp only [e_inc_2_1n, e_inc_2_1I, e_inc_2_1R, e_goto, e_nil, nol_n, nol_I, nol_R, rsum_0, rsum_I, rsum_R, ps_s, ps_n, true_and, and_true, Nat.reduceAdd, Nat.reduceLeDiff, hd2, bi_0, e1]
          rw [nI_1]
          refine ih (e + 1) (by omega) ?_
          have e3 : (op.testBit e || dst c e != 1) = true := by simp_all
          rw [allB, e3, Bool.true_and] at h
          exact h
        · refine go_blk [(.iconst 1, 0, 0, 0), (.ireturn, 1, 0, 0)] (by decide +kernel) ?_
          simp only [e_ic_1, e_iret1, e_nil, nol_n, nol_I, nol_R, rsum_0, rsum_I, rsum_R, ps_s, ps_n, true_and, and_true, Nat.reduceAdd, Nat.reduceLeDiff, hd2, bi_0, e1]
          refine ⟨by decide, ?_⟩
          have e3 : (op.testBit e || dst c e != 1) = false := by simp_all
          rw [allB, e3, Bool.false_and] at h
          exact h
theorem ok_touchesCover {l : Launch} {K : KK} {d : Nat} {μ : Mm} {P : Option AV → Mm → Prop} {c op : Nat} (ho : μ 0 0 0 1 = nI op) (hop : op < 2 ^ 15) (hc : c < 15) (hd1 : 2 ≤ d) (h : P (some (vI (bi (tc op c)))) μ) : Ok l K d 9 [vR 0 0 0, vI (nI c)] μ P := by
  refine ok_go 3 (by decide +kernel) [some (vR 0 0 0), some (vI (nI c)), none] rfl (Nat.le_of_ble_eq_true rfl) ?_
  refine go_blk [(.iconst 0, 0, 0, 0), (.istore_n 2, 0, 0, 0)] (by decide +kernel) ?_
  simp only [e_ic_0, e_is_2n, e_is_2I, e_is_2R, e_nil, nol_n, nol_I, nol_R, rsum_0, rsum_I, rsum_R, ps_s, ps_n, true_and, and_true, Nat.reduceAdd, Nat.reduceLeDiff]
  exact lp_tc ho hop hc hd1 15 0 rfl h
theorem lp_lk {l : Launch} {K : KK} {d : Nat} {μ : Mm} {P : Option AV → Mm → Prop} {c op : Nat} {y4 : Option AV} (ho : μ 0 0 0 1 = nI op) (hop : op < 2 ^ 15) (hc : c < 15) (hd1 : 2 ≤ d) : ∀ (r e : Nat) (y4 : Option AV), e + r = 15 → P (some (vI (nI (lkS op c 15)))) μ → Go l K d 10 6 [some (vR 0 0 0), some (vI (nI c)), some (vI (nI (lkS op c e))), some (vI (nI e)), y4] [] μ P := by
  have hd2 : 1 ≤ d := by omega
  intro r
  induction r with
  | zero =>
    intro e y4 he h
    have e15 : e = 15 := by omega
    subst e15
    refine go_blk [(.iload_n 3, 0, 0, 0), (.bipush 15, 0, 0, 0), (.if_icmp .ge 45, 54, 0, 0)] (by decide +kernel) ?_
    simp only [e_il_3, e_bp_15, e_icmp_ge, e_nil, nol_n, nol_I, nol_R, rsum_0, rsum_I, rsum_R, ps_s, ps_n, true_and, and_true, Nat.reduceAdd, Nat.reduceLeDiff]
    refine ⟨fun c9 => ?_, fun c9 => ?_⟩
    · refine go_blk [(.iload_n 2, 0, 0, 0), (.ireturn, 0, 0, 0)] (by decide +kernel) ?_
      simp only [e_il_2, e_iret0, e_nil, nol_n, nol_I, nol_R, rsum_0, rsum_I, rsum_R, ps_s, ps_n, true_and, and_true, Nat.reduceAdd, Nat.reduceLeDiff]
      exact h
    · exact absurd (by decide) c9
  | succ r ih =>
    intro e y4 he h
    have hsh := nI_shl (c := e) (by omega)
    have hl1 : lkS op c (e + 1) = lkS op c e ||| (if see op c e then 2 ^ e else 0) := rfl
    cases hln : lne c e with
    | false =>
      have hbw : bwI c e = -1 := by simp [bwI, hln]
      have hse : see op c e = false := by simp [see, hln]
      rw [hse] at hl1
      simp only [Bool.false_eq_true, if_false, Nat.or_zero] at hl1
      refine go_blk [(.iload_n 3, 0, 0, 0), (.bipush 15, 0, 0, 0), (.if_icmp .ge 45, 54, 0, 0)] (by decide +kernel) ?_
      simp only [e_il_3, e_bp_15, e_icmp_ge, e_nil, nol_n, nol_I, nol_R, rsum_0, rsum_I, rsum_R, ps_s, ps_n, true_and, and_true, Nat.reduceAdd, Nat.reduceLeDiff, hd2, bi_0, hbw]
      refine ⟨fun c9 => ?_, fun c9 => ?_⟩
      · exact absurd c9 (nI_ge (b := 15) (by omega) (by omega))
      · refine go_blk [(.iload_n 1, 0, 0, 0), (.iload_n 3, 0, 0, 0), (.invokestatic 67, 28, 2, 0)] (by decide +kernel) ?_
        simp only [e_il_1, e_il_3, e_ivs_2, e_nil, Nat.reduceLT, nol_n, nol_I, nol_R, rsum_0, rsum_I, rsum_R, ps_s, ps_n, true_and, and_true, Nat.reduceAdd, Nat.reduceLeDiff, hd2, bi_0, hbw]
        refine ok_between hc (by omega) (by omega) ?_
        refine go_blk [(.istore 4, 0, 0, 0), (.aload_n 0, 0, 0, 0), (.iload_n 3, 0, 0, 0), (.invokevirtual 44, 3, 1, 0)] (by decide +kernel) ?_
        simp only [e_isw_4n, e_isw_4I, e_isw_4R, e_al_0, e_il_3, e_iv_0_1, e_nil, nol_n, nol_I, nol_R, rsum_0, rsum_I, rsum_R, ps_s, ps_n, true_and, and_true, Nat.reduceAdd, Nat.reduceLeDiff, hd2, bi_0, hbw]
        refine ok_isOpen ho hop (by omega) ?_
        refine go_blk [(.ifCond .eq 24, 48, 0, 0)] (by decide +kernel) ?_
        simp only [e_if_eq, e_nil, nol_n, nol_I, nol_R, rsum_0, rsum_I, rsum_R, ps_s, ps_n, true_and, and_true, Nat.reduceAdd, Nat.reduceLeDiff, hd2, bi_0, hbw]
        refine ⟨fun c24 => ?_, fun c24 => ?_⟩
        · refine go_blk [(.iinc 3 1, 0, 0, 0), (.goto (-45), 6, 0, 0)] (by decide +kernel) ?_
          simp only [e_inc_3_1n, e_inc_3_1I, e_inc_3_1R, e_goto, e_nil, nol_n, nol_I, nol_R, rsum_0, rsum_I, rsum_R, ps_s, ps_n, true_and, and_true, Nat.reduceAdd, Nat.reduceLeDiff, hd2, bi_0, hbw]
          rw [nI_1, ← hl1]
          exact ih (e + 1) _ (by omega) h
        · refine go_blk [(.iload 4, 0, 0, 0), (.iconst (-1), 0, 0, 0), (.if_icmp .eq 18, 48, 0, 0)] (by decide +kernel) ?_
          simp only [e_ilw_4, e_ic_m1, e_icmp_eq, e_nil, nol_n, nol_I, nol_R, rsum_0, rsum_I, rsum_R, ps_s, ps_n, true_and, and_true, Nat.reduceAdd, Nat.reduceLeDiff, hd2, bi_0, hbw]
          refine ⟨fun c30 => ?_, fun c30 => ?_⟩
          · refine go_blk [(.iinc 3 1, 0, 0, 0), (.goto (-45), 6, 0, 0)] (by decide +kernel) ?_
            simp only [e_inc_3_1n, e_inc_3_1I, e_inc_3_1R, e_goto, e_nil, nol_n, nol_I, nol_R, rsum_0, rsum_I, rsum_R, ps_s, ps_n, true_and, and_true, Nat.reduceAdd, Nat.reduceLeDiff, hd2, bi_0, hbw]
            rw [nI_1, ← hl1]
            exact ih (e + 1) _ (by omega) h
          · exact absurd trivial c30
    | true =>
      have hbw : bwI c e = nI (btw c e) := by simp [bwI, hln]
      have hbl := btw_lt c hc e (by omega) hln
      have hn1 : (nI (btw c e) = -1) = False := eq_false (nI_nm1 (by omega))
      have hsee : see op c e = (op.testBit e && (btw c e &&& op == btw c e)) := by simp [see, hln]
      rw [hsee] at hl1
      refine go_blk [(.iload_n 3, 0, 0, 0), (.bipush 15, 0, 0, 0), (.if_icmp .ge 45, 54, 0, 0)] (by decide +kernel) ?_
      simp only [e_il_3, e_bp_15, e_icmp_ge, e_nil, nol_n, nol_I, nol_R, rsum_0, rsum_I, rsum_R, ps_s, ps_n, true_and, and_true, Nat.reduceAdd, Nat.reduceLeDiff, hd2, bi_0, hbw, hn1, hsh, nI_or, true_implies, false_implies, not_true_eq_false, not_false_eq_true]
      refine ⟨fun c9 => ?_, fun c9 => ?_⟩
      · exact absurd c9 (nI_ge (b := 15) (by omega) (by omega))
      · refine go_blk [(.iload_n 1, 0, 0, 0), (.iload_n 3, 0, 0, 0), (.invokestatic 67, 28, 2, 0)] (by decide +kernel) ?_
        simp only [e_il_1, e_il_3, e_ivs_2, e_nil, Nat.reduceLT, nol_n, nol_I, nol_R, rsum_0, rsum_I, rsum_R, ps_s, ps_n, true_and, and_true, Nat.reduceAdd, Nat.reduceLeDiff, hd2, bi_0, hbw, hn1, hsh, nI_or, true_implies, false_implies, not_true_eq_false, not_false_eq_true]
        refine ok_between hc (by omega) (by omega) ?_
        refine go_blk [(.istore 4, 0, 0, 0), (.aload_n 0, 0, 0, 0), (.iload_n 3, 0, 0, 0), (.invokevirtual 44, 3, 1, 0)] (by decide +kernel) ?_
        simp only [e_isw_4n, e_isw_4I, e_isw_4R, e_al_0, e_il_3, e_iv_0_1, e_nil, nol_n, nol_I, nol_R, rsum_0, rsum_I, rsum_R, ps_s, ps_n, true_and, and_true, Nat.reduceAdd, Nat.reduceLeDiff, hd2, bi_0, hbw, hn1, hsh, nI_or, true_implies, false_implies, not_true_eq_false, not_false_eq_true]
        refine ok_isOpen ho hop (by omega) ?_
        refine go_blk [(.ifCond .eq 24, 48, 0, 0)] (by decide +kernel) ?_
        simp only [e_if_eq, e_nil, nol_n, nol_I, nol_R, rsum_0, rsum_I, rsum_R, ps_s, ps_n, true_and, and_true, Nat.reduceAdd, Nat.reduceLeDiff, hd2, bi_0, hbw, hn1, hsh, nI_or, true_implies, false_implies, not_true_eq_false, not_false_eq_true]
        refine ⟨fun c24 => ?_, fun c24 => ?_⟩
        · refine go_blk [(.iinc 3 1, 0, 0, 0), (.goto (-45), 6, 0, 0)] (by decide +kernel) ?_
          simp only [e_inc_3_1n, e_inc_3_1I, e_inc_3_1R, e_goto, e_nil, nol_n, nol_I, nol_R, rsum_0, rsum_I, rsum_R, ps_s, ps_n, true_and, and_true, Nat.reduceAdd, Nat.reduceLeDiff, hd2, bi_0, hbw, hn1, hsh, nI_or, true_implies, false_implies, not_true_eq_false, not_false_eq_true]
          rw [nI_1]
          have h2 := ih (e + 1) (y4 := some (vI (nI (btw c e)))) (by omega) h
          rw [hl1] at h2
          simp_all
        · refine go_blk [(.iload 4, 0, 0, 0), (.iconst (-1), 0, 0, 0), (.if_icmp .eq 18, 48, 0, 0)] (by decide +kernel) ?_
          simp only [e_ilw_4, e_ic_m1, e_icmp_eq, e_nil, nol_n, nol_I, nol_R, rsum_0, rsum_I, rsum_R, ps_s, ps_n, true_and, and_true, Nat.reduceAdd, Nat.reduceLeDiff, hd2, bi_0, hbw, hn1, hsh, nI_or, true_implies, false_implies, not_true_eq_false, not_false_eq_true]
          refine go_blk [(.aload_n 0, 0, 0, 0), (.iload 4, 0, 0, 0), (.invokevirtual 70, 6, 1, 0)] (by decide +kernel) ?_
          simp only [e_al_0, e_ilw_4, e_iv_0_1, e_nil, nol_n, nol_I, nol_R, rsum_0, rsum_I, rsum_R, ps_s, ps_n, true_and, and_true, Nat.reduceAdd, Nat.reduceLeDiff, hd2, bi_0, hbw, hn1, hsh, nI_or, true_implies, false_implies, not_true_eq_false, not_false_eq_true]
          refine ok_hasCoverOn ho hbl ?_
          refine go_blk [(.ifCond .ne 9, 48, 0, 0)] (by decide +kernel) ?_
          simp only [e_if_ne, e_nil, nol_n, nol_I, nol_R, rsum_0, rsum_I, rsum_R, ps_s, ps_n, true_and, and_true, Nat.reduceAdd, Nat.reduceLeDiff, hd2, bi_0, hbw, hn1, hsh, nI_or, true_implies, false_implies, not_true_eq_false, not_false_eq_true]
          refine ⟨fun c39 => ?_, fun c39 => ?_⟩
          · refine go_blk [(.iinc 3 1, 0, 0, 0), (.goto (-45), 6, 0, 0)] (by decide +kernel) ?_
            simp only [e_inc_3_1n, e_inc_3_1I, e_inc_3_1R, e_goto, e_nil, nol_n, nol_I, nol_R, rsum_0, rsum_I, rsum_R, ps_s, ps_n, true_and, and_true, Nat.reduceAdd, Nat.reduceLeDiff, hd2, bi_0, hbw, hn1, hsh, nI_or, true_implies, false_implies, not_true_eq_false, not_false_eq_true]
            rw [nI_1]
            have h2 := ih (e + 1) (y4 := some (vI (nI (btw c e)))) (by omega) h
            rw [hl1] at h2
            simp_all
          · refine go_blk [(.iload_n 2, 0, 0, 0), (.iconst 1, 0, 0, 0), (.iload_n 3, 0, 0, 0), (.ishl, 0, 0, 0), (.ior, 0, 0, 0), (.istore_n 2, 0, 0, 0), (.iinc 3 1, 0, 0, 0), (.goto (-45), 6, 0, 0)] (by decide +kernel) ?_
            simp only [e_il_2, e_ic_1, e_il_3, e_ishl, e_ior, e_is_2n, e_is_2I, e_is_2R, e_inc_3_1n, e_inc_3_1I, e_inc_3_1R, e_goto, e_nil, nol_n, nol_I, nol_R, rsum_0, rsum_I, rsum_R, ps_s, ps_n, true_and, and_true, Nat.reduceAdd, Nat.reduceLeDiff, hd2, bi_0, hbw, hn1, hsh, nI_or, true_implies, false_implies, not_true_eq_false, not_false_eq_true]
            rw [nI_1]
            have h2 := ih (e + 1) (y4 := some (vI (nI (btw c e)))) (by omega) h
            rw [hl1] at h2
            simp_all
theorem ok_lookFrom {l : Launch} {K : KK} {d : Nat} {μ : Mm} {P : Option AV → Mm → Prop} {c op : Nat} (ho : μ 0 0 0 1 = nI op) (hop : op < 2 ^ 15) (hc : c < 15) (hd1 : 2 ≤ d) (h : P (some (vI (nI (lkS op c 15)))) μ) : Ok l K d 10 [vR 0 0 0, vI (nI c)] μ P := by
  refine ok_go 5 (by decide +kernel) [some (vR 0 0 0), some (vI (nI c)), none, none, none] rfl (Nat.le_of_ble_eq_true rfl) ?_
  refine go_blk [(.iconst 1, 0, 0, 0), (.iload_n 1, 0, 0, 0), (.ishl, 0, 0, 0), (.istore_n 2, 0, 0, 0), (.iconst 0, 0, 0, 0), (.istore_n 3, 0, 0, 0)] (by decide +kernel) ?_
  simp only [e_ic_1, e_il_1, e_ishl, e_is_2n, e_is_2I, e_is_2R, e_ic_0, e_is_3n, e_is_3I, e_is_3R, e_nil, nol_n, nol_I, nol_R, rsum_0, rsum_I, rsum_R, ps_s, ps_n, true_and, and_true, Nat.reduceAdd, Nat.reduceLeDiff, nI_shl (show c < 31 by omega)]
  exact lp_lk (y4 := none) ho hop hc hd1 15 0 none rfl h
