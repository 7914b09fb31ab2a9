theorem popF_le : ∀ k m, popF k m ≤ k
  | 0, m => Nat.le_of_eq rfl
  | k + 1, m => by
    have := popF_le k (m / 2)
    simp only [popF]
    omega
theorem pop_le (m : Nat) : pop m ≤ 15 := popF_le 15 m
theorem stgF_lt (op m : Nat) : ∀ c, c ≤ 15 → stgF op m c < 2 ^ 15
  | 0, _ => Nat.two_pow_pos 15
  | c + 1, h => by
    refine or_lt (stgF_lt op m c (by omega)) ?_
    split
    · exact sn_lt op c (by omega)
    · exact Nat.two_pow_pos 15
theorem nb15 {e : Nat} (h : e < 32768) : ((32768 : Int32) ≤ nI e) = False := eq_false (by
  rw [lit_nI 32768]
  exact nI_ge h (by omega))
theorem nI_sub (c op : Nat) (h : op < 2 ^ 32) : nI c - nI op = nI (c + 2 ^ 32 - op) := by
  apply nI_tb
  show BitVec.ofNat 32 c - BitVec.ofNat 32 op = BitVec.ofNat 32 (c + 2 ^ 32 - op)
  apply BitVec.eq_of_toNat_eq
  rw [BitVec.toNat_sub, BitVec.toNat_ofNat, BitVec.toNat_ofNat, BitVec.toNat_ofNat]
  omega
theorem nxtI {c op : Nat} (h : op < 2 ^ 15) (hc : c &&& op = c) (hne : c ≠ op) : ∃ s, c < s ∧ s &&& op = s ∧ (∀ k, k &&& op = k → c < k → s ≤ k) ∧ (nI c - nI op) &&& nI op = nI s := by
  obtain ⟨n1, n2⟩ := nxt 32 c op (by omega) hc hne
  exact ⟨_, n1, by rw [Nat.and_assoc, Nat.and_self], n2, by rw [nI_sub c op (by omega), nI_and]⟩
/-- the best watchers among the sets below k -/
abbrev okW (op k : Nat) : Prop := k &&& op = k ∧ stgF op k 15 = op
def cF (op : Nat) : Nat → Nat
  | 0 => op
  | k + 1 => if okW op k ∧ pop k < pop (cF op k) then k else cF op k
theorem cF_skip {op c s : Nat} (h : ∀ k, k &&& op = k → c < k → s ≤ k) : ∀ j, c + 1 + j ≤ s → cF op (c + 1 + j) = cF op (c + 1)
  | 0, _ => rfl
  | j + 1, hj => by
    rw [← cF_skip h j (by omega)]
    show (if okW op (c + 1 + j) ∧ _ then _ else _) = _
    rw [if_neg (fun z => by have := h _ z.1.1 (by omega); omega)]
    rfl
theorem cF_next {op c s : Nat} (h : ∀ k, k &&& op = k → c < k → s ≤ k) (hs : c < s) : cF op s = cF op (c + 1) := by
  have := cF_skip h (s - (c + 1)) (by omega)
  rwa [show c + 1 + (s - (c + 1)) = s by omega] at this
theorem lp_watch {l : Launch} {K : KK} {d : Nat} {μ : Mm} {P : Option AV → Mm → Prop} {op : Nat} (hC : CRep μ true op) (hd1 : 1 ≤ d) (h : P (some (vI (nI (cF op op)))) μ) : ∀ (r c e : Nat) (y5 : Option AV), op - c ≤ r → c &&& op = c → e ≤ c → Go l K d 11 18 [some (vR 0 0 0), some (vI (nI (cF op c))), some (vI (nI (pop (cF op c)))), some (vI (nI c)), some (vI (nI e)), y5] [] μ P := by
  have hop := hC.2.2.1
  have ho := hC.2.1
  intro r
  induction r with
  | zero =>
    intro c e y5 hr hc he
    have hl := sub_le hc
    have e0 : c = op := by omega
    subst e0
    have nb := nb15 (e := e) (by omega)
    refine go_blk [(.iload 4, 0, 0, 0), (.ldc 73, 0, 0, 32768), (.if_icmp .ge 58, 80, 0, 0)] (by decide +kernel) ?_
    simp only [e_ilw_4, e_ldc_32768, e_icmp_ge, e_nil, nol_n, nol_I, nol_R, rsum_0, rsum_I, rsum_R, ps_s, ps_n, true_and, and_true, Nat.reduceAdd, Nat.reduceLeDiff, ho, nb, true_implies, false_implies, not_true_eq_false, not_false_eq_true]
    refine go_blk [(.iload_n 3, 0, 0, 0), (.aload_n 0, 0, 0, 0), (.getfield 15, 0, 1, 0), (.if_icmp .eq 50, 80, 0, 0)] (by decide +kernel) ?_
    simp only [e_il_3, e_al_0, e_gf_0_1, e_icmp_eq, rd_0_1, e_nil, nol_n, nol_I, nol_R, rsum_0, rsum_I, rsum_R, ps_s, ps_n, true_and, and_true, Nat.reduceAdd, Nat.reduceLeDiff, ho, nb, true_implies, false_implies, not_true_eq_false, not_false_eq_true]
    refine go_blk [(.iload_n 1, 0, 0, 0), (.ireturn, 0, 0, 0)] (by decide +kernel) ?_
    simp only [e_il_1, e_iret0, e_nil, nol_n, nol_I, nol_R, rsum_0, rsum_I, rsum_R, ps_s, ps_n, true_and, and_true, Nat.reduceAdd, Nat.reduceLeDiff, ho, nb, true_implies, false_implies, not_true_eq_false, not_false_eq_true]
    exact h
  | succ r ih =>
    intro c e y5 hr hc he
    have hl := sub_le hc
    have nb := nb15 (e := e) (by omega)
    by_cases co : c = op
    · subst co
      refine go_blk [(.iload 4, 0, 0, 0), (.ldc 73, 0, 0, 32768), (.if_icmp .ge 58, 80, 0, 0)] (by decide +kernel) ?_
      simp only [e_ilw_4, e_ldc_32768, e_icmp_ge, e_nil, nol_n, nol_I, nol_R, rsum_0, rsum_I, rsum_R, ps_s, ps_n, true_and, and_true, Nat.reduceAdd, Nat.reduceLeDiff, ho, nb, true_implies, false_implies, not_true_eq_false, not_false_eq_true]
      refine go_blk [(.iload_n 3, 0, 0, 0), (.aload_n 0, 0, 0, 0), (.getfield 15, 0, 1, 0), (.if_icmp .eq 50, 80, 0, 0)] (by decide +kernel) ?_
      simp only [e_il_3, e_al_0, e_gf_0_1, e_icmp_eq, rd_0_1, e_nil, nol_n, nol_I, nol_R, rsum_0, rsum_I, rsum_R, ps_s, ps_n, true_and, and_true, Nat.reduceAdd, Nat.reduceLeDiff, ho, nb, true_implies, false_implies, not_true_eq_false, not_false_eq_true]
      refine go_blk [(.iload_n 1, 0, 0, 0), (.ireturn, 0, 0, 0)] (by decide +kernel) ?_
      simp only [e_il_1, e_iret0, e_nil, nol_n, nol_I, nol_R, rsum_0, rsum_I, rsum_R, ps_s, ps_n, true_and, and_true, Nat.reduceAdd, Nat.reduceLeDiff, ho, nb, true_implies, false_implies, not_true_eq_false, not_false_eq_true]
      exact h
    · obtain ⟨s, n1, n4, n2, es⟩ := nxtI hop hc co
      have n3 := cF_next n2 n1
      have pl := pop_le c
      have pf := pop_le (cF op c)
      have sl := stgF_lt op c 15 (by omega)
      have e42 : (nI (pop (cF op c)) ≤ nI (pop c)) = (pop (cF op c) ≤ pop c) := propext (nI_leI (by omega) (by omega))
      have e54 : (nI (stgF op c 15) = nI op) = (stgF op c 15 = op) := propext (nI_eq (by omega) (by omega))
      have u : cF op (c + 1) = if okW op c ∧ pop c < pop (cF op c) then c else cF op c := rfl
      refine go_blk [(.iload 4, 0, 0, 0), (.ldc 73, 0, 0, 32768), (.if_icmp .ge 58, 80, 0, 0)] (by decide +kernel) ?_
      simp only [e_ilw_4, e_ldc_32768, e_icmp_ge, e_nil, nol_n, nol_I, nol_R, rsum_0, rsum_I, rsum_R, ps_s, ps_n, true_and, and_true, Nat.reduceAdd, Nat.reduceLeDiff, ho, hd1, e42, e54, es, Classical.not_not, nb, true_implies, false_implies, not_true_eq_false, not_false_eq_true]
      refine go_blk [(.iload_n 3, 0, 0, 0), (.aload_n 0, 0, 0, 0), (.getfield 15, 0, 1, 0), (.if_icmp .eq 50, 80, 0, 0)] (by decide +kernel) ?_
      simp only [e_il_3, e_al_0, e_gf_0_1, e_icmp_eq, rd_0_1, e_nil, nol_n, nol_I, nol_R, rsum_0, rsum_I, rsum_R, ps_s, ps_n, true_and, and_true, Nat.reduceAdd, Nat.reduceLeDiff, ho, hd1, e42, e54, es, Classical.not_not, nb, true_implies, false_implies, not_true_eq_false, not_false_eq_true]
      refine ⟨fun c30 => ?_, fun c30 => ?_⟩
      · exact absurd (nI_inj (by omega) (by omega) c30) co
      · refine go_blk [(.iload_n 3, 0, 0, 0), (.invokestatic 54, 178, 1, 0)] (by decide +kernel) ?_
        simp only [e_il_3, e_ivs_1, e_nil, Nat.reduceLT, nol_n, nol_I, nol_R, rsum_0, rsum_I, rsum_R, ps_s, ps_n, true_and, and_true, Nat.reduceAdd, Nat.reduceLeDiff, ho, hd1, e42, e54, es, Classical.not_not, nb, true_implies, false_implies, not_true_eq_false, not_false_eq_true]
        refine ok_bitCount (by omega) ?_
        refine go_blk [(.istore 5, 0, 0, 0), (.iload 5, 0, 0, 0), (.iload_n 2, 0, 0, 0), (.if_icmp .ge 20, 62, 0, 0)] (by decide +kernel) ?_
        simp only [e_isw_5n, e_isw_5I, e_isw_5R, e_ilw_5, e_il_2, e_icmp_ge, e_nil, nol_n, nol_I, nol_R, rsum_0, rsum_I, rsum_R, ps_s, ps_n, true_and, and_true, Nat.reduceAdd, Nat.reduceLeDiff, ho, hd1, e42, e54, es, Classical.not_not, nb, true_implies, false_implies, not_true_eq_false, not_false_eq_true]
        refine ⟨fun c42 => ?_, fun c42 => ?_⟩
        · rw [if_neg (fun z => absurd z.2 (by omega))] at u
          refine go_blk [(.iload_n 3, 0, 0, 0), (.aload_n 0, 0, 0, 0), (.getfield 15, 0, 1, 0), (.isub, 0, 0, 0), (.aload_n 0, 0, 0, 0), (.getfield 15, 0, 1, 0), (.iand, 0, 0, 0), (.istore_n 3, 0, 0, 0), (.iinc 4 1, 0, 0, 0), (.goto (-59), 18, 0, 0)] (by decide +kernel) ?_
          simp only [e_il_3, e_al_0, e_gf_0_1, e_isub, e_iand, e_is_3n, e_is_3I, e_is_3R, e_inc_4_1n, e_inc_4_1I, e_inc_4_1R, e_goto, rd_0_1, e_nil, nol_n, nol_I, nol_R, rsum_0, rsum_I, rsum_R, ps_s, ps_n, true_and, and_true, Nat.reduceAdd, Nat.reduceLeDiff, ho, hd1, e42, e54, es, Classical.not_not, nb, true_implies, false_implies, not_true_eq_false, not_false_eq_true]
          rw [nI_1]
          have z := ih s (e + 1) (some (vI (nI (pop c)))) (by omega) n4 (by omega)
          rw [n3, u] at z
          exact z
        · refine go_blk [(.aload_n 0, 0, 0, 0), (.iload_n 3, 0, 0, 0), (.invokevirtual 74, 12, 1, 0)] (by decide +kernel) ?_
          simp only [e_al_0, e_il_3, e_iv_0_1, e_nil, nol_n, nol_I, nol_R, rsum_0, rsum_I, rsum_R, ps_s, ps_n, true_and, and_true, Nat.reduceAdd, Nat.reduceLeDiff, ho, hd1, e42, e54, es, Classical.not_not, nb, true_implies, false_implies, not_true_eq_false, not_false_eq_true]
          refine ok_seenTogether (by omega) hC ?_
          refine go_blk [(.aload_n 0, 0, 0, 0), (.getfield 15, 0, 1, 0), (.if_icmp .ne 8, 62, 0, 0)] (by decide +kernel) ?_
          simp only [e_al_0, e_gf_0_1, e_icmp_ne, rd_0_1, e_nil, nol_n, nol_I, nol_R, rsum_0, rsum_I, rsum_R, ps_s, ps_n, true_and, and_true, Nat.reduceAdd, Nat.reduceLeDiff, ho, hd1, e42, e54, es, Classical.not_not, nb, true_implies, false_implies, not_true_eq_false, not_false_eq_true]
          refine ⟨fun c54 => ?_, fun c54 => ?_⟩
          · rw [if_neg (fun z => c54 z.1.2)] at u
            refine go_blk [(.iload_n 3, 0, 0, 0), (.aload_n 0, 0, 0, 0), (.getfield 15, 0, 1, 0), (.isub, 0, 0, 0), (.aload_n 0, 0, 0, 0), (.getfield 15, 0, 1, 0), (.iand, 0, 0, 0), (.istore_n 3, 0, 0, 0), (.iinc 4 1, 0, 0, 0), (.goto (-59), 18, 0, 0)] (by decide +kernel) ?_
            simp only [e_il_3, e_al_0, e_gf_0_1, e_isub, e_iand, e_is_3n, e_is_3I, e_is_3R, e_inc_4_1n, e_inc_4_1I, e_inc_4_1R, e_goto, rd_0_1, e_nil, nol_n, nol_I, nol_R, rsum_0, rsum_I, rsum_R, ps_s, ps_n, true_and, and_true, Nat.reduceAdd, Nat.reduceLeDiff, ho, hd1, e42, e54, es, Classical.not_not, nb, true_implies, false_implies, not_true_eq_false, not_false_eq_true]
            rw [nI_1]
            have z := ih s (e + 1) (some (vI (nI (pop c)))) (by omega) n4 (by omega)
            rw [n3, u] at z
            exact z
          · rw [if_pos ⟨⟨hc, c54⟩, by omega⟩] at u
            refine go_blk [(.iload_n 3, 0, 0, 0), (.istore_n 1, 0, 0, 0), (.iload 5, 0, 0, 0), (.istore_n 2, 0, 0, 0), (.iload_n 3, 0, 0, 0), (.aload_n 0, 0, 0, 0), (.getfield 15, 0, 1, 0), (.isub, 0, 0, 0), (.aload_n 0, 0, 0, 0), (.getfield 15, 0, 1, 0), (.iand, 0, 0, 0), (.istore_n 3, 0, 0, 0), (.iinc 4 1, 0, 0, 0), (.goto (-59), 18, 0, 0)] (by decide +kernel) ?_
            simp only [e_il_3, e_is_1n, e_is_1I, e_is_1R, e_ilw_5, e_is_2n, e_is_2I, e_is_2R, e_al_0, e_gf_0_1, e_isub, e_iand, e_is_3n, e_is_3I, e_is_3R, e_inc_4_1n, e_inc_4_1I, e_inc_4_1R, e_goto, rd_0_1, e_nil, nol_n, nol_I, nol_R, rsum_0, rsum_I, rsum_R, ps_s, ps_n, true_and, and_true, Nat.reduceAdd, Nat.reduceLeDiff, ho, hd1, e42, e54, es, Classical.not_not, nb, true_implies, false_implies, not_true_eq_false, not_false_eq_true]
            rw [nI_1]
            have z := ih s (e + 1) (some (vI (nI (pop c)))) (by omega) n4 (by omega)
            rw [n3, u] at z
            exact z
theorem ok_findWatchers {l : Launch} {K : KK} {d : Nat} {μ : Mm} {P : Option AV → Mm → Prop} {op : Nat} (hC : CRep μ true op) (hd1 : 1 ≤ d) (h : P (some (vI (nI (cF op op)))) μ) : Ok l K d 11 [vR 0 0 0] μ P := by
  refine ok_go 6 (by decide +kernel) [some (vR 0 0 0), none, none, none, none, none] rfl (Nat.le_of_ble_eq_true rfl) ?_
  have hop := hC.2.2.1
  have ho := hC.2.1
  refine go_blk [(.aload_n 0, 0, 0, 0), (.getfield 15, 0, 1, 0), (.istore_n 1, 0, 0, 0), (.aload_n 0, 0, 0, 0), (.getfield 15, 0, 1, 0), (.invokestatic 54, 178, 1, 0)] (by decide +kernel) ?_
  simp only [e_al_0, e_gf_0_1, e_is_1n, e_is_1I, e_is_1R, e_ivs_1, rd_0_1, e_nil, Nat.reduceLT, nol_n, nol_I, nol_R, rsum_0, rsum_I, rsum_R, ps_s, ps_n, true_and, and_true, Nat.reduceAdd, Nat.reduceLeDiff, ho, hd1]
  refine ok_bitCount (by omega) ?_
  refine go_blk [(.istore_n 2, 0, 0, 0), (.iconst 0, 0, 0, 0), (.istore_n 3, 0, 0, 0), (.iconst 0, 0, 0, 0), (.istore 4, 0, 0, 0)] (by decide +kernel) ?_
  simp only [e_is_2n, e_is_2I, e_is_2R, e_ic_0, e_is_3n, e_is_3I, e_is_3R, e_isw_4n, e_isw_4I, e_isw_4R, e_nil, nol_n, nol_I, nol_R, rsum_0, rsum_I, rsum_R, ps_s, ps_n, true_and, and_true, Nat.reduceAdd, Nat.reduceLeDiff, ho, hd1]
  exact lp_watch hC hd1 h op 0 0 none (by omega) (Nat.zero_and op) (by omega)
