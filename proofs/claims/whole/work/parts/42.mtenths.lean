/-- somebody stands there, or it is cover -/
def bkN (op : Nat) (t : TS) (c : Nat) : Bool := !op.testBit c || (decide (whoN t c ≠ 99) && stn t (whoN t c))
theorem who_at {op : Nat} {t : TS} (hI : TInv op t) {j : Nat} (hj : j < t 0 1) : whoN t (t 5 j) = j := by
  rcases whoN_sp hI.1 (t 5 j) with ⟨-, k⟩ | ⟨g1, g2⟩
  · exact absurd rfl (k j hj)
  · exact hI.2.2.2 _ _ g1 hj g2
theorem who_lt {op : Nat} {t : TS} (hI : TInv op t) {c : Nat} (h : whoN t c ≠ 99) : whoN t c < t 0 1 ∧ t 5 (whoN t c) = c := by
  rcases whoN_sp hI.1 c with ⟨e, -⟩ | g
  · exact absurd e h
  · exact g
theorem blk_any {op a b : Nat} {t : TS} (hI : TInv op t) (ha : a < 15) (hb : b < 15) (hl : lne a b = true) : anyB (fun k => bkN op t (wyN a b k)) (dst a b - 1) 1 = blk op t (btw a b) := by
  obtain ⟨t1, t2⟩ := bt_tab ha hb hl
  unfold blk
  rw [bt_sub op ha hb hl]
  apply Bool.eq_iff_iff.mpr
  rw [Bool.or_eq_true, Bool.not_eq_true']
  constructor
  · intro h
    obtain ⟨k, h1, h2, h3⟩ := anyB_e _ _ h
    unfold bkN at h3
    rw [Bool.or_eq_true, Bool.not_eq_true', Bool.and_eq_true, decide_eq_true_eq] at h3
    rcases h3 with h3 | ⟨h3, h4⟩
    · right
      cases q : allB (fun k => op.testBit (wyN a b k)) (dst a b - 1) 1
      · rfl
      · have := allB_e _ _ q k h1 h2
        rw [h3] at this; cases this
    · left
      obtain ⟨g1, g2⟩ := who_lt hI h3
      refine anyB_i _ _ (whoN t (wyN a b k)) (Nat.zero_le _) (by omega) ?_
      show (stn t (whoN t (wyN a b k)) && (btw a b).testBit (t 5 (whoN t (wyN a b k)))) = true
      rw [h4, Bool.true_and, g2, t1 _ (t2 k h1 (by omega))]
      exact anyB_i _ _ k h1 h2 (beq_self_eq_true _)
  · rintro (h | h)
    · obtain ⟨j, -, h2, h3⟩ := anyB_e _ _ h
      rw [Bool.and_eq_true] at h3
      have hj : j < t 0 1 := by omega
      have h5 := (hI.2.1 j hj).2.2.1
      rw [t1 _ h5] at h3
      obtain ⟨k, k1, k2, k3⟩ := anyB_e _ _ h3.2
      refine anyB_i _ _ k k1 k2 ?_
      unfold bkN
      rw [eq_of_beq k3, who_at hI hj, h3.1]
      have : decide (j ≠ 99) = true := decide_eq_true (by have := hI.1; omega)
      rw [this]
      simp
    · cases q : anyB (fun k => bkN op t (wyN a b k)) (dst a b - 1) 1
      · exfalso
        have : allB (fun k => op.testBit (wyN a b k)) (dst a b - 1) 1 = true := by
          refine allB_i _ _ (fun k h1 h2 => ?_)
          cases z : op.testBit (wyN a b k)
          · have : anyB (fun k => bkN op t (wyN a b k)) (dst a b - 1) 1 = true := anyB_i _ _ k h1 h2 (by unfold bkN; rw [z]; rfl)
            rw [q] at this; cases this
          · rfl
        rw [h] at this; cases this
      · rfl
theorem lp_mblk {l : Launch} {K : KK} {d : Nat} {μ : Mm} {P : Option AV → Mm → Prop} {a b op F : Nat} {t : TS} (hI : TInv op t) (hM : MRep μ t) (ha : a < 15) (hb : b < 15) (ho : μ 8 0 0 2 = nI op) (hop : op < 2 ^ 15) (hF : F < 5) (hw : ∀ k, 1 ≤ k → k < F → wyN a b k < 15) (hd1 : 2 ≤ d) : ∀ (r k : Nat) (is : Bool) (y6 y7 : Option AV), 1 ≤ k → k < 6 → (k + r = F ∨ (F ≤ k ∧ r = 0)) → P (some (vI (bi (is || anyB (fun k => bkN op t (wyN a b k)) r k)))) μ → Go l K d 130 20 [some (vR 8 0 0), some (vI (nI a)), some (vI (nI b)), some (vI (nI F)), some (vI (bi is)), some (vI (nI k)), y6, y7] [] μ P := by
  have hd2 : 1 ≤ d := by omega
  have m6 : μ 8 0 0 6 = nI (mSt t) := hM.2.1.1
  have l6 := mSt_lt hI.1
  have hn := hI.1
  intro r
  induction r with
  | zero =>
    intro k is y6 y7 hk1 hk6 hk h
    have e : (is || anyB (fun k => bkN op t (wyN a b k)) 0 k) = is := Bool.or_false is
    rw [e] at h
    refine go_blk [(.iload 5, 0, 0, 0), (.iload_n 3, 0, 0, 0), (.if_icmp .ge 68, 91, 0, 0)] (by decide +kernel) ?_
    simp only [e_ilw_5, e_il_3, e_icmp_ge, e_nil, nol_n, nol_I, nol_R, rsum_0, rsum_I, rsum_R, ps_s, ps_n, true_and, and_true, Nat.reduceAdd, Nat.reduceLeDiff]
    refine ⟨fun c23 => ?_, fun c23 => ?_⟩
    · refine go_blk [(.iload 4, 0, 0, 0), (.ireturn, 1, 0, 0)] (by decide +kernel) ?_
      simp only [e_ilw_4, e_iret1, e_nil, nol_n, nol_I, nol_R, rsum_0, rsum_I, rsum_R, ps_s, ps_n, true_and, and_true, Nat.reduceAdd, Nat.reduceLeDiff]
      exact ⟨bi_01 is, h⟩
    · exact absurd (nI_le (by omega) (by omega)) c23
  | succ r ih =>
    intro k is y6 y7 hk1 hk6 hk h
    have hk2 : k < F := by omega
    have hw2 := hw k hk1 hk2
    have ew : eN (wyN a b k) = nI (wyN a b k) := by unfold eN; rw [if_neg (by omega)]
    have u : anyB (fun k => bkN op t (wyN a b k)) (r + 1) k = (bkN op t (wyN a b k) || anyB (fun k => bkN op t (wyN a b k)) r (k + 1)) := rfl
    rw [u] at h
    have g := fun (b2 : Bool) (y6 y7 : Option AV) => ih (k + 1) b2 y6 y7 (by omega) (by omega) (by omega)
    refine go_blk [(.iload 5, 0, 0, 0), (.iload_n 3, 0, 0, 0), (.if_icmp .ge 68, 91, 0, 0)] (by decide +kernel) ?_
    simp only [e_ilw_5, e_il_3, e_icmp_ge, e_nil, nol_n, nol_I, nol_R, rsum_0, rsum_I, rsum_R, ps_s, ps_n, true_and, and_true, Nat.reduceAdd, Nat.reduceLeDiff, ho, m6, hd2, bi_0, Classical.not_not]
    refine ⟨fun c23 => ?_, fun c23 => ?_⟩
    · exact absurd c23 (nI_ge hk2 (by omega))
    · refine go_blk [(.iload 4, 0, 0, 0), (.ifCond .ne 63, 91, 0, 0)] (by decide +kernel) ?_
      simp only [e_ilw_4, e_if_ne, e_nil, nol_n, nol_I, nol_R, rsum_0, rsum_I, rsum_R, ps_s, ps_n, true_and, and_true, Nat.reduceAdd, Nat.reduceLeDiff, ho, m6, hd2, bi_0, Classical.not_not]
      refine ⟨fun c28 => ?_, fun c28 => ?_⟩
      · rw [eq_true_of_ne_false c28, Bool.true_or] at h
        rw [eq_true_of_ne_false c28]
        refine go_blk [(.iload 4, 0, 0, 0), (.ireturn, 1, 0, 0)] (by decide +kernel) ?_
        simp only [e_ilw_4, e_iret1, e_nil, nol_n, nol_I, nol_R, rsum_0, rsum_I, rsum_R, ps_s, ps_n, true_and, and_true, Nat.reduceAdd, Nat.reduceLeDiff, ho, m6, hd2, bi_0, Classical.not_not]
        exact ⟨by decide, h⟩
      · rw [c28, Bool.false_or] at h
        refine go_blk [(.iload_n 1, 0, 0, 0), (.iload_n 2, 0, 0, 0), (.iload 5, 0, 0, 0), (.invokestatic 136, 122, 3, 0)] (by decide +kernel) ?_
        simp only [e_il_1, e_il_2, e_ilw_5, e_ivs_3, e_nil, Nat.reduceLT, nol_n, nol_I, nol_R, rsum_0, rsum_I, rsum_R, ps_s, ps_n, true_and, and_true, Nat.reduceAdd, Nat.reduceLeDiff, ho, m6, hd2, bi_0, Classical.not_not]
        refine okm_onWay ha hb (by omega) (by omega) ?_
        rw [ew]
        refine go_blk [(.istore 6, 0, 0, 0), (.aload_n 0, 0, 0, 0), (.iload 6, 0, 0, 0), (.invokevirtual 143, 123, 1, 8)] (by decide +kernel) ?_
        simp only [e_isw_6n, e_isw_6I, e_isw_6R, e_al_0, e_ilw_6, e_iv_8_1, e_nil, nol_n, nol_I, nol_R, rsum_0, rsum_I, rsum_R, ps_s, ps_n, true_and, and_true, Nat.reduceAdd, Nat.reduceLeDiff, ho, m6, hd2, bi_0, Classical.not_not]
        refine okm_who hI hM hw2 ?_
        refine go_blk [(.istore 7, 0, 0, 0), (.aload_n 0, 0, 0, 0), (.getfield 80, 8, 2, 0), (.iload 6, 0, 0, 0), (.invokestatic 69, 104, 2, 0)] (by decide +kernel) ?_
        simp only [e_isw_7n, e_isw_7I, e_isw_7R, e_al_0, e_gf_8_2, e_ilw_6, e_ivs_2, rd_8_2, e_nil, Nat.reduceLT, nol_n, nol_I, nol_R, rsum_0, rsum_I, rsum_R, ps_s, ps_n, true_and, and_true, Nat.reduceAdd, Nat.reduceLeDiff, ho, m6, hd2, bi_0, Classical.not_not]
        refine okm_has (by omega) (by omega) ?_
        refine go_blk [(.ifCond .eq 21, 78, 0, 0)] (by decide +kernel) ?_
        simp only [e_if_eq, e_nil, nol_n, nol_I, nol_R, rsum_0, rsum_I, rsum_R, ps_s, ps_n, true_and, and_true, Nat.reduceAdd, Nat.reduceLeDiff, ho, m6, hd2, bi_0, Classical.not_not]
        refine ⟨fun c57 => ?_, fun c57 => ?_⟩
        · have z : bkN op t (wyN a b k) = true := by unfold bkN; rw [c57]; rfl
          rw [z] at h
          have g2 := fun y6 y7 => g true y6 y7 h
          refine go_blk [(.iconst 1, 0, 0, 0), (.goto 4, 83, 0, 0), (.istore 4, 0, 0, 0), (.iinc 5 1, 0, 0, 0), (.goto (-68), 20, 0, 0)] (by decide +kernel) ?_
          simp only [e_ic_1, e_goto, e_isw_4n, e_isw_4I, e_isw_4R, e_inc_5_1n, e_inc_5_1I, e_inc_5_1R, e_nil, nol_n, nol_I, nol_R, rsum_0, rsum_I, rsum_R, ps_s, ps_n, true_and, and_true, Nat.reduceAdd, Nat.reduceLeDiff, ho, m6, hd2, bi_0, Classical.not_not]
          rw [nI_1]
          exact g2 _ _
        · refine go_blk [(.iload 7, 0, 0, 0), (.iconst (-1), 0, 0, 0), (.if_icmp .eq 19, 82, 0, 0)] (by decide +kernel) ?_
          simp only [e_ilw_7, e_ic_m1, e_icmp_eq, e_nil, nol_n, nol_I, nol_R, rsum_0, rsum_I, rsum_R, ps_s, ps_n, true_and, and_true, Nat.reduceAdd, Nat.reduceLeDiff, ho, m6, hd2, bi_0, Classical.not_not]
          refine ⟨fun c63 => ?_, fun c63 => ?_⟩
          · have w99 : whoN t (wyN a b k) = 99 := by
              rcases Nat.decEq (whoN t (wyN a b k)) 99 with z | z
              · have := who_lt hI z
                unfold eN at c63
                rw [if_neg z] at c63
                exact absurd c63 (nI_nm1 (by omega))
              · exact z
            have z : bkN op t (wyN a b k) = false := by unfold bkN; rw [eq_true_of_ne_false c57, w99]; rfl
            rw [z] at h
            have g2 := fun y6 y7 => g false y6 y7 h
            refine go_blk [(.iconst 0, 0, 0, 0), (.istore 4, 0, 0, 0), (.iinc 5 1, 0, 0, 0), (.goto (-68), 20, 0, 0)] (by decide +kernel) ?_
            simp only [e_ic_0, e_isw_4n, e_isw_4I, e_isw_4R, e_inc_5_1n, e_inc_5_1I, e_inc_5_1R, e_goto, e_nil, nol_n, nol_I, nol_R, rsum_0, rsum_I, rsum_R, ps_s, ps_n, true_and, and_true, Nat.reduceAdd, Nat.reduceLeDiff, ho, m6, hd2, bi_0, Classical.not_not]
            rw [nI_1]
            exact g2 _ _
          · have w99 : whoN t (wyN a b k) ≠ 99 := fun z => c63 (by unfold eN; rw [if_pos z])
            obtain ⟨wl, -⟩ := who_lt hI w99
            have ew2 : eN (whoN t (wyN a b k)) = nI (whoN t (wyN a b k)) := by unfold eN; rw [if_neg w99]
            have sb := mSt_bit wl
            have z : bkN op t (wyN a b k) = stn t (whoN t (wyN a b k)) := by unfold bkN; rw [eq_true_of_ne_false c57, decide_eq_true w99]; simp
            rw [z] at h
            refine go_blk [(.aload_n 0, 0, 0, 0), (.getfield 99, 8, 6, 0), (.iload 7, 0, 0, 0), (.invokestatic 69, 104, 2, 0)] (by decide +kernel) ?_
            simp only [e_al_0, e_gf_8_6, e_ilw_7, e_ivs_2, rd_8_6, e_nil, Nat.reduceLT, nol_n, nol_I, nol_R, rsum_0, rsum_I, rsum_R, ps_s, ps_n, true_and, and_true, Nat.reduceAdd, Nat.reduceLeDiff, ho, m6, hd2, bi_0, Classical.not_not, ew2]
            refine okm_has (by omega) (by omega) ?_
            rw [sb]
            refine go_blk [(.ifCond .eq 7, 82, 0, 0)] (by decide +kernel) ?_
            simp only [e_if_eq, e_nil, nol_n, nol_I, nol_R, rsum_0, rsum_I, rsum_R, ps_s, ps_n, true_and, and_true, Nat.reduceAdd, Nat.reduceLeDiff, ho, m6, hd2, bi_0, Classical.not_not, ew2]
            refine ⟨fun c75 => ?_, fun c75 => ?_⟩
            · rw [c75] at h
              have g2 := fun y6 y7 => g false y6 y7 h
              refine go_blk [(.iconst 0, 0, 0, 0), (.istore 4, 0, 0, 0), (.iinc 5 1, 0, 0, 0), (.goto (-68), 20, 0, 0)] (by decide +kernel) ?_
              simp only [e_ic_0, e_isw_4n, e_isw_4I, e_isw_4R, e_inc_5_1n, e_inc_5_1I, e_inc_5_1R, e_goto, e_nil, nol_n, nol_I, nol_R, rsum_0, rsum_I, rsum_R, ps_s, ps_n, true_and, and_true, Nat.reduceAdd, Nat.reduceLeDiff, ho, m6, hd2, bi_0, Classical.not_not, ew2]
              rw [nI_1]
              exact g2 _ _
            · rw [eq_true_of_ne_false c75] at h
              have g2 := fun y6 y7 => g true y6 y7 h
              refine go_blk [(.iconst 1, 0, 0, 0), (.goto 4, 83, 0, 0), (.istore 4, 0, 0, 0), (.iinc 5 1, 0, 0, 0), (.goto (-68), 20, 0, 0)] (by decide +kernel) ?_
              simp only [e_ic_1, e_goto, e_isw_4n, e_isw_4I, e_isw_4R, e_inc_5_1n, e_inc_5_1I, e_inc_5_1R, e_nil, nol_n, nol_I, nol_R, rsum_0, rsum_I, rsum_R, ps_s, ps_n, true_and, and_true, Nat.reduceAdd, Nat.reduceLeDiff, ho, m6, hd2, bi_0, Classical.not_not, ew2]
              rw [nI_1]
              exact g2 _ _
theorem okm_blk {l : Launch} {K : KK} {d : Nat} {μ : Mm} {P : Option AV → Mm → Prop} {a b op : Nat} {t : TS} (hI : TInv op t) (hM : MRep μ t) (ha : a < 15) (hb : b < 15) (ho : μ 8 0 0 2 = nI op) (hop : op < 2 ^ 15) (hd1 : 2 ≤ d) (h : P (some (vI (bi (!lne a b || blk op t (btw a b))))) μ) : Ok l K d 130 [vR 8 0 0, vI (nI a), vI (nI b)] μ P := by
  refine ok_go 8 (by decide +kernel) [some (vR 8 0 0), some (vI (nI a)), some (vI (nI b)), none, none, none, none, none] rfl (Nat.le_of_ble_eq_true rfl) ?_
  have hd2 : 1 ≤ d := by omega
  have hF := (g_dsm a ha b hb).2
  have e7 : (nI (dsM a b) = 0) = (dsM a b = 0) := propext (nI_eq (b := 0) (by omega) (by omega))
  refine go_blk [(.iload_n 1, 0, 0, 0), (.iload_n 2, 0, 0, 0), (.invokestatic 132, 121, 2, 0)] (by decide +kernel) ?_
  simp only [e_il_1, e_il_2, e_ivs_2, e_nil, Nat.reduceLT, nol_n, nol_I, nol_R, rsum_0, rsum_I, rsum_R, ps_s, ps_n, true_and, and_true, Nat.reduceAdd, Nat.reduceLeDiff, hd2, e7, Classical.not_not]
  refine okm_distance ha hb (by omega) ?_
  refine go_blk [(.istore_n 3, 0, 0, 0), (.iload_n 3, 0, 0, 0), (.ifCond .ne 7, 14, 0, 0)] (by decide +kernel) ?_
  simp only [e_is_3n, e_is_3I, e_is_3R, e_il_3, e_if_ne, e_nil, nol_n, nol_I, nol_R, rsum_0, rsum_I, rsum_R, ps_s, ps_n, true_and, and_true, Nat.reduceAdd, Nat.reduceLeDiff, hd2, e7, Classical.not_not]
  refine ⟨fun c7 => ?_, fun c7 => ?_⟩
  · have el : lne a b = true := by
      cases hl : lne a b
      · exact absurd (dsM_0 hl) c7
      · rfl
    obtain ⟨d1, d2, d3⟩ := dsM_pos ha hb el
    rw [el, ← blk_any hI ha hb el, Bool.not_true] at h
    rw [d1]
    refine go_blk [(.iconst 0, 0, 0, 0), (.istore 4, 0, 0, 0), (.iconst 1, 0, 0, 0), (.istore 5, 0, 0, 0)] (by decide +kernel) ?_
    simp only [e_ic_0, e_isw_4n, e_isw_4I, e_isw_4R, e_ic_1, e_isw_5n, e_isw_5I, e_isw_5R, e_nil, nol_n, nol_I, nol_R, rsum_0, rsum_I, rsum_R, ps_s, ps_n, true_and, and_true, Nat.reduceAdd, Nat.reduceLeDiff, hd2, e7, Classical.not_not]
    rw [← bi_f]
    exact lp_mblk hI hM ha hb ho hop d3 (bt_tab ha hb el).2 hd1 (dst a b - 1) 1 false none none (by omega) (by omega) (Or.inl (by omega)) h
  · have el : lne a b = false := by
      cases hl : lne a b
      · rfl
      · have := dsM_pos ha hb hl; omega
    rw [el, Bool.not_false, Bool.true_or] at h
    rw [c7]
    refine go_blk [(.iconst 1, 0, 0, 0), (.goto 4, 15, 0, 0), (.istore 4, 0, 0, 0), (.iconst 1, 0, 0, 0), (.istore 5, 0, 0, 0)] (by decide +kernel) ?_
    simp only [e_ic_1, e_goto, e_isw_4n, e_isw_4I, e_isw_4R, e_isw_5n, e_isw_5I, e_isw_5R, e_nil, nol_n, nol_I, nol_R, rsum_0, rsum_I, rsum_R, ps_s, ps_n, true_and, and_true, Nat.reduceAdd, Nat.reduceLeDiff, hd2, e7, Classical.not_not]
    rw [← bi_t]
    exact lp_mblk hI hM ha hb ho hop (by omega) (fun k h1 h2 => by omega) hd1 0 1 true none none (by omega) (by omega) (Or.inr ⟨by omega, rfl⟩) h
def covN (op c e : Nat) : Bool := decide (dst c e < 2) && !op.testBit e
theorem ar_tb : ∀ c, c < 15 → ∀ e, e < 15 → (decide (¬ (2 : Int32) ≤ abI (dnI c e)) && decide (¬ (2 : Int32) ≤ abI (rtI c e))) = decide (dst c e < 2) := by decide +kernel
theorem cv_tc {op c : Nat} (hc : c < 15) (h : op.testBit c = true) : anyB (covN op c) 15 0 = tc op c := by
  have d0 : ∀ c, c < 15 → ∀ e, e < 15 → dst c e = 0 → e = c := by decide +kernel
  have dc : ∀ e, e < 15 → covN op c e = (!(op.testBit e || dst c e != 1)) := by
    intro e he
    unfold covN
    cases q : op.testBit e
    · have : dst c e ≠ 0 := by
        intro z
        rw [d0 c hc e he z, h] at q
        cases q
      by_cases z : dst c e = 1
      · simp [z]
      · have : ¬ dst c e < 2 := by omega
        simp [z, this]
    · simp
  unfold tc
  apply Bool.eq_iff_iff.mpr
  rw [Bool.not_eq_true']
  constructor
  · intro z
    obtain ⟨e, -, e2, e3⟩ := anyB_e _ _ z
    rw [dc e (by omega), Bool.not_eq_true'] at e3
    cases q : allB (fun e => op.testBit e || dst c e != 1) 15 0
    · rfl
    · have := allB_e _ _ q e (by omega) e2
      rw [e3] at this; cases this
  · intro z
    cases q : anyB (covN op c) 15 0
    · exfalso
      have : allB (fun e => op.testBit e || dst c e != 1) 15 0 = true := by
        refine allB_i _ _ (fun e h1 h2 => ?_)
        cases w : (op.testBit e || dst c e != 1)
        · have : anyB (covN op c) 15 0 = true := anyB_i _ _ e h1 h2 (by rw [dc e (by omega), w]; rfl)
          rw [q] at this; cases this
        · rfl
      rw [z] at this; cases this
    · rfl
theorem lp_cov {l : Launch} {K : KK} {d : Nat} {μ : Mm} {P : Option AV → Mm → Prop} {c op : Nat} (hc : c < 15) (ho : μ 8 0 0 2 = nI op) (hop : op < 2 ^ 15) (hd1 : 1 ≤ d) : ∀ (r e : Nat) (is : Bool) (y4 : Option AV), e + r = 15 → P (some (vI (bi (is || anyB (covN op c) r e)))) μ → Go l K d 131 4 [some (vR 8 0 0), some (vI (nI c)), some (vI (bi is)), some (vI (nI e)), y4] [] μ P := by
  intro r
  induction r with
  | zero =>
    intro e is y4 he h
    have e0 : (is || anyB (covN op c) 0 e) = is := Bool.or_false is
    rw [e0] at h
    have e1 : e = 15 := by omega
    subst e1
    refine go_blk [(.iload_n 3, 0, 0, 0), (.bipush 15, 0, 0, 0), (.if_icmp .ge 74, 81, 0, 0)] (by decide +kernel) ?_
    simp only [e_il_3, e_bp_15, e_icmp_ge, e_nil, nol_n, nol_I, nol_R, rsum_0, rsum_I, rsum_R, ps_s, ps_n, true_and, and_true, Nat.reduceAdd, Nat.reduceLeDiff]
    refine ⟨fun c7 => ?_, fun c7 => ?_⟩
    · refine go_blk [(.iload_n 2, 0, 0, 0), (.ireturn, 1, 0, 0)] (by decide +kernel) ?_
      simp only [e_il_2, e_iret1, e_nil, nol_n, nol_I, nol_R, rsum_0, rsum_I, rsum_R, ps_s, ps_n, true_and, and_true, Nat.reduceAdd, Nat.reduceLeDiff]
      exact ⟨bi_01 is, h⟩
    · exact absurd (by decide) c7
  | succ r ih =>
    intro e is y4 he h
    have u : anyB (covN op c) (r + 1) e = (covN op c e || anyB (covN op c) r (e + 1)) := rfl
    rw [u, ← Bool.or_assoc] at h
    have tb := ar_tb c hc e (by omega)
    unfold dnI rtI at tb
    have g : ∀ (b2 : Bool) (y4 : Option AV), (is || covN op c e) = b2 → Go l K d 131 4 [some (vR 8 0 0), some (vI (nI c)), some (vI (bi b2)), some (vI (nI (e + 1))), y4] [] μ P := fun b2 y4 z => ih (e + 1) b2 y4 (by omega) (by rw [← z]; exact h)
    refine go_blk [(.iload_n 3, 0, 0, 0), (.bipush 15, 0, 0, 0), (.if_icmp .ge 74, 81, 0, 0)] (by decide +kernel) ?_
    simp only [e_il_3, e_bp_15, e_icmp_ge, e_nil, nol_n, nol_I, nol_R, rsum_0, rsum_I, rsum_R, ps_s, ps_n, true_and, and_true, Nat.reduceAdd, Nat.reduceLeDiff, ho, hd1, bi_0]
    refine ⟨fun c7 => ?_, fun c7 => ?_⟩
    · exact absurd c7 (nI_ge (b := 15) (by omega) (by omega))
    · refine go_blk [(.iload_n 3, 0, 0, 0), (.invokestatic 120, 117, 1, 0)] (by decide +kernel) ?_
      simp only [e_il_3, e_ivs_1, e_nil, Nat.reduceLT, nol_n, nol_I, nol_R, rsum_0, rsum_I, rsum_R, ps_s, ps_n, true_and, and_true, Nat.reduceAdd, Nat.reduceLeDiff, ho, hd1, bi_0]
      refine okm_rowOf ?_
      refine go_blk [(.iload_n 1, 0, 0, 0), (.invokestatic 120, 117, 1, 0)] (by decide +kernel) ?_
      simp only [e_il_1, e_ivs_1, e_nil, Nat.reduceLT, nol_n, nol_I, nol_R, rsum_0, rsum_I, rsum_R, ps_s, ps_n, true_and, and_true, Nat.reduceAdd, Nat.reduceLeDiff, ho, hd1, bi_0]
      refine okm_rowOf ?_
      refine go_blk [(.isub, 0, 0, 0), (.invokestatic 123, 120, 1, 0)] (by decide +kernel) ?_
      simp only [e_isub, e_ivs_1, e_nil, Nat.reduceLT, nol_n, nol_I, nol_R, rsum_0, rsum_I, rsum_R, ps_s, ps_n, true_and, and_true, Nat.reduceAdd, Nat.reduceLeDiff, ho, hd1, bi_0]
      refine okm_plain ?_
      refine go_blk [(.iconst 2, 0, 0, 0), (.if_icmp .ge 23, 46, 0, 0)] (by decide +kernel) ?_
      simp only [e_ic_2, e_icmp_ge, e_nil, nol_n, nol_I, nol_R, rsum_0, rsum_I, rsum_R, ps_s, ps_n, true_and, and_true, Nat.reduceAdd, Nat.reduceLeDiff, ho, hd1, bi_0]
      refine ⟨fun c23 => ?_, fun c23 => ?_⟩
      · have cn : decide (dst c e < 2) = false := by rw [← tb, decide_eq_false (fun z => z c23)]; rfl
        refine go_blk [(.iconst 0, 0, 0, 0), (.istore 4, 0, 0, 0), (.iload_n 2, 0, 0, 0), (.ifCond .ne 19, 69, 0, 0)] (by decide +kernel) ?_
        simp only [e_ic_0, e_isw_4n, e_isw_4I, e_isw_4R, e_il_2, e_if_ne, e_nil, nol_n, nol_I, nol_R, rsum_0, rsum_I, rsum_R, ps_s, ps_n, true_and, and_true, Nat.reduceAdd, Nat.reduceLeDiff, ho, hd1, bi_0]
        refine ⟨fun c50 => ?_, fun c50 => ?_⟩
        · have g2 := fun y => g true y (by rw [eq_true_of_ne_false c50, Bool.true_or])
          refine go_blk [(.iconst 1, 0, 0, 0), (.goto 4, 74, 0, 0), (.istore_n 2, 0, 0, 0), (.iinc 3 1, 0, 0, 0), (.goto (-74), 4, 0, 0)] (by decide +kernel) ?_
          simp only [e_ic_1, e_goto, e_is_2n, e_is_2I, e_is_2R, e_inc_3_1n, e_inc_3_1I, e_inc_3_1R, e_nil, nol_n, nol_I, nol_R, rsum_0, rsum_I, rsum_R, ps_s, ps_n, true_and, and_true, Nat.reduceAdd, Nat.reduceLeDiff, ho, hd1, bi_0]
          rw [nI_1]
          exact g2 _
        · have g2 := fun y => g false y (by unfold covN; rw [c50, cn]; rfl)
          refine go_blk [(.iload 4, 0, 0, 0), (.ifCond .eq 18, 73, 0, 0)] (by decide +kernel) ?_
          simp only [e_ilw_4, e_if_eq, e_nil, (show ((0 : Int32) = 0) = True by decide), true_implies, false_implies, not_true_eq_false, not_false_eq_true, nol_n, nol_I, nol_R, rsum_0, rsum_I, rsum_R, ps_s, ps_n, true_and, and_true, Nat.reduceAdd, Nat.reduceLeDiff, ho, hd1, bi_0]
          refine go_blk [(.iconst 0, 0, 0, 0), (.istore_n 2, 0, 0, 0), (.iinc 3 1, 0, 0, 0), (.goto (-74), 4, 0, 0)] (by decide +kernel) ?_
          simp only [e_ic_0, e_is_2n, e_is_2I, e_is_2R, e_inc_3_1n, e_inc_3_1I, e_inc_3_1R, e_goto, e_nil, nol_n, nol_I, nol_R, rsum_0, rsum_I, rsum_R, ps_s, ps_n, true_and, and_true, Nat.reduceAdd, Nat.reduceLeDiff, ho, hd1, bi_0]
          rw [nI_1]
          exact g2 _
      · refine go_blk [(.iload_n 3, 0, 0, 0), (.invokestatic 126, 118, 1, 0)] (by decide +kernel) ?_
        simp only [e_il_3, e_ivs_1, e_nil, Nat.reduceLT, nol_n, nol_I, nol_R, rsum_0, rsum_I, rsum_R, ps_s, ps_n, true_and, and_true, Nat.reduceAdd, Nat.reduceLeDiff, ho, hd1, bi_0]
        refine okm_columnOf ?_
        refine go_blk [(.iload_n 1, 0, 0, 0), (.invokestatic 126, 118, 1, 0)] (by decide +kernel) ?_
        simp only [e_il_1, e_ivs_1, e_nil, Nat.reduceLT, nol_n, nol_I, nol_R, rsum_0, rsum_I, rsum_R, ps_s, ps_n, true_and, and_true, Nat.reduceAdd, Nat.reduceLeDiff, ho, hd1, bi_0]
        refine okm_columnOf ?_
        refine go_blk [(.isub, 0, 0, 0), (.invokestatic 123, 120, 1, 0)] (by decide +kernel) ?_
        simp only [e_isub, e_ivs_1, e_nil, Nat.reduceLT, nol_n, nol_I, nol_R, rsum_0, rsum_I, rsum_R, ps_s, ps_n, true_and, and_true, Nat.reduceAdd, Nat.reduceLeDiff, ho, hd1, bi_0]
        refine okm_plain ?_
        refine go_blk [(.iconst 2, 0, 0, 0), (.if_icmp .ge 7, 46, 0, 0)] (by decide +kernel) ?_
        simp only [e_ic_2, e_icmp_ge, e_nil, nol_n, nol_I, nol_R, rsum_0, rsum_I, rsum_R, ps_s, ps_n, true_and, and_true, Nat.reduceAdd, Nat.reduceLeDiff, ho, hd1, bi_0]
        refine ⟨fun c39 => ?_, fun c39 => ?_⟩
        · have cn : decide (dst c e < 2) = false := by rw [← tb, decide_eq_true c23, decide_eq_false (fun z => z c39)]; rfl
          refine go_blk [(.iconst 0, 0, 0, 0), (.istore 4, 0, 0, 0), (.iload_n 2, 0, 0, 0), (.ifCond .ne 19, 69, 0, 0)] (by decide +kernel) ?_
          simp only [e_ic_0, e_isw_4n, e_isw_4I, e_isw_4R, e_il_2, e_if_ne, e_nil, nol_n, nol_I, nol_R, rsum_0, rsum_I, rsum_R, ps_s, ps_n, true_and, and_true, Nat.reduceAdd, Nat.reduceLeDiff, ho, hd1, bi_0]
          refine ⟨fun c50 => ?_, fun c50 => ?_⟩
          · have g2 := fun y => g true y (by rw [eq_true_of_ne_false c50, Bool.true_or])
            refine go_blk [(.iconst 1, 0, 0, 0), (.goto 4, 74, 0, 0), (.istore_n 2, 0, 0, 0), (.iinc 3 1, 0, 0, 0), (.goto (-74), 4, 0, 0)] (by decide +kernel) ?_
            simp only [e_ic_1, e_goto, e_is_2n, e_is_2I, e_is_2R, e_inc_3_1n, e_inc_3_1I, e_inc_3_1R, e_nil, nol_n, nol_I, nol_R, rsum_0, rsum_I, rsum_R, ps_s, ps_n, true_and, and_true, Nat.reduceAdd, Nat.reduceLeDiff, ho, hd1, bi_0]
            rw [nI_1]
            exact g2 _
          · have g2 := fun y => g false y (by unfold covN; rw [c50, cn]; rfl)
            refine go_blk [(.iload 4, 0, 0, 0), (.ifCond .eq 18, 73, 0, 0)] (by decide +kernel) ?_
            simp only [e_ilw_4, e_if_eq, e_nil, (show ((0 : Int32) = 0) = True by decide), true_implies, false_implies, not_true_eq_false, not_false_eq_true, nol_n, nol_I, nol_R, rsum_0, rsum_I, rsum_R, ps_s, ps_n, true_and, and_true, Nat.reduceAdd, Nat.reduceLeDiff, ho, hd1, bi_0]
            refine go_blk [(.iconst 0, 0, 0, 0), (.istore_n 2, 0, 0, 0), (.iinc 3 1, 0, 0, 0), (.goto (-74), 4, 0, 0)] (by decide +kernel) ?_
            simp only [e_ic_0, e_is_2n, e_is_2I, e_is_2R, e_inc_3_1n, e_inc_3_1I, e_inc_3_1R, e_goto, e_nil, nol_n, nol_I, nol_R, rsum_0, rsum_I, rsum_R, ps_s, ps_n, true_and, and_true, Nat.reduceAdd, Nat.reduceLeDiff, ho, hd1, bi_0]
            rw [nI_1]
            exact g2 _
        · have cn : decide (dst c e < 2) = true := by rw [← tb, decide_eq_true c23, decide_eq_true c39]; rfl
          refine go_blk [(.iconst 1, 0, 0, 0), (.goto 4, 47, 0, 0), (.istore 4, 0, 0, 0), (.iload_n 2, 0, 0, 0), (.ifCond .ne 19, 69, 0, 0)] (by decide +kernel) ?_
          simp only [e_ic_1, e_goto, e_isw_4n, e_isw_4I, e_isw_4R, e_il_2, e_if_ne, e_nil, nol_n, nol_I, nol_R, rsum_0, rsum_I, rsum_R, ps_s, ps_n, true_and, and_true, Nat.reduceAdd, Nat.reduceLeDiff, ho, hd1, bi_0]
          refine ⟨fun c50 => ?_, fun c50 => ?_⟩
          · have g2 := fun y => g true y (by rw [eq_true_of_ne_false c50, Bool.true_or])
            refine go_blk [(.iconst 1, 0, 0, 0), (.goto 4, 74, 0, 0), (.istore_n 2, 0, 0, 0), (.iinc 3 1, 0, 0, 0), (.goto (-74), 4, 0, 0)] (by decide +kernel) ?_
            simp only [e_ic_1, e_goto, e_is_2n, e_is_2I, e_is_2R, e_inc_3_1n, e_inc_3_1I, e_inc_3_1R, e_nil, nol_n, nol_I, nol_R, rsum_0, rsum_I, rsum_R, ps_s, ps_n, true_and, and_true, Nat.reduceAdd, Nat.reduceLeDiff, ho, hd1, bi_0]
            rw [nI_1]
            exact g2 _
          · refine go_blk [(.iload 4, 0, 0, 0), (.ifCond .eq 18, 73, 0, 0)] (by decide +kernel) ?_
            simp only [e_ilw_4, e_if_eq, e_nil, (show ((1 : Int32) = 0) = False by decide), true_implies, false_implies, not_true_eq_false, not_false_eq_true, nol_n, nol_I, nol_R, rsum_0, rsum_I, rsum_R, ps_s, ps_n, true_and, and_true, Nat.reduceAdd, Nat.reduceLeDiff, ho, hd1, bi_0]
            refine go_blk [(.aload_n 0, 0, 0, 0), (.getfield 80, 8, 2, 0), (.iload_n 3, 0, 0, 0), (.invokestatic 69, 104, 2, 0)] (by decide +kernel) ?_
            simp only [e_al_0, e_gf_8_2, e_il_3, e_ivs_2, rd_8_2, e_nil, Nat.reduceLT, nol_n, nol_I, nol_R, rsum_0, rsum_I, rsum_R, ps_s, ps_n, true_and, and_true, Nat.reduceAdd, Nat.reduceLeDiff, ho, hd1, bi_0]
            refine okm_has (by omega) (by omega) ?_
            refine go_blk [(.ifCond .ne 7, 73, 0, 0)] (by decide +kernel) ?_
            simp only [e_if_ne, e_nil, nol_n, nol_I, nol_R, rsum_0, rsum_I, rsum_R, ps_s, ps_n, true_and, and_true, Nat.reduceAdd, Nat.reduceLeDiff, ho, hd1, bi_0]
            refine ⟨fun c66 => ?_, fun c66 => ?_⟩
            · have g2 := fun y => g false y (by unfold covN; rw [c50, cn, eq_true_of_ne_false c66]; rfl)
              refine go_blk [(.iconst 0, 0, 0, 0), (.istore_n 2, 0, 0, 0), (.iinc 3 1, 0, 0, 0), (.goto (-74), 4, 0, 0)] (by decide +kernel) ?_
              simp only [e_ic_0, e_is_2n, e_is_2I, e_is_2R, e_inc_3_1n, e_inc_3_1I, e_inc_3_1R, e_goto, e_nil, nol_n, nol_I, nol_R, rsum_0, rsum_I, rsum_R, ps_s, ps_n, true_and, and_true, Nat.reduceAdd, Nat.reduceLeDiff, ho, hd1, bi_0]
              rw [nI_1]
              exact g2 _
            · have g2 := fun y => g true y (by unfold covN; rw [c50, cn, c66]; rfl)
              refine go_blk [(.iconst 1, 0, 0, 0), (.goto 4, 74, 0, 0), (.istore_n 2, 0, 0, 0), (.iinc 3 1, 0, 0, 0), (.goto (-74), 4, 0, 0)] (by decide +kernel) ?_
              simp only [e_ic_1, e_goto, e_is_2n, e_is_2I, e_is_2R, e_inc_3_1n, e_inc_3_1I, e_inc_3_1R, e_nil, nol_n, nol_I, nol_R, rsum_0, rsum_I, rsum_R, ps_s, ps_n, true_and, and_true, Nat.reduceAdd, Nat.reduceLeDiff, ho, hd1, bi_0]
              rw [nI_1]
              exact g2 _
theorem okm_cov {l : Launch} {K : KK} {d : Nat} {μ : Mm} {P : Option AV → Mm → Prop} {c op : Nat} (hc : c < 15) (hoc : op.testBit c = true) (ho : μ 8 0 0 2 = nI op) (hop : op < 2 ^ 15) (hd1 : 1 ≤ d) (h : P (some (vI (bi (tc op c)))) μ) : Ok l K d 131 [vR 8 0 0, vI (nI c)] μ P := by
  refine ok_go 5 (by decide +kernel) [some (vR 8 0 0), some (vI (nI c)), none, none, none] rfl (Nat.le_of_ble_eq_true rfl) ?_
  rw [← cv_tc hc hoc] at h
  refine go_blk [(.iconst 0, 0, 0, 0), (.istore_n 2, 0, 0, 0), (.iconst 0, 0, 0, 0), (.istore_n 3, 0, 0, 0)] (by decide +kernel) ?_
  simp only [e_ic_0, e_is_2n, e_is_2I, e_is_2R, e_is_3n, e_is_3I, e_is_3R, e_nil, nol_n, nol_I, nol_R, rsum_0, rsum_I, rsum_R, ps_s, ps_n, true_and, and_true, Nat.reduceAdd, Nat.reduceLeDiff]
  rw [← bi_f]
  exact lp_cov hc ho hop hd1 15 0 false none rfl h
