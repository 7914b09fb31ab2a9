def ryT (a b s : Nat) : Bool := !(lne a b && decide (1 ≤ s) && decide (dst a b + s < 6)) || (decide (wyN a b (dst a b + s) = rayN b (dU a b) (dV a b) s) && (decide (dst a b + s < 5) || decide (rayN b (dU a b) (dV a b) s = 99)))
theorem ry_tb : ∀ a, a < 15 → ∀ b, b < 15 → ∀ s, s < 5 → ryT a b s = true := by decide +kernel
theorem ry_tab {a b s : Nat} (ha : a < 15) (hb : b < 15) (hl : lne a b = true) (h1 : 1 ≤ s) (h2 : s < 5) (h3 : dst a b + s < 6) : wyN a b (dst a b + s) = rayN b (dU a b) (dV a b) s ∧ (dst a b + s < 5 ∨ rayN b (dU a b) (dV a b) s = 99) := by
  have := ry_tb a ha b hb s h2
  unfold ryT at this
  simp only [hl, decide_eq_true h1, decide_eq_true h3, Bool.and_true, Bool.not_true, Bool.false_or, Bool.and_eq_true, Bool.or_eq_true, decide_eq_true_eq] at this
  exact this
def rzT (a b m : Nat) : Bool := !(lne a b && decide (1 ≤ m) && decide (wyN a b m ≠ 99)) || (lne a (wyN a b m) && decide (dU a (wyN a b m) = dU a b) && decide (dV a (wyN a b m) = dV a b) && decide (dst a (wyN a b m) = m))
theorem rz_tb : ∀ a, a < 15 → ∀ b, b < 15 → ∀ m, m < 6 → rzT a b m = true := by decide +kernel
theorem rz_tab {a b m : Nat} (ha : a < 15) (hb : b < 15) (hm : m < 6) (hl : lne a b = true) (h1 : 1 ≤ m) (h9 : wyN a b m ≠ 99) : lne a (wyN a b m) = true ∧ dU a (wyN a b m) = dU a b ∧ dV a (wyN a b m) = dV a b ∧ dst a (wyN a b m) = m := by
  have := rz_tb a ha b hb m hm
  unfold rzT at this
  simp only [hl, decide_eq_true h1, decide_eq_true h9, Bool.and_true, Bool.not_true, Bool.false_or, Bool.and_eq_true, decide_eq_true_eq] at this
  exact ⟨this.1.1.1, this.1.1.2, this.1.2, this.2⟩
def rmT (c u v s s' : Nat) : Bool := !(decide (s ≤ s') && decide (rayN c u v s = 99)) || decide (rayN c u v s' = 99)
theorem rm_tb : ∀ c, c < 15 → ∀ q, q < 9 → ∀ s, s < 5 → ∀ s', s' < 5 → rmT c (q / 3) (q % 3) s s' = true := by decide +kernel
theorem ray_mono (c : Nat) (hc : c < 15) (u : Nat) (hu : u < 3) (v : Nat) (hv : v < 3) (s : Nat) (hs : s < 5) (s' : Nat) (hs' : s' < 5) (h : s ≤ s') (h9 : rayN c u v s = 99) : rayN c u v s' = 99 := by
  have := rm_tb c hc (3 * u + v) (by omega) s hs s' hs'
  rw [show (3 * u + v) / 3 = u by omega, show (3 * u + v) % 3 = v by omega] at this
  unfold rmT at this
  rw [decide_eq_true h, decide_eq_true h9] at this
  simpa using this
theorem fbF_ray {op : Nat} {t : TS} (hI : TInv op t) (c u v : Nat) : ∀ k s, fbF op t c u v k s = 99 ∨ ∃ s', s ≤ s' ∧ s' < s + k ∧ rayN c u v s' ≠ 99 ∧ t 5 (fbF op t c u v k s) = rayN c u v s'
  | 0, s => Or.inl rfl
  | k + 1, s => by
    unfold fbF
    split
    · exact Or.inl rfl
    · rename_i h9
      split
      · exact Or.inl rfl
      · split
        · rename_i hw
          exact Or.inr ⟨s, by omega, by omega, h9, (who_lt hI hw.1).2⟩
        · rcases fbF_ray hI c u v k (s + 1) with z | ⟨s', a1, a2, a3, a4⟩
          · exact Or.inl z
          · exact Or.inr ⟨s', by omega, by omega, a3, a4⟩
theorem lp_mbeh {l : Launch} {K : KK} {d : Nat} {μ : Mm} {P : Option AV → Mm → Prop} {op a b : Nat} {t : TS} (hI : TInv op t) (hM : MRep μ t) (ho : μ 8 0 0 2 = nI op) (hop : op < 2 ^ 15) (ha : a < 15) (hb : b < 15) (hl : lne a b = true) (hd1 : 2 ≤ d) : ∀ (r s : Nat) (y4 y5 : Option AV), s + r = 5 → 1 ≤ s → dst a b + s < 6 → P (some (vI (eN (fbF op t b (dU a b) (dV a b) r s)))) μ → Go l K d 140 6 [some (vR 8 0 0), some (vI (nI a)), some (vI (nI b)), some (vI (nI (dst a b + s - 1))), y4, y5] [] μ P := by
  have hd2 : 1 ≤ d := by omega
  obtain ⟨-, dg1, dg2⟩ := dsM_pos ha hb hl
  have m6 : μ 8 0 0 6 = nI (mSt t) := hM.2.1.1
  have l6 := mSt_lt hI.1
  have hn := hI.1
  intro r
  induction r with
  | zero =>
    intro s y4 y5 hs h1 h3 h
    omega
  | succ r ih =>
    intro s y4 y5 hs h1 h3 h
    obtain ⟨ry1, ry2⟩ := ry_tab ha hb hl h1 (by omega) h3
    have ei : nI (dst a b + s - 1) + 1 = nI (dst a b + s) := by rw [nI_1, show dst a b + s - 1 + 1 = dst a b + s by omega]
    have u : fbF op t b (dU a b) (dV a b) (r + 1) s = if rayN b (dU a b) (dV a b) s = 99 then 99 else if !op.testBit (rayN b (dU a b) (dV a b) s) then 99 else if whoN t (rayN b (dU a b) (dV a b) s) ≠ 99 ∧ stn t (whoN t (rayN b (dU a b) (dV a b) s)) = true then whoN t (rayN b (dU a b) (dV a b) s) else fbF op t b (dU a b) (dV a b) r (s + 1) := rfl
    rw [u] at h
    have wl := (wy_tab ha hb (k := dst a b + s) (by omega)).2
    rw [ry1] at wl
    generalize rayN b (dU a b) (dV a b) s = c at *
    refine go_blk [(.iinc 3 1, 0, 0, 0), (.iload_n 1, 0, 0, 0), (.iload_n 2, 0, 0, 0), (.iload_n 3, 0, 0, 0), (.invokestatic 136, 122, 3, 0)] (by decide +kernel) ?_
    simp only [e_inc_3_1n, e_inc_3_1I, e_inc_3_1R, e_il_1, e_il_2, e_il_3, e_ivs_3, e_nil, Nat.reduceLT, nol_n, nol_I, nol_R, rsum_0, rsum_I, rsum_R, ps_s, ps_n, true_and, and_true, Nat.reduceAdd, Nat.reduceLeDiff, ho, m6, hd2, ei, bi_0, Classical.not_not]
    refine okm_onWay ha hb (by omega) (by omega) ?_
    rw [ry1]
    refine go_blk [(.istore 4, 0, 0, 0), (.iload 4, 0, 0, 0), (.iconst (-1), 0, 0, 0), (.if_icmp .eq 15, 35, 0, 0)] (by decide +kernel) ?_
    simp only [e_isw_4n, e_isw_4I, e_isw_4R, e_ilw_4, e_ic_m1, e_icmp_eq, e_nil, nol_n, nol_I, nol_R, rsum_0, rsum_I, rsum_R, ps_s, ps_n, true_and, and_true, Nat.reduceAdd, Nat.reduceLeDiff, ho, m6, hd2, ei, bi_0, Classical.not_not]
    refine ⟨fun c20 => ?_, fun c20 => ?_⟩
    · have c9 : c = 99 := by
        rcases wl with z | z
        · unfold eN at c20
          rw [if_neg (by omega)] at c20
          exact absurd c20 (nI_nm1 (by omega))
        · exact z
      rw [if_pos c9] at h
      refine go_blk [(.iconst (-1), 0, 0, 0), (.ireturn, 0, 0, 0)] (by decide +kernel) ?_
      simp only [e_ic_m1, e_iret0, e_nil, nol_n, nol_I, nol_R, rsum_0, rsum_I, rsum_R, ps_s, ps_n, true_and, and_true, Nat.reduceAdd, Nat.reduceLeDiff, ho, m6, hd2, ei, bi_0, Classical.not_not]
      exact h
    · have c9 : c ≠ 99 := fun z => c20 (by unfold eN; rw [if_pos z])
      have cl : c < 15 := by omega
      have ec : eN c = nI c := by unfold eN; rw [if_neg c9]
      rw [if_neg c9] at h
      refine go_blk [(.aload_n 0, 0, 0, 0), (.getfield 80, 8, 2, 0), (.iload 4, 0, 0, 0), (.invokestatic 69, 104, 2, 0)] (by decide +kernel) ?_
      simp only [e_al_0, e_gf_8_2, e_ilw_4, e_ivs_2, rd_8_2, e_nil, Nat.reduceLT, nol_n, nol_I, nol_R, rsum_0, rsum_I, rsum_R, ps_s, ps_n, true_and, and_true, Nat.reduceAdd, Nat.reduceLeDiff, ho, m6, hd2, ei, bi_0, Classical.not_not, ec]
      refine okm_has (by omega) (by omega) ?_
      refine go_blk [(.ifCond .ne 5, 37, 0, 0)] (by decide +kernel) ?_
      simp only [e_if_ne, e_nil, nol_n, nol_I, nol_R, rsum_0, rsum_I, rsum_R, ps_s, ps_n, true_and, and_true, Nat.reduceAdd, Nat.reduceLeDiff, ho, m6, hd2, ei, bi_0, Classical.not_not, ec]
      refine ⟨fun c32 => ?_, fun c32 => ?_⟩
      · rw [if_neg (by rw [eq_true_of_ne_false c32]; decide)] at h
        refine go_blk [(.aload_n 0, 0, 0, 0), (.iload 4, 0, 0, 0), (.invokevirtual 143, 123, 1, 8)] (by decide +kernel) ?_
        simp only [e_al_0, e_ilw_4, e_iv_8_1, e_nil, nol_n, nol_I, nol_R, rsum_0, rsum_I, rsum_R, ps_s, ps_n, true_and, and_true, Nat.reduceAdd, Nat.reduceLeDiff, ho, m6, hd2, ei, bi_0, Classical.not_not, ec]
        refine okm_who hI hM cl ?_
        refine go_blk [(.istore 5, 0, 0, 0), (.iload 5, 0, 0, 0), (.iconst (-1), 0, 0, 0), (.if_icmp .eq 18, 66, 0, 0)] (by decide +kernel) ?_
        simp only [e_isw_5n, e_isw_5I, e_isw_5R, e_ilw_5, e_ic_m1, e_icmp_eq, e_nil, nol_n, nol_I, nol_R, rsum_0, rsum_I, rsum_R, ps_s, ps_n, true_and, and_true, Nat.reduceAdd, Nat.reduceLeDiff, ho, m6, hd2, ei, bi_0, Classical.not_not, ec]
        refine ⟨fun c48 => ?_, fun c48 => ?_⟩
        · have w9 : whoN t c = 99 := by
            rcases whoN_sp hI.1 c with ⟨e, -⟩ | ⟨g, -⟩
            · exact e
            · unfold eN at c48
              rw [if_neg (by omega)] at c48
              exact absurd c48 (nI_nm1 (by omega))
          rw [if_neg (fun z => z.1 w9)] at h
          refine go_blk [(.goto (-60), 6, 0, 0)] (by decide +kernel) ?_
          simp only [e_goto, e_nil, nol_n, nol_I, nol_R, rsum_0, rsum_I, rsum_R, ps_s, ps_n, true_and, and_true, Nat.reduceAdd, Nat.reduceLeDiff, ho, m6, hd2, ei, bi_0, Classical.not_not, ec]
          have z := fun y4 y5 => ih (s + 1) y4 y5 (by omega) (by omega) (by omega) h
          simp only [show dst a b + (s + 1) - 1 = dst a b + s by omega] at z
          exact z _ _
        · have w9 : whoN t c ≠ 99 := fun z => c48 (by unfold eN; rw [if_pos z])
          obtain ⟨w1, w2⟩ := who_lt hI w9
          have ew : eN (whoN t c) = nI (whoN t c) := by unfold eN; rw [if_neg w9]
          have sb := mSt_bit w1
          refine go_blk [(.aload_n 0, 0, 0, 0), (.getfield 99, 8, 6, 0), (.iload 5, 0, 0, 0), (.invokestatic 69, 104, 2, 0)] (by decide +kernel) ?_
          simp only [e_al_0, e_gf_8_6, e_ilw_5, e_ivs_2, rd_8_6, e_nil, Nat.reduceLT, nol_n, nol_I, nol_R, rsum_0, rsum_I, rsum_R, ps_s, ps_n, true_and, and_true, Nat.reduceAdd, Nat.reduceLeDiff, ho, m6, hd2, ei, bi_0, Classical.not_not, ec, ew]
          refine okm_has (by omega) (by omega) ?_
          rw [sb]
          refine go_blk [(.ifCond .eq 6, 66, 0, 0)] (by decide +kernel) ?_
          simp only [e_if_eq, e_nil, nol_n, nol_I, nol_R, rsum_0, rsum_I, rsum_R, ps_s, ps_n, true_and, and_true, Nat.reduceAdd, Nat.reduceLeDiff, ho, m6, hd2, ei, bi_0, Classical.not_not, ec, ew]
          refine ⟨fun c60 => ?_, fun c60 => ?_⟩
          · rw [if_neg (fun z => absurd (c60.symm.trans z.2) (by decide))] at h
            refine go_blk [(.goto (-60), 6, 0, 0)] (by decide +kernel) ?_
            simp only [e_goto, e_nil, nol_n, nol_I, nol_R, rsum_0, rsum_I, rsum_R, ps_s, ps_n, true_and, and_true, Nat.reduceAdd, Nat.reduceLeDiff, ho, m6, hd2, ei, bi_0, Classical.not_not, ec, ew]
            have z := fun y4 y5 => ih (s + 1) y4 y5 (by omega) (by omega) (by omega) h
            simp only [show dst a b + (s + 1) - 1 = dst a b + s by omega] at z
            exact z _ _
          · rw [if_pos ⟨w9, eq_true_of_ne_false c60⟩, ew] at h
            refine go_blk [(.iload 5, 0, 0, 0), (.ireturn, 0, 0, 0)] (by decide +kernel) ?_
            simp only [e_ilw_5, e_iret0, e_nil, nol_n, nol_I, nol_R, rsum_0, rsum_I, rsum_R, ps_s, ps_n, true_and, and_true, Nat.reduceAdd, Nat.reduceLeDiff, ho, m6, hd2, ei, bi_0, Classical.not_not, ec, ew]
            exact h
      · rw [if_pos (by rw [c32]; rfl)] at h
        refine go_blk [(.iconst (-1), 0, 0, 0), (.ireturn, 0, 0, 0)] (by decide +kernel) ?_
        simp only [e_ic_m1, e_iret0, e_nil, nol_n, nol_I, nol_R, rsum_0, rsum_I, rsum_R, ps_s, ps_n, true_and, and_true, Nat.reduceAdd, Nat.reduceLeDiff, ho, m6, hd2, ei, bi_0, Classical.not_not, ec]
        exact h
theorem okm_behind {l : Launch} {K : KK} {d : Nat} {μ : Mm} {P : Option AV → Mm → Prop} {op a b : Nat} {t : TS} (hI : TInv op t) (hM : MRep μ t) (ho : μ 8 0 0 2 = nI op) (hop : op < 2 ^ 15) (ha : a < 15) (hb : b < 15) (hl : lne a b = true) (hd1 : 2 ≤ d) (h : P (some (vI (eN (fbS op t b (dU a b) (dV a b))))) μ) : Ok l K d 140 [vR 8 0 0, vI (nI a), vI (nI b)] μ P := by
  refine ok_go 6 (by decide +kernel) [some (vR 8 0 0), some (vI (nI a)), some (vI (nI b)), none, none, none] rfl (Nat.le_of_ble_eq_true rfl) ?_
  have hd2 : 1 ≤ d := by omega
  obtain ⟨d1, dg1, dg2⟩ := dsM_pos ha hb hl
  refine go_blk [(.iload_n 1, 0, 0, 0), (.iload_n 2, 0, 0, 0), (.invokestatic 132, 121, 2, 0)] (by decide +kernel) ?_
  simp only [e_il_1, e_il_2, e_ivs_2, e_nil, Nat.reduceLT, nol_n, nol_I, nol_R, rsum_0, rsum_I, rsum_R, ps_s, ps_n, true_and, and_true, Nat.reduceAdd, Nat.reduceLeDiff, hd2]
  refine okm_distance ha hb (by omega) ?_
  rw [d1]
  refine go_blk [(.istore_n 3, 0, 0, 0)] (by decide +kernel) ?_
  simp only [e_is_3n, e_is_3I, e_is_3R, e_nil, nol_n, nol_I, nol_R, rsum_0, rsum_I, rsum_R, ps_s, ps_n, true_and, and_true, Nat.reduceAdd, Nat.reduceLeDiff, hd2]
  exact lp_mbeh hI hM ho hop ha hb hl hd1 4 1 none none (by omega) (by omega) (by omega) h
theorem pea_m {t : TS} {a : Nat} : mSt (pea t a) = mSt t ∧ mSd (pea t a) = mSd t ∧ (∀ j, pea t a 6 j = t 6 j) ∧ ∀ j, pea t a 3 j = t 3 j ∧ pea t a 5 j = t 5 j := by
  refine ⟨?_, ?_, fun j => tu_ne (by omega), fun j => ⟨tu_ne (by omega), tu_ne (by omega)⟩⟩
  · unfold mSt
    rw [pea_n]
    exact mskF_eq (fun j _ => by unfold stn pea; rw [tu_ne (by omega)])
  · unfold mSd
    rw [pea_n]
    exact mskF_eq (fun j _ => by unfold pea; rw [tu_ne (by omega)])
theorem okm_pea {l : Launch} {K : KK} {d : Nat} {μ : Mm} {P : Option AV → Mm → Prop} {op a : Nat} {t : TS} (hI : TInv op t) (hM : MRep μ t) (ha : a < t 0 1) (hp : 0 < t 8 (t 4 a)) (hd1 : 1 ≤ d) (h : ∀ μ2, MRep μ2 (pea t a) → OffM μ μ2 → P none μ2) : Ok l K d 141 [vR 8 0 0, vI (nI a)] μ P := by
  refine ok_go 2 (by decide +kernel) [some (vR 8 0 0), some (vI (nI a))] rfl (Nat.le_of_ble_eq_true rfl) ?_
  have hn := hI.1
  have m6 : μ 8 0 0 6 = nI (mSt t) := hM.2.1.1
  have m7 : μ 8 0 0 7 = nI (mSd t) := hM.2.1.2.1
  have m8 := hM.2.1.2.2
  have m9 := hM.2.2.1
  have m10 := hM.2.2.2
  have l7 := mSd_lt hn
  have da := mSd_bit ha
  have ra := (hI.2.1 a ha).2.1
  have hh7 : ∀ v, up μ 8 0 0 9 v 8 0 0 7 = nI (mSd t) := fun v => (up_ne (by omega)).trans m7
  have hh10 : ∀ v, up μ 8 0 0 9 v 8 0 0 10 = nI (t 8 1) := fun v => (up_ne (by omega)).trans m10
  have z9 : nI (t 8 0) - 0 = nI (t 8 0) := Int32.sub_zero _
  have z10 : nI (t 8 1) - 0 = nI (t 8 1) := Int32.sub_zero _
  obtain ⟨q1, q2, q3, q4⟩ := pea_m (t := t) (a := a)
  have fin : ∀ v9 v10, v9 = nI (pea t a 8 0) → v10 = nI (pea t a 8 1) → P none (up (up μ 8 0 0 9 v9) 8 0 0 10 v10) := fun v9 v10 e9 e10 => by
    refine h _ (mr_of (offm_up (offm_up (offm_rf μ) (j := 9) (by omega) (by omega) _) (j := 10) (by omega) (by omega) _) hM (pea_n t a) q4 ?_ ?_ ?_ ?_ ?_) (offm_up (offm_up (offm_rf μ) (j := 9) (by omega) (by omega) _) (j := 10) (by omega) (by omega) _)
    · rw [up_ne (by omega), up_ne (by omega), q1]; exact m6
    · rw [up_ne (by omega), up_ne (by omega), q2]; exact m7
    · rw [up_ne (by omega), up_ne (by omega), htF_eq (t := t) _ (fun j _ => q3 j)]; exact m8
    · rw [up_ne (by omega), up_self, e9]
    · rw [up_self, e10]
  refine go_blk [(.aload_n 0, 0, 0, 0), (.dup, 0, 0, 0), (.getfield 83, 8, 9, 0), (.aload_n 0, 0, 0, 0), (.getfield 102, 8, 7, 0), (.iload_n 1, 0, 0, 0), (.invokestatic 69, 104, 2, 0)] (by decide +kernel) ?_
  simp only [e_al_0, e_dupI, e_dupR, e_gf_8_9, e_gf_8_7, e_il_1, e_ivs_2, rd_8_9, rd_8_7, e_nil, Nat.reduceLT, nol_n, nol_I, nol_R, rsum_0, rsum_I, rsum_R, ps_s, ps_n, true_and, and_true, Nat.reduceAdd, Nat.reduceLeDiff, hd1, m7, m9, hh7, hh10, z9, z10, bi_0]
  refine okm_has (by omega) (by omega) ?_
  rw [da]
  refine go_blk [(.ifCond .eq 7, 20, 0, 0)] (by decide +kernel) ?_
  simp only [e_if_eq, e_nil, nol_n, nol_I, nol_R, rsum_0, rsum_I, rsum_R, ps_s, ps_n, true_and, and_true, Nat.reduceAdd, Nat.reduceLeDiff, hd1, m7, m9, hh7, hh10, z9, z10, bi_0]
  refine ⟨fun c13 => ?_, fun c13 => ?_⟩
  · have e4 : t 4 a = 0 := by
      have : ¬ t 4 a = 1 := by simpa using c13
      omega
    refine go_blk [(.iconst 1, 0, 0, 0), (.isub, 0, 0, 0), (.putfield 83, 8, 9, 0)] (by decide +kernel) ?_
    simp only [e_ic_1, e_isub, e_pf_8_9, e_nil, nol_n, nol_I, nol_R, rsum_0, rsum_I, rsum_R, ps_s, ps_n, true_and, and_true, Nat.reduceAdd, Nat.reduceLeDiff, hd1, m7, m9, hh7, hh10, z9, z10, bi_0]
    refine go_blk [(.aload_n 0, 0, 0, 0), (.dup, 0, 0, 0), (.getfield 86, 8, 10, 0), (.aload_n 0, 0, 0, 0), (.getfield 102, 8, 7, 0), (.iload_n 1, 0, 0, 0), (.invokestatic 69, 104, 2, 0)] (by decide +kernel) ?_
    simp only [e_al_0, e_dupI, e_dupR, e_gf_8_10, e_gf_8_7, e_il_1, e_ivs_2, rd_8_10, rd_8_7, e_nil, Nat.reduceLT, nol_n, nol_I, nol_R, rsum_0, rsum_I, rsum_R, ps_s, ps_n, true_and, and_true, Nat.reduceAdd, Nat.reduceLeDiff, hd1, m7, m9, hh7, hh10, z9, z10, bi_0]
    refine okm_has (by omega) (by omega) ?_
    rw [da]
    refine go_blk [(.ifCond .eq 7, 45, 0, 0)] (by decide +kernel) ?_
    simp only [e_if_eq, e_nil, nol_n, nol_I, nol_R, rsum_0, rsum_I, rsum_R, ps_s, ps_n, true_and, and_true, Nat.reduceAdd, Nat.reduceLeDiff, hd1, m7, m9, hh7, hh10, z9, z10, bi_0]
    refine ⟨fun c38 => ?_, fun c38 => ?_⟩
    · refine go_blk [(.iconst 0, 0, 0, 0), (.isub, 0, 0, 0), (.putfield 86, 8, 10, 0)] (by decide +kernel) ?_
      simp only [e_ic_0, e_isub, e_pf_8_10, e_nil, nol_n, nol_I, nol_R, rsum_0, rsum_I, rsum_R, ps_s, ps_n, true_and, and_true, Nat.reduceAdd, Nat.reduceLeDiff, hd1, m7, m9, hh7, hh10, z9, z10, bi_0]
      refine go_blk [(.return_, 0, 0, 0)] (by decide +kernel) ?_
      simp only [e_vret, e_nil, nol_n, nol_I, nol_R, rsum_0, rsum_I, rsum_R, ps_s, ps_n, true_and, and_true, Nat.reduceAdd, Nat.reduceLeDiff, hd1, m7, m9, hh7, hh10, z9, z10, bi_0]
      refine fin _ _ ?_ ?_
      · unfold pea; rw [e4, tu_self]; rw [e4] at hp; exact sub1 hp
      · unfold pea; rw [e4, tu_ne (by omega)]
    · exact absurd c13 c38
  · have e4 : t 4 a = 1 := by simpa using c13
    refine go_blk [(.iconst 0, 0, 0, 0), (.goto 4, 21, 0, 0), (.isub, 0, 0, 0), (.putfield 83, 8, 9, 0)] (by decide +kernel) ?_
    simp only [e_ic_0, e_goto, e_isub, e_pf_8_9, e_nil, nol_n, nol_I, nol_R, rsum_0, rsum_I, rsum_R, ps_s, ps_n, true_and, and_true, Nat.reduceAdd, Nat.reduceLeDiff, hd1, m7, m9, hh7, hh10, z9, z10, bi_0]
    refine go_blk [(.aload_n 0, 0, 0, 0), (.dup, 0, 0, 0), (.getfield 86, 8, 10, 0), (.aload_n 0, 0, 0, 0), (.getfield 102, 8, 7, 0), (.iload_n 1, 0, 0, 0), (.invokestatic 69, 104, 2, 0)] (by decide +kernel) ?_
    simp only [e_al_0, e_dupI, e_dupR, e_gf_8_10, e_gf_8_7, e_il_1, e_ivs_2, rd_8_10, rd_8_7, e_nil, Nat.reduceLT, nol_n, nol_I, nol_R, rsum_0, rsum_I, rsum_R, ps_s, ps_n, true_and, and_true, Nat.reduceAdd, Nat.reduceLeDiff, hd1, m7, m9, hh7, hh10, z9, z10, bi_0]
    refine okm_has (by omega) (by omega) ?_
    rw [da]
    refine go_blk [(.ifCond .eq 7, 45, 0, 0)] (by decide +kernel) ?_
    simp only [e_if_eq, e_nil, nol_n, nol_I, nol_R, rsum_0, rsum_I, rsum_R, ps_s, ps_n, true_and, and_true, Nat.reduceAdd, Nat.reduceLeDiff, hd1, m7, m9, hh7, hh10, z9, z10, bi_0]
    refine ⟨fun c38 => ?_, fun c38 => ?_⟩
    · exact absurd c38 c13
    · refine go_blk [(.iconst 1, 0, 0, 0), (.goto 4, 46, 0, 0), (.isub, 0, 0, 0), (.putfield 86, 8, 10, 0)] (by decide +kernel) ?_
      simp only [e_ic_1, e_goto, e_isub, e_pf_8_10, e_nil, nol_n, nol_I, nol_R, rsum_0, rsum_I, rsum_R, ps_s, ps_n, true_and, and_true, Nat.reduceAdd, Nat.reduceLeDiff, hd1, m7, m9, hh7, hh10, z9, z10, bi_0]
      refine go_blk [(.return_, 0, 0, 0)] (by decide +kernel) ?_
      simp only [e_vret, e_nil, nol_n, nol_I, nol_R, rsum_0, rsum_I, rsum_R, ps_s, ps_n, true_and, and_true, Nat.reduceAdd, Nat.reduceLeDiff, hd1, m7, m9, hh7, hh10, z9, z10, bi_0]
      refine fin _ _ ?_ ?_
      · unfold pea; rw [e4, tu_ne (by omega)]
      · unfold pea; rw [e4, tu_self]; rw [e4] at hp; exact sub1 hp
theorem lp_hitOn {l : Launch} {K : KK} {d : Nat} {P : Option AV → Mm → Prop} {μ0 : Mm} {op a A b0 : Nat} {u v : Nat} (ho : μ0 8 0 0 2 = nI op) (hop : op < 2 ^ 15) (hA : A < 15) (hd1 : 3 ≤ d) : ∀ (k : Nat) (t : TS) (w c : Nat) (μ : Mm), TInv op t → MRep μ t → OffM μ0 μ → a < t 0 1 → t 5 a = A → (w = 99 ∨ (w < t 0 1 ∧ stn t w = true ∧ lne A (t 5 w) = true ∧ dU A (t 5 w) = u ∧ dV A (t 5 w) = v ∧ 7 ≤ dst A (t 5 w) + k)) → (w = 99 → 1 ≤ k) → (∀ μ2, MRep μ2 (flF op u v k t w c).1 → OffM μ0 μ2 → P (some (vI (nI (flF op u v k t w c).2))) μ2) → Go l K d 142 5 [some (vR 8 0 0), some (vI (nI a)), some (vI (nI b0)), some (vI (nI c)), some (vI (eN w))] [] μ P := by
  have hd2 : 1 ≤ d := by omega
  intro k
  induction k with
  | zero =>
    intro t w c μ hI hM hO ha h5 hw hw9 h
    rcases hw with z | ⟨w1, w2, w3, w4, w5, w6⟩
    · have := hw9 z; omega
    · have := (dsM_pos hA (hI.2.1 w w1).2.2.1 w3).2.2; omega
  | succ k ih =>
    intro t w c μ hI hM hO ha h5 hw hw9 h
    have hn := hI.1
    have u1 : flF op u v (k + 1) t w c = if w = 99 then (t, c) else flF op u v k (stkT t w) (if t 3 w = 4 then fbS op (stkT t w) (t 5 w) u v else 99) (c + stkN t w) := rfl
    rw [u1] at h
    have va : vp_in (nI a) 6 := vin (by omega) (by omega)
    have xa : ix (nI a) = a := nI_ix (by omega)
    refine go_blk [(.iload 4, 0, 0, 0), (.iconst (-1), 0, 0, 0), (.if_icmp .eq 49, 57, 0, 0)] (by decide +kernel) ?_
    simp only [e_ilw_4, e_ic_m1, e_icmp_eq, e_nil, nol_n, nol_I, nol_R, rsum_0, rsum_I, rsum_R, ps_s, ps_n, true_and, and_true, Nat.reduceAdd, Nat.reduceLeDiff, hd2, va, xa]
    refine ⟨fun c8 => ?_, fun c8 => ?_⟩
    · have w9 : w = 99 := by
        rcases hw with z | ⟨w1, -⟩
        · exact z
        · unfold eN at c8
          rw [if_neg (by omega)] at c8
          exact absurd c8 (nI_nm1 (by omega))
      rw [if_pos w9] at h
      refine go_blk [(.iload_n 3, 0, 0, 0), (.ireturn, 0, 0, 0)] (by decide +kernel) ?_
      simp only [e_il_3, e_iret0, e_nil, nol_n, nol_I, nol_R, rsum_0, rsum_I, rsum_R, ps_s, ps_n, true_and, and_true, Nat.reduceAdd, Nat.reduceLeDiff, hd2, va, xa]
      exact h μ hM hO
    · have w9 : w ≠ 99 := fun z => c8 (by unfold eN; rw [if_pos z])
      obtain ⟨w1, w2, w3, w4, w5, w6⟩ : w < t 0 1 ∧ stn t w = true ∧ lne A (t 5 w) = true ∧ dU A (t 5 w) = u ∧ dV A (t 5 w) = v ∧ 7 ≤ dst A (t 5 w) + (k + 1) := by
        rcases hw with z | z
        · exact absurd z w9
        · exact z
      have ew : eN w = nI w := by unfold eN; rw [if_neg w9]
      rw [if_neg w9] at h
      have rw2 := hI.2.1 w w1
      have vw : vp_in (nI w) 6 := vin (by omega) (by omega)
      have xw : ix (nI w) = w := nI_ix (by omega)
      obtain ⟨-, dg1, dg2⟩ := dsM_pos hA rw2.2.2.1 w3
      have e28 : (nI (t 3 w) = 4) = (t 3 w = 4) := propext (nI_eq (b := 4) (by omega) (by omega))
      refine go_blk [(.iload_n 3, 0, 0, 0), (.aload_n 0, 0, 0, 0), (.iload 4, 0, 0, 0), (.invokevirtual 173, 139, 1, 8)] (by decide +kernel) ?_
      simp only [e_il_3, e_al_0, e_ilw_4, e_iv_8_1, e_nil, nol_n, nol_I, nol_R, rsum_0, rsum_I, rsum_R, ps_s, ps_n, true_and, and_true, Nat.reduceAdd, Nat.reduceLeDiff, hd2, va, xa, ew, vw, xw, e28]
      refine okm_hit hI hM w1 w2 (fun μ1 sM sO => ?_)
      have sI := stk_inv hI w1 w2
      have sn1 := stk_n t w
      have s5a : μ1 8 0 6 a = nI A := by rw [← h5, ← (stk_3 t w a).2.1]; exact sM.1.2.2 a (by rw [sn1]; exact ha)
      have s5w : μ1 8 0 6 w = nI (t 5 w) := by rw [← (stk_3 t w w).2.1]; exact sM.1.2.2 w (by rw [sn1]; exact w1)
      have s4w : μ1 8 0 5 w = nI (t 3 w) := by rw [← (stk_3 t w w).1]; exact sM.1.2.1 w (by rw [sn1]; exact w1)
      refine go_blk [(.iadd, 0, 0, 0), (.istore_n 3, 0, 0, 0), (.aload_n 0, 0, 0, 0), (.getfield 7, 8, 4, 0), (.iload 4, 0, 0, 0), (.iaload, 0, 0, 0), (.iconst 4, 0, 0, 0), (.if_icmp .ne 23, 51, 0, 0)] (by decide +kernel) ?_
      simp only [e_iadd, e_is_3n, e_is_3I, e_is_3R, e_al_0, e_gf_8_4, e_ilw_4, e_ia, e_ic_4, e_icmp_ne, rd_8_4, ai_0_4, ai_1_7, ai_2_1, ai_2_2, ai_3_1, ai_4_1, ai_6_3, ai_6_4, ai_6_5, ai_6_6, ai_6_7, ai_6_8, ai_8_5, ai_8_6, ai_8_17, ai_8_21, ai_8_23, ai_8_24, ai_8_27, ai_8_28, ai_8_38, ai_8_39, ai_8_40, e_nil, nol_n, nol_I, nol_R, rsum_0, rsum_I, rsum_R, ps_s, ps_n, true_and, and_true, Nat.reduceAdd, Nat.reduceLeDiff, hd2, va, xa, ew, vw, xw, e28, s5a, s5w, s4w]
      refine ⟨fun c28 => ?_, fun c28 => ?_⟩
      · rw [if_neg c28] at h
        refine go_blk [(.iconst (-1), 0, 0, 0), (.istore 4, 0, 0, 0), (.goto (-49), 5, 0, 0)] (by decide +kernel) ?_
        simp only [e_ic_m1, e_isw_4n, e_isw_4I, e_isw_4R, e_goto, e_nil, nol_n, nol_I, nol_R, rsum_0, rsum_I, rsum_R, ps_s, ps_n, true_and, and_true, Nat.reduceAdd, Nat.reduceLeDiff, hd2, va, xa, ew, vw, xw, e28, s5a, s5w, s4w]
        rw [nI_add]
        refine ih (stkT t w) 99 (c + stkN t w) μ1 sI sM (offm_tr hO sO) (by rw [sn1]; exact ha) (by rw [(stk_3 t w a).2.1]; exact h5) (Or.inl rfl) (fun _ => by omega) h
      · rw [if_pos c28] at h
        refine go_blk [(.aload_n 0, 0, 0, 0), (.aload_n 0, 0, 0, 0), (.getfield 13, 8, 5, 0), (.iload_n 1, 0, 0, 0), (.iaload, 0, 0, 0), (.aload_n 0, 0, 0, 0), (.getfield 13, 8, 5, 0), (.iload 4, 0, 0, 0), (.iaload, 0, 0, 0), (.invokevirtual 176, 140, 2, 8)] (by decide +kernel) ?_
        simp only [e_al_0, e_gf_8_5, e_il_1, e_ia, e_ilw_4, e_iv_8_2, rd_8_5, ai_0_4, ai_1_7, ai_2_1, ai_2_2, ai_3_1, ai_4_1, ai_6_3, ai_6_4, ai_6_5, ai_6_6, ai_6_7, ai_6_8, ai_8_5, ai_8_6, ai_8_17, ai_8_21, ai_8_23, ai_8_24, ai_8_27, ai_8_28, ai_8_38, ai_8_39, ai_8_40, e_nil, nol_n, nol_I, nol_R, rsum_0, rsum_I, rsum_R, ps_s, ps_n, true_and, and_true, Nat.reduceAdd, Nat.reduceLeDiff, hd2, va, xa, ew, vw, xw, e28, s5a, s5w, s4w]
        refine okm_behind sI sM (by rw [sO 8 0 0 2 (by omega), hO 8 0 0 2 (by omega)]; exact ho) hop hA rw2.2.2.1 w3 (by omega) ?_
        rw [w4, w5]
        refine go_blk [(.goto 4, 52, 0, 0), (.istore 4, 0, 0, 0), (.goto (-49), 5, 0, 0)] (by decide +kernel) ?_
        simp only [e_goto, e_isw_4n, e_isw_4I, e_isw_4R, e_nil, nol_n, nol_I, nol_R, rsum_0, rsum_I, rsum_R, ps_s, ps_n, true_and, and_true, Nat.reduceAdd, Nat.reduceLeDiff, hd2, va, xa, ew, vw, xw, e28, s5a, s5w, s4w]
        rw [nI_add]
        refine ih (stkT t w) (fbS op (stkT t w) (t 5 w) u v) (c + stkN t w) μ1 sI sM (offm_tr hO sO) (by rw [sn1]; exact ha) (by rw [(stk_3 t w a).2.1]; exact h5) ?_ (fun _ => by omega) h
        rcases fbF_sp (op := op) (t := stkT t w) sI.1 (t 5 w) u v 4 1 with z | ⟨z1, z2⟩
        · exact Or.inl z
        · rcases fbF_ray sI (t 5 w) u v 4 1 with y | ⟨s', y1, y2, y3, y4⟩
          · exact Or.inl y
          · have r5 : dst A (t 5 w) + s' < 6 := by
              by_cases g : dst A (t 5 w) + s' < 6
              · exact g
              · have g1 := (ry_tab (s := 5 - dst A (t 5 w)) hA rw2.2.2.1 w3 (by omega) (by omega) (by omega)).2
                rw [w4, w5] at g1
                rcases g1 with g1 | g1
                · omega
                · exact absurd (ray_mono _ rw2.2.2.1 u (by rw [← w4]; exact (dir_tab A hA _ rw2.2.2.1).2.2.1) v (by rw [← w5]; exact (dir_tab A hA _ rw2.2.2.1).2.2.2) (5 - dst A (t 5 w)) (by omega) s' (by omega) (by omega) g1) y3
            have r1 := (ry_tab hA rw2.2.2.1 w3 y1 (by omega) r5).1
            rw [w4, w5] at r1
            have r2 := rz_tab (m := dst A (t 5 w) + s') hA rw2.2.2.1 r5 w3 (by omega) (by rw [r1]; exact y3)
            rw [r1, w4, w5, ← y4] at r2
            refine Or.inr ⟨z1, z2, ?_⟩
            rw [(stk_3 t w _).2.1] at r2 ⊢
            exact ⟨r2.1, r2.2.1, r2.2.2.1, by have := r2.2.2.2; show 7 ≤ dst A (t 5 (fbF op (stkT t w) (t 5 w) u v 4 1)) + k; omega⟩
