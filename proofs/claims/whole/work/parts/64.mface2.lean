theorem ixm_tab : ∀ q, q < 127 → ixT q = -1 ∨ 0 ≤ ixT q := by decide +kernel
theorem ixj_tab : ∀ q, q < 127 → 0 ≤ ixT q → q = (if ix (ixT q) = 0 then 111 else if ix (ixT q) = 1 then 100 else if ix (ixT q) = 2 then 110 else if ix (ixT q) = 3 then 116 else 103) := by decide +kernel
theorem ixj {a b : Nat} (ha : a < 127) (hb : b < 127) (h1 : 0 ≤ ixT a) (h2 : 0 ≤ ixT b) (h : ix (ixT a) = ix (ixT b)) : a = b := by
  rw [ixj_tab a ha h1, ixj_tab b hb h2, h]
theorem bn_any {pg : Nat → Nat} (c : Nat) : ∀ k, (bnF pg k).testBit c = true ↔ ∃ j, j < k ∧ ix (ixT (pg j)) = c
  | 0 => by
    constructor
    · intro h
      have : (0 : Nat).testBit c = true := h
      rw [Nat.zero_testBit] at this; cases this
    · rintro ⟨j, h, -⟩; omega
  | k + 1 => by
    show (bnF pg k ||| 2 ^ ix (ixT (pg k))).testBit c = true ↔ _
    rw [Nat.testBit_or, Bool.or_eq_true, bn_any c k, Nat.testBit_two_pow, decide_eq_true_eq]
    constructor
    · rintro (⟨j, h1, h2⟩ | h)
      · exact ⟨j, by omega, h2⟩
      · exact ⟨k, by omega, h⟩
    · rintro ⟨j, h1, h2⟩
      by_cases z : j = k
      · subst z; exact Or.inr h2
      · exact Or.inl ⟨j, by omega, h2⟩
theorem bn_bit {pg : Nat → Nat} {k : Nat} (hk : ∀ j, j ≤ k → pg j < 127) (hx : ∀ j, j ≤ k → 0 ≤ ixT (pg j)) : (bnF pg k).testBit (ix (ixT (pg k))) = !allB (fun j => pg j != pg k) k 0 := by
  apply Bool.eq_iff_iff.mpr
  rw [bn_any, Bool.not_eq_true']
  constructor
  · rintro ⟨j, h1, h2⟩
    cases z : allB (fun j => pg j != pg k) k 0
    · rfl
    · have := allB_e _ _ z j (by omega) (by omega)
      have e := ixj (hk j (by omega)) (hk k (by omega)) (hx j (by omega)) (hx k (by omega)) h2
      rw [e] at this
      simp at this
  · intro z
    by_cases q : ∃ j, j < k ∧ ix (ixT (pg j)) = ix (ixT (pg k))
    · exact q
    · exfalso
      have : allB (fun j => pg j != pg k) k 0 = true := allB_i _ _ (fun j h1 h2 => by
        show (pg j != pg k) = true
        rw [bne_iff_ne]
        intro e
        exact q ⟨j, by omega, by rw [e]⟩)
      rw [z] at this; cases this
def O21 (μ μ2 : Mm) : Prop := ∀ c i s j, ¬ (c = 8 ∧ i = 0 ∧ s = 0 ∧ j = 21) → μ2 c i s j = μ c i s j
theorem lp_fot {l : Launch} {K : KK} {d : Nat} {P : Option AV → Mm → Prop} {μ0 : Mm} {L : Nat} {pg : Nat → Nat} (hP : MPg μ0 L pg) (hL : L ≤ 22) (hpg : ∀ j, j < L → pg j < 127) (hd1 : 1 ≤ d) : ∀ (r k : Nat) (μ : Mm) (y2 : Option AV), k + r = L → k ≤ 4 → (∀ j, j < k → 0 ≤ ixT (pg j)) → O21 μ0 μ → μ 8 0 0 21 = nI (bnF pg k) → (∀ μ2, O21 μ0 μ2 → μ2 8 0 0 21 = nI (bnF pg (fsF (tOK pg) r k)) → P (some (vI (nI (fsF (tOK pg) r k)))) μ2) → Go l K d 112 7 [some (vR 8 0 0), some (vI (nI k)), y2] [] μ P := by
  intro r
  induction r with
  | zero =>
    intro k μ y2 hk h4 hx hO h21 h
    have p0 : μ 8 0 0 19 = nI L := (hO 8 0 0 19 (by omega)).trans hP.1
    refine go_blk [(.iload_n 1, 0, 0, 0), (.aload_n 0, 0, 0, 0), (.getfield 55, 8, 19, 0), (.if_icmp .ge 54, 66, 0, 0)] (by decide +kernel) ?_
    simp only [e_il_1, e_al_0, e_gf_8_19, e_icmp_ge, rd_8_19, e_nil, nol_n, nol_I, nol_R, rsum_0, rsum_I, rsum_R, ps_s, ps_n, true_and, and_true, Nat.reduceAdd, Nat.reduceLeDiff, p0]
    refine ⟨fun c12 => ?_, fun c12 => ?_⟩
    · refine go_blk [(.iload_n 1, 0, 0, 0), (.ireturn, 0, 0, 0)] (by decide +kernel) ?_
      simp only [e_il_1, e_iret0, e_nil, nol_n, nol_I, nol_R, rsum_0, rsum_I, rsum_R, ps_s, ps_n, true_and, and_true, Nat.reduceAdd, Nat.reduceLeDiff, p0]
      exact h μ hO h21
    · exact absurd (nI_le (by omega) (by omega)) c12
  | succ r ih =>
    intro k μ y2 hk h4 hx hO h21 h
    have p0 : μ 8 0 0 19 = nI L := (hO 8 0 0 19 (by omega)).trans hP.1
    have p1 : μ 8 0 21 k = nI (pg k) := (hO 8 0 21 k (by omega)).trans (hP.2 k (by omega))
    have v1 : vp_in (nI k) 22 := vin (by omega) (by omega)
    have x1 : ix (nI k) = k := nI_ix (by omega)
    have e17 := lt4 k (by omega)
    have u : fsF (tOK pg) (r + 1) k = if tOK pg k then fsF (tOK pg) r (k + 1) else k := rfl
    rw [u] at h
    have pk := hpg k (by omega)
    have bl := bnF_lt (pg := pg) k (fun j hj => ⟨by have := hpg j (by omega); omega, hx j hj⟩)
    refine go_blk [(.iload_n 1, 0, 0, 0), (.aload_n 0, 0, 0, 0), (.getfield 55, 8, 19, 0), (.if_icmp .ge 54, 66, 0, 0)] (by decide +kernel) ?_
    simp only [e_il_1, e_al_0, e_gf_8_19, e_icmp_ge, rd_8_19, e_nil, nol_n, nol_I, nol_R, rsum_0, rsum_I, rsum_R, ps_s, ps_n, true_and, and_true, Nat.reduceAdd, Nat.reduceLeDiff, p0, p1, v1, x1, e17, hd1, bi_0]
    refine ⟨fun c12 => ?_, fun c12 => ?_⟩
    · exact absurd c12 (nI_ge (by omega) (by omega))
    · refine go_blk [(.iload_n 1, 0, 0, 0), (.iconst 4, 0, 0, 0), (.if_icmp .ge 49, 66, 0, 0)] (by decide +kernel) ?_
      simp only [e_il_1, e_ic_4, e_icmp_ge, e_nil, nol_n, nol_I, nol_R, rsum_0, rsum_I, rsum_R, ps_s, ps_n, true_and, and_true, Nat.reduceAdd, Nat.reduceLeDiff, p0, p1, v1, x1, e17, hd1, bi_0]
      refine ⟨fun c17 => ?_, fun c17 => ?_⟩
      · have tk : tOK pg k = false := by unfold tOK; rw [decide_eq_false c17]; simp
        rw [tk, if_neg (by decide)] at h
        refine go_blk [(.iload_n 1, 0, 0, 0), (.ireturn, 0, 0, 0)] (by decide +kernel) ?_
        simp only [e_il_1, e_iret0, e_nil, nol_n, nol_I, nol_R, rsum_0, rsum_I, rsum_R, ps_s, ps_n, true_and, and_true, Nat.reduceAdd, Nat.reduceLeDiff, p0, p1, v1, x1, e17, hd1, bi_0]
        exact h μ hO h21
      · have k4 : k < 4 := Classical.not_not.mp c17
        refine go_blk [(.aload_n 0, 0, 0, 0), (.getfield 26, 8, 20, 0), (.iload_n 1, 0, 0, 0), (.baload, 3, 0, 0), (.invokestatic 65, 111, 1, 0)] (by decide +kernel) ?_
        simp only [e_al_0, e_gf_8_20, e_il_1, e_ba, e_ivs_1, rd_8_20, ai_0_4, ai_1_7, ai_2_1, ai_2_2, ai_3_1, ai_4_1, ai_6_3, ai_6_4, ai_6_5, ai_6_6, ai_6_7, ai_6_8, ai_8_5, ai_8_6, ai_8_17, ai_8_21, ai_8_23, ai_8_24, ai_8_27, ai_8_28, ai_8_38, ai_8_39, ai_8_40, e_nil, Nat.reduceLT, nol_n, nol_I, nol_R, rsum_0, rsum_I, rsum_R, ps_s, ps_n, true_and, and_true, Nat.reduceAdd, Nat.reduceLeDiff, p0, p1, v1, x1, e17, hd1, bi_0]
        refine okm_art pk ?_
        refine go_blk [(.istore_n 2, 0, 0, 0), (.iload_n 2, 0, 0, 0), (.iconst (-1), 0, 0, 0), (.if_icmp .eq 14, 46, 0, 0)] (by decide +kernel) ?_
        simp only [e_is_2n, e_is_2I, e_is_2R, e_il_2, e_ic_m1, e_icmp_eq, e_nil, nol_n, nol_I, nol_R, rsum_0, rsum_I, rsum_R, ps_s, ps_n, true_and, and_true, Nat.reduceAdd, Nat.reduceLeDiff, p0, p1, v1, x1, e17, hd1, bi_0]
        refine ⟨fun c32 => ?_, fun c32 => ?_⟩
        · have tk : tOK pg k = false := by unfold tOK; rw [show decide (0 ≤ ixT (pg k)) = false from decide_eq_false (by rw [c32]; decide)]; simp
          rw [tk, if_neg (by decide)] at h
          refine go_blk [(.iload_n 1, 0, 0, 0), (.ireturn, 0, 0, 0)] (by decide +kernel) ?_
          simp only [e_il_1, e_iret0, e_nil, nol_n, nol_I, nol_R, rsum_0, rsum_I, rsum_R, ps_s, ps_n, true_and, and_true, Nat.reduceAdd, Nat.reduceLeDiff, p0, p1, v1, x1, e17, hd1, bi_0]
          exact h μ hO h21
        · have ix0 : 0 ≤ ixT (pg k) := (ixm_tab _ pk).resolve_left c32
          obtain ⟨ix1, ix2⟩ := ixT_tab (pg k) (by omega) ix0
          have hx' : ∀ j, j ≤ k → 0 ≤ ixT (pg j) := fun j hj => by
            by_cases z : j = k
            · subst z; exact ix0
            · exact hx j (by omega)
          have bb := bn_bit (pg := pg) (k := k) (fun j hj => hpg j (by omega)) hx'
          have tk : tOK pg k = allB (fun j => pg j != pg k) k 0 := by unfold tOK; rw [decide_eq_true k4, decide_eq_true ix0]; rfl
          rw [tk] at h
          generalize hc : ix (ixT (pg k)) = c at *
          have es := nI_shl (c := c) (by omega)
          rw [ix1]
          refine go_blk [(.aload_n 0, 0, 0, 0), (.getfield 62, 8, 21, 0), (.iload_n 2, 0, 0, 0), (.invokestatic 69, 104, 2, 0)] (by decide +kernel) ?_
          simp only [e_al_0, e_gf_8_21, e_il_2, e_ivs_2, rd_8_21, e_nil, Nat.reduceLT, nol_n, nol_I, nol_R, rsum_0, rsum_I, rsum_R, ps_s, ps_n, true_and, and_true, Nat.reduceAdd, Nat.reduceLeDiff, p0, p1, v1, x1, e17, hd1, bi_0, h21, es, nI_or]
          refine okm_has (by omega) (by omega) ?_
          refine go_blk [(.ifCond .eq 5, 48, 0, 0)] (by decide +kernel) ?_
          simp only [e_if_eq, e_nil, nol_n, nol_I, nol_R, rsum_0, rsum_I, rsum_R, ps_s, ps_n, true_and, and_true, Nat.reduceAdd, Nat.reduceLeDiff, p0, p1, v1, x1, e17, hd1, bi_0, h21, es, nI_or]
          refine ⟨fun c43 => ?_, fun c43 => ?_⟩
          · rw [c43] at bb
            have ab : allB (fun j => pg j != pg k) k 0 = true := by simpa using bb.symm
            rw [ab, if_pos rfl] at h
            refine go_blk [(.aload_n 0, 0, 0, 0), (.dup, 0, 0, 0), (.getfield 62, 8, 21, 0), (.iconst 1, 0, 0, 0), (.iload_n 2, 0, 0, 0), (.ishl, 0, 0, 0), (.ior, 0, 0, 0), (.putfield 62, 8, 21, 0)] (by decide +kernel) ?_
            simp only [e_al_0, e_dupI, e_dupR, e_gf_8_21, e_ic_1, e_il_2, e_ishl, e_ior, e_pf_8_21, rd_8_21, e_nil, nol_n, nol_I, nol_R, rsum_0, rsum_I, rsum_R, ps_s, ps_n, true_and, and_true, Nat.reduceAdd, Nat.reduceLeDiff, p0, p1, v1, x1, e17, hd1, bi_0, h21, es, nI_or]
            refine go_blk [(.iinc 1 1, 0, 0, 0), (.goto (-56), 7, 0, 0)] (by decide +kernel) ?_
            simp only [e_inc_1_1n, e_inc_1_1I, e_inc_1_1R, e_goto, e_nil, nol_n, nol_I, nol_R, rsum_0, rsum_I, rsum_R, ps_s, ps_n, true_and, and_true, Nat.reduceAdd, Nat.reduceLeDiff, p0, p1, v1, x1, e17, hd1, bi_0, h21, es, nI_or]
            rw [nI_1]
            refine ih (k + 1) _ _ (by omega) (by omega) (fun j hj => hx' j (by omega)) (fun c' i s j hc' => (up_ne (by omega)).trans (hO c' i s j hc')) ?_ h
            rw [up_self]
            show _ = nI (bnF pg k ||| 2 ^ ix (ixT (pg k)))
            rw [hc]
          · rw [eq_true_of_ne_false c43] at bb
            have ab : allB (fun j => pg j != pg k) k 0 = false := by simpa using bb.symm
            rw [ab, if_neg (by decide)] at h
            refine go_blk [(.iload_n 1, 0, 0, 0), (.ireturn, 0, 0, 0)] (by decide +kernel) ?_
            simp only [e_il_1, e_iret0, e_nil, nol_n, nol_I, nol_R, rsum_0, rsum_I, rsum_R, ps_s, ps_n, true_and, and_true, Nat.reduceAdd, Nat.reduceLeDiff, p0, p1, v1, x1, e17, hd1, bi_0, h21, es, nI_or]
            exact h μ hO h21
theorem okm_fot {l : Launch} {K : KK} {d : Nat} {μ : Mm} {P : Option AV → Mm → Prop} {L : Nat} {pg : Nat → Nat} (hP : MPg μ L pg) (hL : L ≤ 22) (hpg : ∀ j, j < L → pg j < 127) (hd1 : 1 ≤ d) (h : ∀ μ2, O21 μ μ2 → μ2 8 0 0 21 = nI (bnF pg (fsF (tOK pg) L 0)) → P (some (vI (nI (fsF (tOK pg) L 0)))) μ2) : Ok l K d 112 [vR 8 0 0] μ P := by
  refine ok_go 3 (by decide +kernel) [some (vR 8 0 0), none, none] rfl (Nat.le_of_ble_eq_true rfl) ?_
  refine go_blk [(.iconst 0, 0, 0, 0), (.istore_n 1, 0, 0, 0), (.aload_n 0, 0, 0, 0), (.iconst 0, 0, 0, 0), (.putfield 62, 8, 21, 0)] (by decide +kernel) ?_
  simp only [e_ic_0, e_is_1n, e_is_1I, e_is_1R, e_al_0, e_pf_8_21, e_nil, nol_n, nol_I, nol_R, rsum_0, rsum_I, rsum_R, ps_s, ps_n, true_and, and_true, Nat.reduceAdd, Nat.reduceLeDiff]
  exact lp_fot hP hL hpg hd1 L 0 _ none (by omega) (by omega) (fun j hj => by omega) (fun c i s j hc => up_ne hc) (up_self _ _ _ _ _ _) h
theorem pop_set {x a : Nat} (ha : a < 15) (h : x.testBit a = false) : pop (x ||| 2 ^ a) = pop x + 1 := by
  have one : ∀ a, a < 15 → cntB (fun i => decide (i = a)) 15 0 = 1 := by decide +kernel
  unfold pop
  rw [popF_cnt, popF_cnt, cnt_two (g := fun i => x.testBit i) (h := fun i => decide (i = a)), one a ha]
  intro i _ _
  rw [Nat.testBit_or, Nat.testBit_two_pow]
  by_cases z : i = a
  · subst z
    left
    rw [h]
    exact ⟨by simp, Or.inr ⟨rfl, by simp⟩⟩
  · have z2 : ¬ a = i := fun y => z y.symm
    cases q : x.testBit i
    · right; simp [z, z2]
    · left; simp [z, z2]
theorem pop_bn {pg : Nat → Nat} {L : Nat} (hpg : ∀ j, j < L → pg j < 127) (hx : ∀ j, j < L → tOK pg j = true) : ∀ k, k ≤ L → pop (bnF pg k) = k
  | 0, _ => by
    show pop 0 = 0
    decide
  | k + 1, h => by
    have hx2 : ∀ j, j < L → 0 ≤ ixT (pg j) := fun j hj => by
      have z := hx j hj
      unfold tOK at z
      rw [Bool.and_eq_true, Bool.and_eq_true, decide_eq_true_eq, decide_eq_true_eq] at z
      exact z.1.2
    have z := hx k (by omega)
    unfold tOK at z
    rw [Bool.and_eq_true] at z
    have bb := bn_bit (pg := pg) (k := k) (fun j hj => hpg j (by omega)) (fun j hj => hx2 j (by omega))
    rw [z.2] at bb
    show pop (bnF pg k ||| 2 ^ ix (ixT (pg k))) = k + 1
    rw [pop_set (by have := (ixT_tab (pg k) (by have := hpg k (by omega); omega) (hx2 k (by omega))).2; omega) bb, pop_bn hpg hx k (by omega)]
theorem xm_letter {l : Launch} {K : KK} {d : Nat} {μ : Mm} {P : Option AV → Mm → Prop} {N : Nat} {S : SS} {x : Int32} (hV : Inv N S) (hR : RM μ S) (hd1 : 14 ≤ d) (h : ∀ μ2, RM μ2 ((aLetter x S).2) → OffX μ μ2 → P (some (vI ((aLetter x S).1))) μ2) : Ok l K d 107 [vR 8 0 0, vI x] μ P := by
  refine ok_go 2 (by decide +kernel) [some (vR 8 0 0), some (vI x)] rfl (Nat.le_of_ble_eq_true rfl) ?_
  have hR0 := hR
  have hV0 := hV
  obtain ⟨⟨L, pg⟩, ⟨laid, op⟩, t, ⟨f, cs⟩, ⟨im, t2, f2, cs2⟩, q, w, b⟩ := S
  obtain ⟨⟨rP, r0, r2⟩, ⟨rM, rG⟩, ⟨rK, rK2⟩, ⟨r1, r17, r18⟩⟩ := hR
  obtain ⟨⟨iL, iP⟩, ⟨iO, iO2⟩, ⟨iT, iF⟩, iK, ⟨iq, iw, ib⟩⟩ := hV
  have hd2 : 1 ≤ d := by omega
  have rL := rP.1
  have e20 : (nI L = 22) = (L = 22) := propext (nI_eq (b := 22) (by omega) (by omega))
  refine go_blk [(.iload_n 1, 0, 0, 0), (.bipush 32, 0, 0, 0), (.bipush 126, 0, 0, 0), (.invokestatic 51, 103, 3, 0)] (by decide +kernel) ?_
  simp only [e_il_1, e_bp_32, e_bp_126, e_ivs_3, e_nil, Nat.reduceLT, nol_n, nol_I, nol_R, rsum_0, rsum_I, rsum_R, ps_s, ps_n, true_and, and_true, Nat.reduceAdd, Nat.reduceLeDiff, hd2, bi_0, rL, e20]
  refine okm_within ?_
  refine go_blk [(.ifCond .ne 6, 14, 0, 0)] (by decide +kernel) ?_
  simp only [e_if_ne, e_nil, nol_n, nol_I, nol_R, rsum_0, rsum_I, rsum_R, ps_s, ps_n, true_and, and_true, Nat.reduceAdd, Nat.reduceLeDiff, hd2, bi_0, rL, e20]
  refine ⟨fun c8 => ?_, fun c8 => ?_⟩
  · have wi := eq_true_of_ne_false c8
    rw [Bool.and_eq_true, Bool.not_eq_true', Bool.not_eq_true', decide_eq_false_iff_not, decide_eq_false_iff_not] at wi
    obtain ⟨v, hv, rfl⟩ := nI_of2 (n := 126) rfl (fun z => wi.1 (Int32.lt_of_lt_of_le z (by decide))) (nlt32 wi.2)
    have nx : ¬ (nI v < 32 ∨ 126 < nI v) := fun z => z.elim wi.1 wi.2
    have e8 := (ix_ok v (by omega)).2
    have e9 : vp_nar .byte (nI v) = nI v := by
      have z := pk_vb (nI v)
      rw [e8] at z
      exact z
    refine go_blk [(.aload_n 0, 0, 0, 0), (.getfield 55, 8, 19, 0), (.bipush 22, 0, 0, 0), (.if_icmp .ne 6, 26, 0, 0)] (by decide +kernel) ?_
    simp only [e_al_0, e_gf_8_19, e_bp_22, e_icmp_ne, rd_8_19, e_nil, nol_n, nol_I, nol_R, rsum_0, rsum_I, rsum_R, ps_s, ps_n, true_and, and_true, Nat.reduceAdd, Nat.reduceLeDiff, hd2, bi_0, rL, e20, e8, e9]
    refine ⟨fun c20 => ?_, fun c20 => ?_⟩
    · have L22 : L < 22 := by omega
      have v1 : vp_in (nI L) 22 := vin L22 (by omega)
      have x1 : ix (nI L) = L := nI_ix (by omega)
      have un : up μ 8 0 21 L (nI v) 8 0 0 19 = nI L := (up_ne (by omega)).trans rL
      have eL : nI L + 1 = nI (L + 1) := nI_1 L
      have us : ∀ m, up m 8 0 0 19 (nI (L + 1)) 8 0 0 19 = nI (L + 1) := fun m => up_self _ _ _ _ _ _
      have e : aLetter (nI v) ((L, pg), (laid, op), t, (f, cs), (im, t2, f2, cs2), (q, w, b)) = (nI (L + 1), ((L + 1, fun j => if j = L then ix (nI v) else pg j), (laid, op), t, (f, cs), (im, t2, f2, cs2), (q, w, b))) := by
        show (if _ then _ else if _ then _ else _) = _
        rw [if_neg nx, if_neg (by omega)]
      rw [e] at h
      refine go_blk [(.aload_n 0, 0, 0, 0), (.getfield 26, 8, 20, 0), (.aload_n 0, 0, 0, 0), (.getfield 55, 8, 19, 0), (.iload_n 1, 0, 0, 0)] (by decide +kernel) ?_
      simp only [e_al_0, e_gf_8_20, e_gf_8_19, e_il_1, rd_8_20, rd_8_19, e_nil, nol_n, nol_I, nol_R, rsum_0, rsum_I, rsum_R, ps_s, ps_n, true_and, and_true, Nat.reduceAdd, Nat.reduceLeDiff, hd2, bi_0, rL, e20, e8, e9, v1, x1, un, eL, us]
      refine go_blk [(.i2b, 0, 0, 0)] (by decide +kernel) ?_
      simp only [e_i2b, e_nil, nol_n, nol_I, nol_R, rsum_0, rsum_I, rsum_R, ps_s, ps_n, true_and, and_true, Nat.reduceAdd, Nat.reduceLeDiff, hd2, bi_0, rL, e20, e8, e9, v1, x1, un, eL, us]
      refine go_blk [(.bastore, 3, 0, 0)] (by decide +kernel) ?_
      simp only [e_bst, ai_0_4, ai_1_7, ai_2_1, ai_2_2, ai_3_1, ai_4_1, ai_6_3, ai_6_4, ai_6_5, ai_6_6, ai_6_7, ai_6_8, ai_8_5, ai_8_6, ai_8_17, ai_8_21, ai_8_23, ai_8_24, ai_8_27, ai_8_28, ai_8_38, ai_8_39, ai_8_40, e_nil, nol_n, nol_I, nol_R, rsum_0, rsum_I, rsum_R, ps_s, ps_n, true_and, and_true, Nat.reduceAdd, Nat.reduceLeDiff, hd2, bi_0, rL, e20, e8, e9, v1, x1, un, eL, us]
      refine go_blk [(.aload_n 0, 0, 0, 0), (.dup, 0, 0, 0), (.getfield 55, 8, 19, 0), (.iconst 1, 0, 0, 0), (.iadd, 0, 0, 0), (.putfield 55, 8, 19, 0)] (by decide +kernel) ?_
      simp only [e_al_0, e_dupI, e_dupR, e_gf_8_19, e_ic_1, e_iadd, e_pf_8_19, rd_8_19, e_nil, nol_n, nol_I, nol_R, rsum_0, rsum_I, rsum_R, ps_s, ps_n, true_and, and_true, Nat.reduceAdd, Nat.reduceLeDiff, hd2, bi_0, rL, e20, e8, e9, v1, x1, un, eL, us]
      refine go_blk [(.aload_n 0, 0, 0, 0), (.getfield 55, 8, 19, 0), (.ireturn, 0, 0, 0)] (by decide +kernel) ?_
      simp only [e_al_0, e_gf_8_19, e_iret0, rd_8_19, e_nil, nol_n, nol_I, nol_R, rsum_0, rsum_I, rsum_R, ps_s, ps_n, true_and, and_true, Nat.reduceAdd, Nat.reduceLeDiff, hd2, bi_0, rL, e20, e8, e9, v1, x1, un, eL, us]
      have z2 := rm_pg (L' := L + 1) (pg' := fun j => if j = L then ix (nI v) else pg j) (μ2 := up (up μ 8 0 21 L (nI v)) 8 0 0 19 (nI (L + 1))) hR0 (fun c i s j hc => by rw [up_ne (by omega), up_ne (by omega)]) ⟨up_self _ _ _ _ _ _, fun j hj => by
        rw [up_ne (by omega)]
        show _ = nI (if j = L then ix (nI v) else pg j)
        by_cases z : j = L
        · subst z
          rw [up_self, if_pos rfl, nI_ix (by omega)]
        · rw [up_ne (by omega), if_neg z]
          exact rP.2 j (by omega)⟩
      exact h _ z2.1 z2.2
    · have e : aLetter (nI v) ((L, pg), (laid, op), t, (f, cs), (im, t2, f2, cs2), (q, w, b)) = (-104, ((L, pg), (laid, op), t, (f, cs), (im, t2, f2, cs2), (q, w, b))) := by
        show (if _ then _ else if _ then _ else _) = _
        rw [if_neg nx, if_pos (by omega)]
      rw [e] at h
      refine go_blk [(.bipush (-104), 0, 0, 0), (.ireturn, 0, 0, 0)] (by decide +kernel) ?_
      simp only [e_bp_m104, e_iret0, e_nil, nol_n, nol_I, nol_R, rsum_0, rsum_I, rsum_R, ps_s, ps_n, true_and, and_true, Nat.reduceAdd, Nat.reduceLeDiff, hd2, bi_0, rL, e20, e8, e9]
      exact h μ hR0 (offx_rf μ)
  · have e : aLetter x ((L, pg), (laid, op), t, (f, cs), (im, t2, f2, cs2), (q, w, b)) = (-102, ((L, pg), (laid, op), t, (f, cs), (im, t2, f2, cs2), (q, w, b))) := by
      show (if _ then _ else if _ then _ else _) = _
      rw [if_pos (by
        by_cases a1 : x < 32
        · exact Or.inl a1
        · by_cases a2 : 126 < x
          · exact Or.inr a2
          · rw [decide_eq_false a1, decide_eq_false a2] at c8; cases c8)]
    rw [e] at h
    refine go_blk [(.bipush (-102), 0, 0, 0), (.ireturn, 0, 0, 0)] (by decide +kernel) ?_
    simp only [e_bp_m102, e_iret0, e_nil, nol_n, nol_I, nol_R, rsum_0, rsum_I, rsum_R, ps_s, ps_n, true_and, and_true, Nat.reduceAdd, Nat.reduceLeDiff, hd2, bi_0, rL, e20]
    exact h μ hR0 (offx_rf μ)
theorem xm_blank {l : Launch} {K : KK} {d : Nat} {μ : Mm} {P : Option AV → Mm → Prop} {N : Nat} {S : SS} (hV : Inv N S) (hR : RM μ S) (hd1 : 14 ≤ d) (h : ∀ μ2, RM μ2 ((aBlank S).2) → OffX μ μ2 → P (some (vI ((aBlank S).1))) μ2) : Ok l K d 108 [vR 8 0 0] μ P := by
  refine ok_go 2 (by decide +kernel) [some (vR 8 0 0), none] rfl (Nat.le_of_ble_eq_true rfl) ?_
  have hR0 := hR
  have hV0 := hV
  obtain ⟨⟨L, pg⟩, ⟨laid, op⟩, t, ⟨f, cs⟩, ⟨im, t2, f2, cs2⟩, q, w, b⟩ := S
  obtain ⟨⟨rP, r0, r2⟩, ⟨rM, rG⟩, ⟨rK, rK2⟩, ⟨r1, r17, r18⟩⟩ := hR
  obtain ⟨⟨iL, iP⟩, ⟨iO, iO2⟩, ⟨iT, iF⟩, iK, ⟨iq, iw, ib⟩⟩ := hV
  have hd2 : 1 ≤ d := by omega
  have rL := rP.1
  refine go_blk [(.aload_n 0, 0, 0, 0), (.getfield 55, 8, 19, 0), (.istore_n 1, 0, 0, 0), (.aload_n 0, 0, 0, 0), (.iconst 0, 0, 0, 0), (.putfield 55, 8, 19, 0)] (by decide +kernel) ?_
  simp only [e_al_0, e_gf_8_19, e_is_1n, e_is_1I, e_is_1R, e_ic_0, e_pf_8_19, rd_8_19, e_nil, nol_n, nol_I, nol_R, rsum_0, rsum_I, rsum_R, ps_s, ps_n, true_and, and_true, Nat.reduceAdd, Nat.reduceLeDiff, rL]
  refine go_blk [(.iload_n 1, 0, 0, 0), (.ireturn, 0, 0, 0)] (by decide +kernel) ?_
  simp only [e_il_1, e_iret0, e_nil, nol_n, nol_I, nol_R, rsum_0, rsum_I, rsum_R, ps_s, ps_n, true_and, and_true, Nat.reduceAdd, Nat.reduceLeDiff, rL]
  have z2 := rm_pg (L' := 0) (pg' := pg) (μ2 := up μ 8 0 0 19 0) hR0 (fun c i s j hc => by rw [up_ne (by omega)]) ⟨up_self _ _ _ _ _ _, fun j hj => by omega⟩
  exact h _ z2.1 z2.2
theorem xm_fault {l : Launch} {K : KK} {d : Nat} {μ : Mm} {P : Option AV → Mm → Prop} {N : Nat} {S : SS} {x : Int32} (hV : Inv N S) (hR : RM μ S) (hd1 : 14 ≤ d) (h : ∀ μ2, RM μ2 (S) → OffX μ μ2 → P (some (vI (vFault x S))) μ2) : Ok l K d 113 [vR 8 0 0, vI x] μ P := by
  refine ok_go 2 (by decide +kernel) [some (vR 8 0 0), some (vI x)] rfl (Nat.le_of_ble_eq_true rfl) ?_
  have hR0 := hR
  have hV0 := hV
  obtain ⟨⟨L, pg⟩, ⟨laid, op⟩, t, ⟨f, cs⟩, ⟨im, t2, f2, cs2⟩, q, w, b⟩ := S
  obtain ⟨⟨rP, r0, r2⟩, ⟨rM, rG⟩, ⟨rK, rK2⟩, ⟨r1, r17, r18⟩⟩ := hR
  obtain ⟨⟨iL, iP⟩, ⟨iO, iO2⟩, ⟨iT, iF⟩, iK, ⟨iq, iw, ib⟩⟩ := hV
  have hd2 : 1 ≤ d := by omega
  refine go_blk [(.iload_n 1, 0, 0, 0), (.iconst 0, 0, 0, 0), (.iconst 1, 0, 0, 0), (.invokestatic 51, 103, 3, 0)] (by decide +kernel) ?_
  simp only [e_il_1, e_ic_0, e_ic_1, e_ivs_3, e_nil, Nat.reduceLT, nol_n, nol_I, nol_R, rsum_0, rsum_I, rsum_R, ps_s, ps_n, true_and, and_true, Nat.reduceAdd, Nat.reduceLeDiff, hd2, bi_0]
  refine okm_within ?_
  refine go_blk [(.ifCond .ne 6, 12, 0, 0)] (by decide +kernel) ?_
  simp only [e_if_ne, e_nil, nol_n, nol_I, nol_R, rsum_0, rsum_I, rsum_R, ps_s, ps_n, true_and, and_true, Nat.reduceAdd, Nat.reduceLeDiff, hd2, bi_0]
  refine ⟨fun c6 => ?_, fun c6 => ?_⟩
  · have x01 : x = 0 ∨ x = 1 := by
      have z := eq_true_of_ne_false c6
      rw [Bool.and_eq_true, Bool.not_eq_true', Bool.not_eq_true', decide_eq_false_iff_not, decide_eq_false_iff_not] at z
      obtain ⟨v, hv, rfl⟩ := nI_of2 (n := 1) rfl z.1 (nlt32 z.2)
      rcases (show v = 0 ∨ v = 1 by omega) with rfl | rfl
      · exact Or.inl rfl
      · exact Or.inr rfl
    refine go_blk [(.iload_n 1, 0, 0, 0), (.ifCond .ne 10, 23, 0, 0)] (by decide +kernel) ?_
    simp only [e_il_1, e_if_ne, e_nil, nol_n, nol_I, nol_R, rsum_0, rsum_I, rsum_R, ps_s, ps_n, true_and, and_true, Nat.reduceAdd, Nat.reduceLeDiff, hd2, bi_0]
    refine ⟨fun c13 => ?_, fun c13 => ?_⟩
    · have x1 := x01.resolve_left c13
      subst x1
      refine go_blk [(.aload_n 0, 0, 0, 0), (.invokevirtual 77, 112, 0, 8)] (by decide +kernel) ?_
      simp only [e_al_0, e_iv_8_0, e_nil, nol_n, nol_I, nol_R, rsum_0, rsum_I, rsum_R, ps_s, ps_n, true_and, and_true, Nat.reduceAdd, Nat.reduceLeDiff, hd2, bi_0]
      refine okm_fot rP iL iP (by omega) (fun μ1 o1 a1 => ?_)
      refine go_blk [(.ireturn, 0, 0, 0)] (by decide +kernel) ?_
      simp only [e_iret0, e_nil, nol_n, nol_I, nol_R, rsum_0, rsum_I, rsum_R, ps_s, ps_n, true_and, and_true, Nat.reduceAdd, Nat.reduceLeDiff, hd2, bi_0]
      have z2 := rm_scr hR0 (fun c i s j hc => o1 c i s j (fun z => hc ⟨z.1, z.2.1, Or.inl ⟨z.2.2.1, by omega⟩⟩)) (mr_off rM (fun s j hs => o1 8 0 s j (by omega)))
      exact h μ1 z2.1 z2.2
    · subst c13
      refine go_blk [(.aload_n 0, 0, 0, 0), (.invokevirtual 73, 110, 0, 8)] (by decide +kernel) ?_
      simp only [e_al_0, e_iv_8_0, e_nil, nol_n, nol_I, nol_R, rsum_0, rsum_I, rsum_R, ps_s, ps_n, true_and, and_true, Nat.reduceAdd, Nat.reduceLeDiff, hd2, bi_0]
      refine okm_foc rP iL iP (by omega) ?_
      refine go_blk [(.goto 7, 27, 0, 0), (.ireturn, 0, 0, 0)] (by decide +kernel) ?_
      simp only [e_goto, e_iret0, e_nil, nol_n, nol_I, nol_R, rsum_0, rsum_I, rsum_R, ps_s, ps_n, true_and, and_true, Nat.reduceAdd, Nat.reduceLeDiff, hd2, bi_0]
      exact h μ hR0 (offx_rf μ)
  · have e : vFault x ((L, pg), (laid, op), t, (f, cs), (im, t2, f2, cs2), (q, w, b)) = -102 := by
      show (if _ then _ else if _ then _ else _) = _
      rw [if_neg (fun z => by rw [z] at c6; revert c6; decide), if_neg (fun z => by rw [z] at c6; revert c6; decide)]
    rw [e] at h
    refine go_blk [(.bipush (-102), 0, 0, 0), (.ireturn, 0, 0, 0)] (by decide +kernel) ?_
    simp only [e_bp_m102, e_iret0, e_nil, nol_n, nol_I, nol_R, rsum_0, rsum_I, rsum_R, ps_s, ps_n, true_and, and_true, Nat.reduceAdd, Nat.reduceLeDiff, hd2, bi_0]
    exact h μ hR0 (offx_rf μ)
