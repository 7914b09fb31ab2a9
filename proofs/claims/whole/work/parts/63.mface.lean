theorem offx_rf (μ : Mm) : OffX μ μ := fun _ _ => rfl
def Scr (s j : Nat) : Prop := (s = 0 ∧ ((6 ≤ j ∧ j ≤ 10) ∨ j = 21 ∨ j = 24 ∨ j = 25 ∨ j = 28 ∨ j = 40)) ∨ s = 99 ∨ s = 23 ∨ s = 24 ∨ s = 27 ∨ s = 28
theorem rm_gm {μ μ2 : Mm} {P : Nat × (Nat → Nat)} {C : Bool × Nat} {t t' : TS} {f f' cs cs' : Nat → Int32} {I : Bool × TS × (Nat → Int32) × (Nat → Int32)} {n : Nat × Nat × Nat} (hR : RM μ (P, C, t, (f, cs), I, n)) (o : ∀ c i s j, ¬ (c = 8 ∧ i = 0 ∧ (Scr s j ∨ (s = 0 ∧ (j = 3 ∨ (11 ≤ j ∧ j ≤ 15))) ∨ s = 5 ∨ s = 6 ∨ s = 17)) → μ2 c i s j = μ c i s j) (hM : MRep μ2 t') (hG : GmR μ2 f' cs') : RM μ2 (P, C, t', (f', cs'), I, n) ∧ OffX μ μ2 := by
  obtain ⟨L, pg⟩ := P
  obtain ⟨laid, op⟩ := C
  obtain ⟨im, t2, f2, cs2⟩ := I
  obtain ⟨q, w, b⟩ := n
  obtain ⟨⟨rP, r0, r2⟩, ⟨rM, rG⟩, ⟨rK, rK2⟩, ⟨r1, r17, r18⟩⟩ := hR
  have k0 : ∀ j, (j = 0 ∨ j = 1 ∨ j = 2 ∨ j = 17 ∨ j = 18 ∨ j = 19 ∨ (29 ≤ j ∧ j ≤ 36)) → μ2 8 0 0 j = μ 8 0 0 j := fun j hj => o 8 0 0 j (by unfold Scr; omega)
  have ks : ∀ s j, (s = 21 ∨ s = 38 ∨ s = 39 ∨ s = 40) → μ2 8 0 s j = μ 8 0 s j := fun s j hs => o 8 0 s j (by unfold Scr; omega)
  refine ⟨⟨⟨⟨(k0 19 (by omega)).trans rP.1, fun j hj => (ks 21 j (by omega)).trans (rP.2 j hj)⟩, (k0 0 (by omega)).trans r0, (k0 2 (by omega)).trans r2⟩, ⟨hM, hG⟩, ⟨fun z => ?_, fun z => ?_⟩, ⟨(k0 1 (by omega)).trans r1, (k0 17 (by omega)).trans r17, (k0 18 (by omega)).trans r18⟩⟩, fun c hc => by funext i s j; exact o c i s j (by omega)⟩
  · obtain ⟨⟨a1, a2, a3⟩, ⟨a4, a5, a6, a7, a8⟩, ⟨b1, b2, b3, b4, b5⟩, b6, b7⟩ := rK z
    exact ⟨⟨(k0 29 (by omega)).trans a1, (k0 30 (by omega)).trans a2, (k0 31 (by omega)).trans a3⟩, ⟨(k0 32 (by omega)).trans a4, (k0 33 (by omega)).trans a5, (k0 34 (by omega)).trans a6, (k0 35 (by omega)).trans a7, (k0 36 (by omega)).trans a8⟩, ⟨(ks 38 0 (by omega)).trans b1, (ks 38 1 (by omega)).trans b2, (ks 38 2 (by omega)).trans b3, (ks 38 3 (by omega)).trans b4, (ks 38 4 (by omega)).trans b5⟩, fun j hj => (ks 39 j (by omega)).trans (b6 j hj), fun j hj => (ks 40 j (by omega)).trans (b7 j hj)⟩
  · rcases rK2 z with y | ⟨q', y1, y2⟩
    · exact Or.inl ((k0 29 (by omega)).trans y)
    · exact Or.inr ⟨q', y1, (k0 30 (by omega)).trans y2⟩
theorem gm_off {μ μ2 : Mm} {f cs : Nat → Int32} (h : GmR μ f cs) (e : ∀ j, 11 ≤ j → j ≤ 15 → μ2 8 0 0 j = μ 8 0 0 j) (e2 : ∀ j, μ2 8 0 17 j = μ 8 0 17 j) : GmR μ2 f cs := by
  obtain ⟨⟨a1, a2, a3, a4, a5⟩, a6⟩ := h
  exact ⟨⟨(e 11 (by omega) (by omega)).trans a1, (e 12 (by omega) (by omega)).trans a2, (e 13 (by omega) (by omega)).trans a3, (e 14 (by omega) (by omega)).trans a4, (e 15 (by omega) (by omega)).trans a5⟩, fun j hj => (e2 j).trans (a6 j hj)⟩
theorem rm_scr {μ μ2 : Mm} {P : Nat × (Nat → Nat)} {C : Bool × Nat} {t : TS} {f cs : Nat → Int32} {I : Bool × TS × (Nat → Int32) × (Nat → Int32)} {n : Nat × Nat × Nat} (hR : RM μ (P, C, t, (f, cs), I, n)) (o : ∀ c i s j, ¬ (c = 8 ∧ i = 0 ∧ Scr s j) → μ2 c i s j = μ c i s j) (hM : MRep μ2 t) : RM μ2 (P, C, t, (f, cs), I, n) ∧ OffX μ μ2 := by
  have hR' := hR
  obtain ⟨L, pg⟩ := P
  obtain ⟨laid, op⟩ := C
  obtain ⟨im, t2, f2, cs2⟩ := I
  obtain ⟨q, w, b⟩ := n
  obtain ⟨-, ⟨-, rG⟩, -, -⟩ := hR'
  exact rm_gm hR (fun c i s j hc => o c i s j (fun z => hc ⟨z.1, z.2.1, Or.inl z.2.2⟩)) hM (gm_off rG (fun j h1 h2 => o 8 0 0 j (by unfold Scr; omega)) (fun j => o 8 0 17 j (by unfold Scr; omega)))
theorem rm_pg {μ μ2 : Mm} {L L' : Nat} {pg pg' : Nat → Nat} {r : (Bool × Nat) × TS × ((Nat → Int32) × (Nat → Int32)) × (Bool × TS × (Nat → Int32) × (Nat → Int32)) × (Nat × Nat × Nat)} (hR : RM μ ((L, pg), r)) (o : ∀ c i s j, ¬ (c = 8 ∧ i = 0 ∧ ((s = 0 ∧ (j = 19 ∨ j = 21)) ∨ s = 21)) → μ2 c i s j = μ c i s j) (hp : MPg μ2 L' pg') : RM μ2 ((L', pg'), r) ∧ OffX μ μ2 := by
  obtain ⟨⟨laid, op⟩, t, ⟨f, cs⟩, ⟨im, t2, f2, cs2⟩, q, w, b⟩ := r
  obtain ⟨⟨rP, r0, r2⟩, ⟨rM, rG⟩, ⟨rK, rK2⟩, ⟨r1, r17, r18⟩⟩ := hR
  have k0 : ∀ j, ¬ j = 19 → ¬ j = 21 → μ2 8 0 0 j = μ 8 0 0 j := fun j h1 h2 => o 8 0 0 j (by omega)
  have ks : ∀ s j, ¬ s = 0 → ¬ s = 21 → μ2 8 0 s j = μ 8 0 s j := fun s j h1 h2 => o 8 0 s j (by omega)
  refine ⟨⟨⟨hp, (k0 0 (by omega) (by omega)).trans r0, (k0 2 (by omega) (by omega)).trans r2⟩, ⟨mr_off rM (fun s j hs => o 8 0 s j (by omega)), gm_off rG (fun j h1 h2 => k0 j (by omega) (by omega)) (fun j => ks 17 j (by omega) (by omega))⟩, ⟨fun z => ?_, fun z => ?_⟩, ⟨(k0 1 (by omega) (by omega)).trans r1, (k0 17 (by omega) (by omega)).trans r17, (k0 18 (by omega) (by omega)).trans r18⟩⟩, fun c hc => by funext i s j; exact o c i s j (by omega)⟩
  · obtain ⟨⟨a1, a2, a3⟩, ⟨a4, a5, a6, a7, a8⟩, ⟨b1, b2, b3, b4, b5⟩, b6, b7⟩ := rK z
    exact ⟨⟨(k0 29 (by omega) (by omega)).trans a1, (k0 30 (by omega) (by omega)).trans a2, (k0 31 (by omega) (by omega)).trans a3⟩, ⟨(k0 32 (by omega) (by omega)).trans a4, (k0 33 (by omega) (by omega)).trans a5, (k0 34 (by omega) (by omega)).trans a6, (k0 35 (by omega) (by omega)).trans a7, (k0 36 (by omega) (by omega)).trans a8⟩, ⟨(ks 38 0 (by omega) (by omega)).trans b1, (ks 38 1 (by omega) (by omega)).trans b2, (ks 38 2 (by omega) (by omega)).trans b3, (ks 38 3 (by omega) (by omega)).trans b4, (ks 38 4 (by omega) (by omega)).trans b5⟩, fun j hj => (ks 39 j (by omega) (by omega)).trans (b6 j hj), fun j hj => (ks 40 j (by omega) (by omega)).trans (b7 j hj)⟩
  · rcases rK2 z with y | ⟨q', y1, y2⟩
    · exact Or.inl ((k0 29 (by omega) (by omega)).trans y)
    · exact Or.inr ⟨q', y1, (k0 30 (by omega) (by omega)).trans y2⟩
def gdE (x y : Int32) : Bool := if 17 ≤ x then (if x = 17 then decide (y = 59) else if 20 ≤ x then false else (!decide (y - 48 < 0) && !decide (9 < y - 48))) else (if x - x / 6 * 6 = 5 then decide (y = 47) else (decide (y = 46) || decide (y = 35)))
theorem gd_tab : ∀ k, k < 22 → ∀ c, c < 127 → gdE (nI k) (nI c) = cOK k c := by decide +kernel
theorem okm_good {l : Launch} {K : KK} {d : Nat} {μ : Mm} {P : Option AV → Mm → Prop} {L k : Nat} {pg : Nat → Nat} (hP : MPg μ L pg) (hL : L ≤ 22) (hpg : ∀ j, j < L → pg j < 127) (hk : k < L) (hd1 : 1 ≤ d) (h : P (some (vI (bi (cOK k (pg k))))) μ) : Ok l K d 109 [vR 8 0 0, vI (nI k)] μ P := by
  refine ok_go 3 (by decide +kernel) [some (vR 8 0 0), some (vI (nI k)), none] rfl (Nat.le_of_ble_eq_true rfl) ?_
  rw [← gd_tab k (by omega) (pg k) (hpg k hk)] at h
  have v1 : vp_in (nI k) 22 := vin (by omega) (by omega)
  have x1 : ix (nI k) = k := nI_ix (by omega)
  have p1 := hP.2 k hk
  have n6 : ((6 : Int32) = 0) = False := by decide
  unfold gdE at h
  refine go_blk [(.aload_n 0, 0, 0, 0), (.getfield 26, 8, 20, 0), (.iload_n 1, 0, 0, 0), (.baload, 3, 0, 0), (.istore_n 2, 0, 0, 0), (.iload_n 1, 0, 0, 0), (.bipush 17, 0, 0, 0), (.if_icmp .ge 43, 53, 0, 0)] (by decide +kernel) ?_
  simp only [e_al_0, e_gf_8_20, e_il_1, e_ba, e_is_2n, e_is_2I, e_is_2R, e_bp_17, e_icmp_ge, rd_8_20, ai_0_4, ai_1_7, ai_2_1, ai_2_2, ai_3_1, ai_4_1, ai_6_3, ai_6_4, ai_6_5, ai_6_6, ai_6_7, ai_6_8, ai_8_5, ai_8_6, ai_8_17, ai_8_21, ai_8_23, ai_8_24, ai_8_27, ai_8_28, ai_8_38, ai_8_39, ai_8_40, e_nil, nol_n, nol_I, nol_R, rsum_0, rsum_I, rsum_R, ps_s, ps_n, true_and, and_true, Nat.reduceAdd, Nat.reduceLeDiff, hd1, v1, x1, p1, n6, bi_0, true_implies, false_implies, not_true_eq_false, not_false_eq_true]
  refine ⟨fun c10 => ?_, fun c10 => ?_⟩
  · rw [if_pos c10] at h
    refine go_blk [(.iload_n 1, 0, 0, 0), (.bipush 17, 0, 0, 0), (.if_icmp .ne 17, 73, 0, 0)] (by decide +kernel) ?_
    simp only [e_il_1, e_bp_17, e_icmp_ne, e_nil, nol_n, nol_I, nol_R, rsum_0, rsum_I, rsum_R, ps_s, ps_n, true_and, and_true, Nat.reduceAdd, Nat.reduceLeDiff, hd1, v1, x1, p1, n6, bi_0, true_implies, false_implies, not_true_eq_false, not_false_eq_true]
    refine ⟨fun c56 => ?_, fun c56 => ?_⟩
    · rw [if_neg c56] at h
      refine go_blk [(.iload_n 1, 0, 0, 0), (.bipush 20, 0, 0, 0), (.if_icmp .ge 20, 96, 0, 0)] (by decide +kernel) ?_
      simp only [e_il_1, e_bp_20, e_icmp_ge, e_nil, nol_n, nol_I, nol_R, rsum_0, rsum_I, rsum_R, ps_s, ps_n, true_and, and_true, Nat.reduceAdd, Nat.reduceLeDiff, hd1, v1, x1, p1, n6, bi_0, true_implies, false_implies, not_true_eq_false, not_false_eq_true]
      refine ⟨fun c76 => ?_, fun c76 => ?_⟩
      · rw [if_pos c76] at h
        refine go_blk [(.iconst 0, 0, 0, 0), (.ireturn, 1, 0, 0)] (by decide +kernel) ?_
        simp only [e_ic_0, e_iret1, e_nil, nol_n, nol_I, nol_R, rsum_0, rsum_I, rsum_R, ps_s, ps_n, true_and, and_true, Nat.reduceAdd, Nat.reduceLeDiff, hd1, v1, x1, p1, n6, bi_0, true_implies, false_implies, not_true_eq_false, not_false_eq_true]
        exact ⟨by decide, h⟩
      · rw [if_neg c76] at h
        refine go_blk [(.iload_n 2, 0, 0, 0), (.bipush 48, 0, 0, 0), (.isub, 0, 0, 0), (.iconst 0, 0, 0, 0), (.bipush 9, 0, 0, 0), (.invokestatic 51, 103, 3, 0)] (by decide +kernel) ?_
        simp only [e_il_2, e_bp_48, e_isub, e_ic_0, e_bp_9, e_ivs_3, e_nil, Nat.reduceLT, nol_n, nol_I, nol_R, rsum_0, rsum_I, rsum_R, ps_s, ps_n, true_and, and_true, Nat.reduceAdd, Nat.reduceLeDiff, hd1, v1, x1, p1, n6, bi_0, true_implies, false_implies, not_true_eq_false, not_false_eq_true]
        refine okm_within ?_
        refine go_blk [(.ifCond .eq 7, 96, 0, 0)] (by decide +kernel) ?_
        simp only [e_if_eq, e_nil, nol_n, nol_I, nol_R, rsum_0, rsum_I, rsum_R, ps_s, ps_n, true_and, and_true, Nat.reduceAdd, Nat.reduceLeDiff, hd1, v1, x1, p1, n6, bi_0, true_implies, false_implies, not_true_eq_false, not_false_eq_true]
        refine ⟨fun c89 => ?_, fun c89 => ?_⟩
        · rw [c89] at h
          refine go_blk [(.iconst 0, 0, 0, 0), (.ireturn, 1, 0, 0)] (by decide +kernel) ?_
          simp only [e_ic_0, e_iret1, e_nil, nol_n, nol_I, nol_R, rsum_0, rsum_I, rsum_R, ps_s, ps_n, true_and, and_true, Nat.reduceAdd, Nat.reduceLeDiff, hd1, v1, x1, p1, n6, bi_0, true_implies, false_implies, not_true_eq_false, not_false_eq_true]
          exact ⟨by decide, h⟩
        · rw [eq_true_of_ne_false c89] at h
          refine go_blk [(.iconst 1, 0, 0, 0), (.goto 4, 97, 0, 0), (.ireturn, 1, 0, 0)] (by decide +kernel) ?_
          simp only [e_ic_1, e_goto, e_iret1, e_nil, nol_n, nol_I, nol_R, rsum_0, rsum_I, rsum_R, ps_s, ps_n, true_and, and_true, Nat.reduceAdd, Nat.reduceLeDiff, hd1, v1, x1, p1, n6, bi_0, true_implies, false_implies, not_true_eq_false, not_false_eq_true]
          exact ⟨by decide, h⟩
    · rw [if_pos c56] at h
      refine go_blk [(.iload_n 2, 0, 0, 0), (.bipush 59, 0, 0, 0), (.if_icmp .ne 7, 69, 0, 0)] (by decide +kernel) ?_
      simp only [e_il_2, e_bp_59, e_icmp_ne, e_nil, nol_n, nol_I, nol_R, rsum_0, rsum_I, rsum_R, ps_s, ps_n, true_and, and_true, Nat.reduceAdd, Nat.reduceLeDiff, hd1, v1, x1, p1, n6, bi_0, true_implies, false_implies, not_true_eq_false, not_false_eq_true]
      refine ⟨fun c62 => ?_, fun c62 => ?_⟩
      · rw [decide_eq_false c62] at h
        refine go_blk [(.iconst 0, 0, 0, 0), (.goto 27, 97, 0, 0), (.ireturn, 1, 0, 0)] (by decide +kernel) ?_
        simp only [e_ic_0, e_goto, e_iret1, e_nil, nol_n, nol_I, nol_R, rsum_0, rsum_I, rsum_R, ps_s, ps_n, true_and, and_true, Nat.reduceAdd, Nat.reduceLeDiff, hd1, v1, x1, p1, n6, bi_0, true_implies, false_implies, not_true_eq_false, not_false_eq_true]
        exact ⟨by decide, h⟩
      · rw [decide_eq_true c62] at h
        refine go_blk [(.iconst 1, 0, 0, 0), (.goto 31, 97, 0, 0), (.ireturn, 1, 0, 0)] (by decide +kernel) ?_
        simp only [e_ic_1, e_goto, e_iret1, e_nil, nol_n, nol_I, nol_R, rsum_0, rsum_I, rsum_R, ps_s, ps_n, true_and, and_true, Nat.reduceAdd, Nat.reduceLeDiff, hd1, v1, x1, p1, n6, bi_0, true_implies, false_implies, not_true_eq_false, not_false_eq_true]
        exact ⟨by decide, h⟩
  · rw [if_neg c10] at h
    refine go_blk [(.iload_n 1, 0, 0, 0), (.bipush 6, 0, 0, 0), (.irem, 0, 0, 0), (.iconst 5, 0, 0, 0), (.if_icmp .ne 17, 35, 0, 0)] (by decide +kernel) ?_
    simp only [e_il_1, e_bp_6, e_irem, e_ic_5, e_icmp_ne, e_nil, nol_n, nol_I, nol_R, rsum_0, rsum_I, rsum_R, ps_s, ps_n, true_and, and_true, Nat.reduceAdd, Nat.reduceLeDiff, hd1, v1, x1, p1, n6, bi_0, true_implies, false_implies, not_true_eq_false, not_false_eq_true]
    refine ⟨fun c18 => ?_, fun c18 => ?_⟩
    · rw [if_neg c18] at h
      refine go_blk [(.iload_n 2, 0, 0, 0), (.bipush 46, 0, 0, 0), (.if_icmp .eq 9, 47, 0, 0)] (by decide +kernel) ?_
      simp only [e_il_2, e_bp_46, e_icmp_eq, e_nil, nol_n, nol_I, nol_R, rsum_0, rsum_I, rsum_R, ps_s, ps_n, true_and, and_true, Nat.reduceAdd, Nat.reduceLeDiff, hd1, v1, x1, p1, n6, bi_0, true_implies, false_implies, not_true_eq_false, not_false_eq_true]
      refine ⟨fun c38 => ?_, fun c38 => ?_⟩
      · rw [decide_eq_true c38, Bool.true_or] at h
        refine go_blk [(.iconst 1, 0, 0, 0), (.goto 4, 52, 0, 0), (.ireturn, 1, 0, 0)] (by decide +kernel) ?_
        simp only [e_ic_1, e_goto, e_iret1, e_nil, nol_n, nol_I, nol_R, rsum_0, rsum_I, rsum_R, ps_s, ps_n, true_and, and_true, Nat.reduceAdd, Nat.reduceLeDiff, hd1, v1, x1, p1, n6, bi_0, true_implies, false_implies, not_true_eq_false, not_false_eq_true]
        exact ⟨by decide, h⟩
      · rw [decide_eq_false c38, Bool.false_or] at h
        refine go_blk [(.iload_n 2, 0, 0, 0), (.bipush 35, 0, 0, 0), (.if_icmp .ne 7, 51, 0, 0)] (by decide +kernel) ?_
        simp only [e_il_2, e_bp_35, e_icmp_ne, e_nil, nol_n, nol_I, nol_R, rsum_0, rsum_I, rsum_R, ps_s, ps_n, true_and, and_true, Nat.reduceAdd, Nat.reduceLeDiff, hd1, v1, x1, p1, n6, bi_0, true_implies, false_implies, not_true_eq_false, not_false_eq_true]
        refine ⟨fun c44 => ?_, fun c44 => ?_⟩
        · rw [decide_eq_false c44] at h
          refine go_blk [(.iconst 0, 0, 0, 0), (.ireturn, 1, 0, 0)] (by decide +kernel) ?_
          simp only [e_ic_0, e_iret1, e_nil, nol_n, nol_I, nol_R, rsum_0, rsum_I, rsum_R, ps_s, ps_n, true_and, and_true, Nat.reduceAdd, Nat.reduceLeDiff, hd1, v1, x1, p1, n6, bi_0, true_implies, false_implies, not_true_eq_false, not_false_eq_true]
          exact ⟨by decide, h⟩
        · rw [decide_eq_true c44] at h
          refine go_blk [(.iconst 1, 0, 0, 0), (.goto 4, 52, 0, 0), (.ireturn, 1, 0, 0)] (by decide +kernel) ?_
          simp only [e_ic_1, e_goto, e_iret1, e_nil, nol_n, nol_I, nol_R, rsum_0, rsum_I, rsum_R, ps_s, ps_n, true_and, and_true, Nat.reduceAdd, Nat.reduceLeDiff, hd1, v1, x1, p1, n6, bi_0, true_implies, false_implies, not_true_eq_false, not_false_eq_true]
          exact ⟨by decide, h⟩
    · rw [if_pos c18] at h
      refine go_blk [(.iload_n 2, 0, 0, 0), (.bipush 47, 0, 0, 0), (.if_icmp .ne 7, 31, 0, 0)] (by decide +kernel) ?_
      simp only [e_il_2, e_bp_47, e_icmp_ne, e_nil, nol_n, nol_I, nol_R, rsum_0, rsum_I, rsum_R, ps_s, ps_n, true_and, and_true, Nat.reduceAdd, Nat.reduceLeDiff, hd1, v1, x1, p1, n6, bi_0, true_implies, false_implies, not_true_eq_false, not_false_eq_true]
      refine ⟨fun c24 => ?_, fun c24 => ?_⟩
      · rw [decide_eq_false c24] at h
        refine go_blk [(.iconst 0, 0, 0, 0), (.goto 20, 52, 0, 0), (.ireturn, 1, 0, 0)] (by decide +kernel) ?_
        simp only [e_ic_0, e_goto, e_iret1, e_nil, nol_n, nol_I, nol_R, rsum_0, rsum_I, rsum_R, ps_s, ps_n, true_and, and_true, Nat.reduceAdd, Nat.reduceLeDiff, hd1, v1, x1, p1, n6, bi_0, true_implies, false_implies, not_true_eq_false, not_false_eq_true]
        exact ⟨by decide, h⟩
      · rw [decide_eq_true c24] at h
        refine go_blk [(.iconst 1, 0, 0, 0), (.goto 24, 52, 0, 0), (.ireturn, 1, 0, 0)] (by decide +kernel) ?_
        simp only [e_ic_1, e_goto, e_iret1, e_nil, nol_n, nol_I, nol_R, rsum_0, rsum_I, rsum_R, ps_s, ps_n, true_and, and_true, Nat.reduceAdd, Nat.reduceLeDiff, hd1, v1, x1, p1, n6, bi_0, true_implies, false_implies, not_true_eq_false, not_false_eq_true]
        exact ⟨by decide, h⟩
theorem lp_foc {l : Launch} {K : KK} {d : Nat} {μ : Mm} {P : Option AV → Mm → Prop} {L : Nat} {pg : Nat → Nat} (hP : MPg μ L pg) (hL : L ≤ 22) (hpg : ∀ j, j < L → pg j < 127) (hd1 : 2 ≤ d) : ∀ (r j : Nat), j + r = L → P (some (vI (nI (fsF (fun k => cOK k (pg k)) r j)))) μ → Go l K d 110 2 [some (vR 8 0 0), some (vI (nI j))] [] μ P := by
  have hd2 : 1 ≤ d := by omega
  have p0 := hP.1
  intro r
  induction r with
  | zero =>
    intro j hj h
    refine go_blk [(.iload_n 1, 0, 0, 0), (.aload_n 0, 0, 0, 0), (.getfield 55, 8, 19, 0), (.if_icmp .ge 17, 24, 0, 0)] (by decide +kernel) ?_
    simp only [e_il_1, e_al_0, e_gf_8_19, e_icmp_ge, rd_8_19, e_nil, nol_n, nol_I, nol_R, rsum_0, rsum_I, rsum_R, ps_s, ps_n, true_and, and_true, Nat.reduceAdd, Nat.reduceLeDiff, p0]
    refine ⟨fun c7 => ?_, fun c7 => ?_⟩
    · refine go_blk [(.iload_n 1, 0, 0, 0), (.ireturn, 0, 0, 0)] (by decide +kernel) ?_
      simp only [e_il_1, e_iret0, e_nil, nol_n, nol_I, nol_R, rsum_0, rsum_I, rsum_R, ps_s, ps_n, true_and, and_true, Nat.reduceAdd, Nat.reduceLeDiff, p0]
      exact h
    · exact absurd (nI_le (by omega) (by omega)) c7
  | succ r ih =>
    intro j hj h
    have u : fsF (fun k => cOK k (pg k)) (r + 1) j = if cOK j (pg j) then fsF (fun k => cOK k (pg k)) r (j + 1) else j := rfl
    rw [u] at h
    refine go_blk [(.iload_n 1, 0, 0, 0), (.aload_n 0, 0, 0, 0), (.getfield 55, 8, 19, 0), (.if_icmp .ge 17, 24, 0, 0)] (by decide +kernel) ?_
    simp only [e_il_1, e_al_0, e_gf_8_19, e_icmp_ge, rd_8_19, e_nil, nol_n, nol_I, nol_R, rsum_0, rsum_I, rsum_R, ps_s, ps_n, true_and, and_true, Nat.reduceAdd, Nat.reduceLeDiff, p0, hd2, bi_0]
    refine ⟨fun c7 => ?_, fun c7 => ?_⟩
    · exact absurd c7 (nI_ge (by omega) (by omega))
    · refine go_blk [(.aload_n 0, 0, 0, 0), (.iload_n 1, 0, 0, 0), (.invokevirtual 58, 109, 1, 8)] (by decide +kernel) ?_
      simp only [e_al_0, e_il_1, e_iv_8_1, e_nil, nol_n, nol_I, nol_R, rsum_0, rsum_I, rsum_R, ps_s, ps_n, true_and, and_true, Nat.reduceAdd, Nat.reduceLeDiff, p0, hd2, bi_0]
      refine okm_good hP hL hpg (by omega) (by omega) ?_
      refine go_blk [(.ifCond .eq 9, 24, 0, 0)] (by decide +kernel) ?_
      simp only [e_if_eq, e_nil, nol_n, nol_I, nol_R, rsum_0, rsum_I, rsum_R, ps_s, ps_n, true_and, and_true, Nat.reduceAdd, Nat.reduceLeDiff, p0, hd2, bi_0]
      refine ⟨fun c15 => ?_, fun c15 => ?_⟩
      · rw [c15, if_neg (by decide)] at h
        refine go_blk [(.iload_n 1, 0, 0, 0), (.ireturn, 0, 0, 0)] (by decide +kernel) ?_
        simp only [e_il_1, e_iret0, e_nil, nol_n, nol_I, nol_R, rsum_0, rsum_I, rsum_R, ps_s, ps_n, true_and, and_true, Nat.reduceAdd, Nat.reduceLeDiff, p0, hd2, bi_0]
        exact h
      · rw [eq_true_of_ne_false c15, if_pos rfl] at h
        refine go_blk [(.iinc 1 1, 0, 0, 0), (.goto (-19), 2, 0, 0)] (by decide +kernel) ?_
        simp only [e_inc_1_1n, e_inc_1_1I, e_inc_1_1R, e_goto, e_nil, nol_n, nol_I, nol_R, rsum_0, rsum_I, rsum_R, ps_s, ps_n, true_and, and_true, Nat.reduceAdd, Nat.reduceLeDiff, p0, hd2, bi_0]
        rw [nI_1]
        exact ih (j + 1) (by omega) h
theorem okm_foc {l : Launch} {K : KK} {d : Nat} {μ : Mm} {P : Option AV → Mm → Prop} {L : Nat} {pg : Nat → Nat} (hP : MPg μ L pg) (hL : L ≤ 22) (hpg : ∀ j, j < L → pg j < 127) (hd1 : 2 ≤ d) (h : P (some (vI (nI (fsF (fun k => cOK k (pg k)) L 0)))) μ) : Ok l K d 110 [vR 8 0 0] μ P := by
  refine ok_go 2 (by decide +kernel) [some (vR 8 0 0), none] rfl (Nat.le_of_ble_eq_true rfl) ?_
  refine go_blk [(.iconst 0, 0, 0, 0), (.istore_n 1, 0, 0, 0)] (by decide +kernel) ?_
  simp only [e_ic_0, e_is_1n, e_is_1I, e_is_1R, e_nil, nol_n, nol_I, nol_R, rsum_0, rsum_I, rsum_R, ps_s, ps_n, true_and, and_true, Nat.reduceAdd, Nat.reduceLeDiff]
  exact lp_foc hP hL hpg hd1 L 0 (by omega) h
theorem art_tab : ∀ q, q < 127 → (q = 100 ∧ ixT q = 1) ∨ (q = 103 ∧ ixT q = 4) ∨ (q = 110 ∧ ixT q = 2) ∨ (q = 111 ∧ ixT q = 0) ∨ (q = 116 ∧ ixT q = 3) ∨ (ixT q = -1 ∧ (52 : Int) + 10 = 1 + Op.lookupswitch.offset [(100, 53), (103, 59), (110, 55), (111, 51), (116, 57)] 61 (nI q).toInt) := by decide +kernel
theorem okm_art {l : Launch} {K : KK} {d : Nat} {μ : Mm} {P : Option AV → Mm → Prop} {q : Nat} (hq : q < 127) (h : P (some (vI (ixT q))) μ) : Ok l K d 111 [vI (nI q)] μ P := by
  refine ok_go 1 (by decide +kernel) [some (vI (nI q))] rfl (Nat.le_of_ble_eq_true rfl) ?_
  refine go_blk [(.iload_n 0, 0, 0, 0), (.lookupswitch 61 #[(100, 53), (103, 59), (110, 55), (111, 51), (116, 57)], 0, 0, 0)] (by decide +kernel) ?_
  simp only [e_il_0, e_lsw, e_nil, nol_n, nol_I, nol_R, rsum_0, rsum_I, rsum_R, ps_s, ps_n, true_and, and_true, Nat.reduceAdd, Nat.reduceLeDiff]
  rcases art_tab q hq with ⟨rfl, e⟩ | ⟨rfl, e⟩ | ⟨rfl, e⟩ | ⟨rfl, e⟩ | ⟨rfl, e⟩ | ⟨e, e2⟩
  · rw [e] at h
    refine ⟨54, by decide, ?_⟩
    refine go_blk [(.iconst 1, 0, 0, 0), (.ireturn, 0, 0, 0)] (by decide +kernel) ?_
    simp only [e_ic_1, e_iret0, e_nil, nol_n, nol_I, nol_R, rsum_0, rsum_I, rsum_R, ps_s, ps_n, true_and, and_true, Nat.reduceAdd, Nat.reduceLeDiff]
    exact h
  · rw [e] at h
    refine ⟨60, by decide, ?_⟩
    refine go_blk [(.iconst 4, 0, 0, 0), (.ireturn, 0, 0, 0)] (by decide +kernel) ?_
    simp only [e_ic_4, e_iret0, e_nil, nol_n, nol_I, nol_R, rsum_0, rsum_I, rsum_R, ps_s, ps_n, true_and, and_true, Nat.reduceAdd, Nat.reduceLeDiff]
    exact h
  · rw [e] at h
    refine ⟨56, by decide, ?_⟩
    refine go_blk [(.iconst 2, 0, 0, 0), (.ireturn, 0, 0, 0)] (by decide +kernel) ?_
    simp only [e_ic_2, e_iret0, e_nil, nol_n, nol_I, nol_R, rsum_0, rsum_I, rsum_R, ps_s, ps_n, true_and, and_true, Nat.reduceAdd, Nat.reduceLeDiff]
    exact h
  · rw [e] at h
    refine ⟨52, by decide, ?_⟩
    refine go_blk [(.iconst 0, 0, 0, 0), (.ireturn, 0, 0, 0)] (by decide +kernel) ?_
    simp only [e_ic_0, e_iret0, e_nil, nol_n, nol_I, nol_R, rsum_0, rsum_I, rsum_R, ps_s, ps_n, true_and, and_true, Nat.reduceAdd, Nat.reduceLeDiff]
    exact h
  · rw [e] at h
    refine ⟨58, by decide, ?_⟩
    refine go_blk [(.iconst 3, 0, 0, 0), (.ireturn, 0, 0, 0)] (by decide +kernel) ?_
    simp only [e_ic_3, e_iret0, e_nil, nol_n, nol_I, nol_R, rsum_0, rsum_I, rsum_R, ps_s, ps_n, true_and, and_true, Nat.reduceAdd, Nat.reduceLeDiff]
    exact h
  · rw [e] at h
    refine ⟨62, e2.symm, ?_⟩
    refine go_blk [(.iconst (-1), 0, 0, 0), (.ireturn, 0, 0, 0)] (by decide +kernel) ?_
    simp only [e_ic_m1, e_iret0, e_nil, nol_n, nol_I, nol_R, rsum_0, rsum_I, rsum_R, ps_s, ps_n, true_and, and_true, Nat.reduceAdd, Nat.reduceLeDiff]
    exact h
