/-- the ways behind one more morning -/
def wkA (m : Nat) (x : Int32) (A : Nat → Nat) (sp s : Nat) : Nat := if nI (pop s) = x then (if m = 0 then 1 else wyI A sp s) else 0
/-- the store while a morning is being told -/
def WkI (μ0 μ : Mm) (w v sp e m : Nat) (A A' : Nat → Nat) : Prop := (μ 2 0 0 0 = nI v ∧ μ 2 0 0 1 = nI w ∧ μ 2 0 0 2 = nI sp ∧ μ 2 0 0 3 = nI (2 ^ sp)) ∧ (¬ m = 0 → ∀ j, j < 2 ^ sp → μ 2 0 w j = nI (A j)) ∧ (∀ j, j < e → μ 2 0 v j = nI (A' j)) ∧ ∀ c i, ¬ c = 2 → μ c i = μ0 c i
theorem wk_up0 {μ0 μ : Mm} {w v sp e m : Nat} {A A' : Nat → Nat} (h : WkI μ0 μ w v sp e m A A') (hv : v = 1 ∨ v = 2) (hwv : w ≠ v) (x : Int32) : WkI μ0 (up μ 2 0 v e x) w v sp e m A A' := by
  obtain ⟨⟨h0, h1, h2, h3⟩, hA, hN, hO⟩ := h
  refine ⟨⟨?_, ?_, ?_, ?_⟩, ?_, ?_, ?_⟩
  · rw [up_ne (by omega)]; exact h0
  · rw [up_ne (by omega)]; exact h1
  · rw [up_ne (by omega)]; exact h2
  · rw [up_ne (by omega)]; exact h3
  · intro hm j hj; rw [up_ne (by omega)]; exact hA hm j hj
  · intro j hj; rw [up_ne (by omega)]; exact hN j hj
  · intro c i hc
    rw [← hO c i hc]
    funext s j
    exact up_ne (fun z => hc z.1)
theorem wk_up {μ0 μ : Mm} {w v sp e m : Nat} {A A' : Nat → Nat} (h : WkI μ0 μ w v sp e m A A') (hv : v = 1 ∨ v = 2) (hwv : w ≠ v) {x : Int32} (hx : x = nI (A' e)) : WkI μ0 (up μ 2 0 v e x) w v sp (e + 1) m A A' := by
  obtain ⟨a1, a2, a3, a4⟩ := wk_up0 h hv hwv x
  refine ⟨a1, a2, fun j hj => ?_, a4⟩
  by_cases q : j = e
  · subst q; rw [up_self]; exact hx
  · exact a3 j (by omega)
theorem lp_wake {l : Launch} {K : KK} {d : Nat} {P : Option AV → Mm → Prop} {μ0 : Mm} {w v sp m : Nat} {x : Int32} {A : Nat → Nat} (hw : w = 1 ∨ w = 2) (hv : v = 1 ∨ v = 2) (hwv : w ≠ v) (hsp : sp ≤ 6) (hm : m < 2 ^ 31) (hd1 : 1 ≤ d) (h : ∀ μ2, WkI μ0 μ2 w v sp (2 ^ sp) m A (wkA m x A sp) → P none μ2) : ∀ (r e : Nat) (μ : Mm), e + r = 2 ^ sp → WkI μ0 μ w v sp e m A (wkA m x A sp) → Go l K d 36 21 [some (vR 2 0 0), some (vI (nI m)), some (vI x), some (vR 2 0 v), some (vI (nI e))] [] μ P := by
  have ai := aiN hv
  have cv := cvN hv
  have p6 := pw6 hsp
  intro r
  induction r with
  | zero =>
    intro e μ he hW
    have e0 : e = 2 ^ sp := by omega
    subst e0
    have h3 := hW.1.2.2.2
    refine go_blk [(.iload 4, 0, 0, 0), (.aload_n 0, 0, 0, 0), (.getfield 22, 2, 3, 0), (.if_icmp .ge 47, 74, 0, 0)] (by decide +kernel) ?_
    simp only [e_ilw_4, e_al_0, e_gf_2_3, e_icmp_ge, rd_2_3, e_nil, nol_n, nol_I, nol_R, rsum_0, rsum_I, rsum_R, ps_s, ps_n, true_and, and_true, Nat.reduceAdd, Nat.reduceLeDiff, h3]
    refine ⟨fun c27 => ?_, fun c27 => ?_⟩
    · refine go_blk [(.return_, 0, 0, 0)] (by decide +kernel) ?_
      simp only [e_vret, e_nil, nol_n, nol_I, nol_R, rsum_0, rsum_I, rsum_R, ps_s, ps_n, true_and, and_true, Nat.reduceAdd, Nat.reduceLeDiff, h3]
      exact h μ hW
    · exact absurd (nI_le (by omega) (by omega)) c27
  | succ r ih =>
    intro e μ he hW
    have h0 := hW.1.1
    have h3 := hW.1.2.2.2
    have vi : vp_in (nI e) 64 := vin (by omega) (by omega)
    have hx : ix (nI e) = e := nI_ix (by omega)
    have hW1 := wk_up0 hW hv hwv 0
    have k0 := hW1.1.1
    have k1 := hW1.1.2.1
    have k2 := hW1.1.2.2.1
    have kA := hW1.2.1
    have ue : wkA m x A sp e = if nI (pop e) = x then (if m = 0 then 1 else wyI A sp e) else 0 := rfl
    refine go_blk [(.iload 4, 0, 0, 0), (.aload_n 0, 0, 0, 0), (.getfield 22, 2, 3, 0), (.if_icmp .ge 47, 74, 0, 0)] (by decide +kernel) ?_
    simp only [e_ilw_4, e_al_0, e_gf_2_3, e_icmp_ge, rd_2_3, e_nil, nol_n, nol_I, nol_R, rsum_0, rsum_I, rsum_R, ps_s, ps_n, true_and, and_true, Nat.reduceAdd, Nat.reduceLeDiff, h0, h3, ai, cv, vi, hx, k0, hd1, Classical.not_not]
    refine ⟨fun c27 => ?_, fun c27 => ?_⟩
    · exact absurd c27 (nI_ge (by omega) (by omega))
    · refine go_blk [(.aload_n 0, 0, 0, 0), (.getfield 11, 2, 0, 0), (.iload 4, 0, 0, 0), (.iconst 0, 0, 0, 0), (.iastore, 0, 0, 0)] (by decide +kernel) ?_
      simp only [e_al_0, e_gf_2_0, e_ilw_4, e_ic_0, e_iast, rd_2_0, ai_0_4, ai_1_7, ai_2_1, ai_2_2, ai_3_1, ai_4_1, ai_6_3, ai_6_4, ai_6_5, ai_6_6, ai_6_7, ai_6_8, ai_8_5, ai_8_6, ai_8_17, ai_8_21, ai_8_23, ai_8_24, ai_8_27, ai_8_28, ai_8_38, ai_8_39, ai_8_40, e_nil, nol_n, nol_I, nol_R, rsum_0, rsum_I, rsum_R, ps_s, ps_n, true_and, and_true, Nat.reduceAdd, Nat.reduceLeDiff, h0, h3, ai, cv, vi, hx, k0, hd1, Classical.not_not]
      refine go_blk [(.iload 4, 0, 0, 0), (.invokestatic 70, 178, 1, 0)] (by decide +kernel) ?_
      simp only [e_ilw_4, e_ivs_1, e_nil, Nat.reduceLT, nol_n, nol_I, nol_R, rsum_0, rsum_I, rsum_R, ps_s, ps_n, true_and, and_true, Nat.reduceAdd, Nat.reduceLeDiff, h0, h3, ai, cv, vi, hx, k0, hd1, Classical.not_not]
      refine ok_bitCount (by omega) ?_
      refine go_blk [(.iload_n 2, 0, 0, 0), (.if_icmp .ne 24, 68, 0, 0)] (by decide +kernel) ?_
      simp only [e_il_2, e_icmp_ne, e_nil, nol_n, nol_I, nol_R, rsum_0, rsum_I, rsum_R, ps_s, ps_n, true_and, and_true, Nat.reduceAdd, Nat.reduceLeDiff, h0, h3, ai, cv, vi, hx, k0, hd1, Classical.not_not]
      refine ⟨fun c44 => ?_, fun c44 => ?_⟩
      · rw [if_neg c44] at ue
        refine go_blk [(.iinc 4 1, 0, 0, 0), (.goto (-50), 21, 0, 0)] (by decide +kernel) ?_
        simp only [e_inc_4_1n, e_inc_4_1I, e_inc_4_1R, e_goto, e_nil, nol_n, nol_I, nol_R, rsum_0, rsum_I, rsum_R, ps_s, ps_n, true_and, and_true, Nat.reduceAdd, Nat.reduceLeDiff, h0, h3, ai, cv, vi, hx, k0, hd1, Classical.not_not]
        rw [nI_1]
        exact ih (e + 1) _ (by omega) (wk_up hW hv hwv (by rw [ue] <;> rfl))
      · rw [if_pos c44] at ue
        refine go_blk [(.aload_n 0, 0, 0, 0), (.getfield 11, 2, 0, 0), (.iload 4, 0, 0, 0), (.iload_n 1, 0, 0, 0), (.ifCond .ne 7, 61, 0, 0)] (by decide +kernel) ?_
        simp only [e_al_0, e_gf_2_0, e_ilw_4, e_il_1, e_if_ne, rd_2_0, e_nil, nol_n, nol_I, nol_R, rsum_0, rsum_I, rsum_R, ps_s, ps_n, true_and, and_true, Nat.reduceAdd, Nat.reduceLeDiff, h0, h3, ai, cv, vi, hx, k0, hd1, Classical.not_not]
        refine ⟨fun c54 => ?_, fun c54 => ?_⟩
        · have m0 : ¬ m = 0 := fun z => c54 (by rw [z]; rfl)
          rw [if_neg m0] at ue
          refine go_blk [(.aload_n 0, 0, 0, 0), (.iload 4, 0, 0, 0), (.invokevirtual 76, 37, 1, 2)] (by decide +kernel) ?_
          simp only [e_al_0, e_ilw_4, e_iv_2_1, e_nil, nol_n, nol_I, nol_R, rsum_0, rsum_I, rsum_R, ps_s, ps_n, true_and, and_true, Nat.reduceAdd, Nat.reduceLeDiff, h0, h3, ai, cv, vi, hx, k0, hd1, Classical.not_not]
          refine ok_waysInto hw k1 k2 hsp (by omega) (kA m0) ?_
          refine go_blk [(.iastore, 0, 0, 0)] (by decide +kernel) ?_
          simp only [e_iast, ai_0_4, ai_1_7, ai_2_1, ai_2_2, ai_3_1, ai_4_1, ai_6_3, ai_6_4, ai_6_5, ai_6_6, ai_6_7, ai_6_8, ai_8_5, ai_8_6, ai_8_17, ai_8_21, ai_8_23, ai_8_24, ai_8_27, ai_8_28, ai_8_38, ai_8_39, ai_8_40, e_nil, nol_n, nol_I, nol_R, rsum_0, rsum_I, rsum_R, ps_s, ps_n, true_and, and_true, Nat.reduceAdd, Nat.reduceLeDiff, h0, h3, ai, cv, vi, hx, k0, hd1, Classical.not_not]
          refine go_blk [(.iinc 4 1, 0, 0, 0), (.goto (-50), 21, 0, 0)] (by decide +kernel) ?_
          simp only [e_inc_4_1n, e_inc_4_1I, e_inc_4_1R, e_goto, e_nil, nol_n, nol_I, nol_R, rsum_0, rsum_I, rsum_R, ps_s, ps_n, true_and, and_true, Nat.reduceAdd, Nat.reduceLeDiff, h0, h3, ai, cv, vi, hx, k0, hd1, Classical.not_not]
          rw [nI_1]
          exact ih (e + 1) _ (by omega) (wk_up hW1 hv hwv (by rw [ue] <;> rfl))
        · have m0 : m = 0 := nI_inj hm (by omega) c54
          rw [if_pos m0] at ue
          refine go_blk [(.iconst 1, 0, 0, 0), (.goto 9, 67, 0, 0), (.iastore, 0, 0, 0)] (by decide +kernel) ?_
          simp only [e_ic_1, e_goto, e_iast, ai_0_4, ai_1_7, ai_2_1, ai_2_2, ai_3_1, ai_4_1, ai_6_3, ai_6_4, ai_6_5, ai_6_6, ai_6_7, ai_6_8, ai_8_5, ai_8_6, ai_8_17, ai_8_21, ai_8_23, ai_8_24, ai_8_27, ai_8_28, ai_8_38, ai_8_39, ai_8_40, e_nil, nol_n, nol_I, nol_R, rsum_0, rsum_I, rsum_R, ps_s, ps_n, true_and, and_true, Nat.reduceAdd, Nat.reduceLeDiff, h0, h3, ai, cv, vi, hx, k0, hd1, Classical.not_not]
          refine go_blk [(.iinc 4 1, 0, 0, 0), (.goto (-50), 21, 0, 0)] (by decide +kernel) ?_
          simp only [e_inc_4_1n, e_inc_4_1I, e_inc_4_1R, e_goto, e_nil, nol_n, nol_I, nol_R, rsum_0, rsum_I, rsum_R, ps_s, ps_n, true_and, and_true, Nat.reduceAdd, Nat.reduceLeDiff, h0, h3, ai, cv, vi, hx, k0, hd1, Classical.not_not]
          rw [nI_1]
          exact ih (e + 1) _ (by omega) (wk_up hW1 hv hwv (by rw [ue] <;> rfl))
theorem ok_wake {l : Launch} {K : KK} {d : Nat} {μ : Mm} {P : Option AV → Mm → Prop} {w v sp m : Nat} {x : Int32} {A : Nat → Nat} (hw : w = 1 ∨ w = 2) (hv : v = 1 ∨ v = 2) (hwv : w ≠ v) (hsp : sp ≤ 6) (hm : m < 2 ^ 31) (h0 : μ 2 0 0 0 = nI w) (h1 : μ 2 0 0 1 = nI v) (h2 : μ 2 0 0 2 = nI sp) (h3 : μ 2 0 0 3 = nI (2 ^ sp)) (hA : ¬ m = 0 → ∀ j, j < 2 ^ sp → μ 2 0 w j = nI (A j)) (hd1 : 1 ≤ d) (h : ∀ μ2, WkI μ μ2 w v sp (2 ^ sp) m A (wkA m x A sp) → P none μ2) : Ok l K d 36 [vR 2 0 0, vI (nI m), vI x] μ P := by
  refine ok_go 5 (by decide +kernel) [some (vR 2 0 0), some (vI (nI m)), some (vI x), none, none] rfl (Nat.le_of_ble_eq_true rfl) ?_
  have cv := cvN hv
  have cw := cvN hw
  have bw : w < 2 ^ 31 := by omega
  have bv : v < 2 ^ 31 := by omega
  refine go_blk [(.aload_n 0, 0, 0, 0), (.getfield 15, 2, 1, 0), (.astore_n 3, 0, 0, 0), (.aload_n 0, 0, 0, 0), (.aload_n 0, 0, 0, 0), (.getfield 11, 2, 0, 0), (.putfield 15, 2, 1, 0)] (by decide +kernel) ?_
  simp only [e_al_0, e_gf_2_1, e_as_3n, e_as_3I, e_as_3R, e_gf_2_0, e_pf_2_1, rd_2_1, rd_2_0, e_nil, nol_n, nol_I, nol_R, rsum_0, rsum_I, rsum_R, ps_s, ps_n, true_and, and_true, Nat.reduceAdd, Nat.reduceLeDiff, h0, h1, cv, cw, bw, bv]
  refine go_blk [(.aload_n 0, 0, 0, 0), (.aload_n 3, 0, 0, 0), (.putfield 11, 2, 0, 0)] (by decide +kernel) ?_
  simp only [e_al_0, e_al_3, e_pf_2_0, e_nil, nol_n, nol_I, nol_R, rsum_0, rsum_I, rsum_R, ps_s, ps_n, true_and, and_true, Nat.reduceAdd, Nat.reduceLeDiff, h0, h1, cv, cw, bw, bv]
  refine go_blk [(.iconst 0, 0, 0, 0), (.istore 4, 0, 0, 0)] (by decide +kernel) ?_
  simp only [e_ic_0, e_isw_4n, e_isw_4I, e_isw_4R, e_nil, nol_n, nol_I, nol_R, rsum_0, rsum_I, rsum_R, ps_s, ps_n, true_and, and_true, Nat.reduceAdd, Nat.reduceLeDiff, h0, h1, cv, cw, bw, bv]
  refine lp_wake hw hv hwv hsp hm hd1 h (2 ^ sp) 0 _ (by omega) ⟨⟨up_self _ _ _ _ _ _, ?_, ?_, ?_⟩, ?_, ?_, ?_⟩
  · rw [up_ne (by omega), up_self]
  · rw [up_ne (by omega), up_ne (by omega)]; exact h2
  · rw [up_ne (by omega), up_ne (by omega)]; exact h3
  · intro m0 j hj; rw [up_ne (by omega), up_ne (by omega)]; exact hA m0 j hj
  · intro j hj; exact absurd hj (by omega)
  · intro c i hc
    funext s j
    rw [up_ne (fun z => hc z.1), up_ne (fun z => hc z.1)]
