def Off1 (g : Nat) (μ μ' : Mm) : Prop := ∀ c i', ¬ (c = 1 ∧ i' = g) → μ' c i' = μ c i'
theorem off1_rf (g : Nat) (μ : Mm) : Off1 g μ μ := fun _ _ _ => rfl
theorem off1_up {g : Nat} {μ μ' : Mm} (h : Off1 g μ μ') (s j : Nat) (v : Int32) : Off1 g μ (up μ' 1 g s j v) := by
  intro c i' hc
  rw [← h c i' hc]
  funext s' j'
  exact up_ne fun q => hc ⟨q.1, q.2.1⟩
theorem Off1.g {g : Nat} {μ μ' : Mm} (h : Off1 g μ μ') : OffG g μ μ' := fun c i' a _ => h c i' a
def bnF (pg : Nat → Nat) : Nat → Nat
  | 0 => 0
  | k + 1 => bnF pg k ||| 2 ^ ix (ixT (pg k))
theorem ixT_tab : ∀ q, q < 128 → 0 ≤ ixT q → ixT q = nI (ix (ixT q)) ∧ ix (ixT q) < 5 := by decide +kernel
theorem bnF_lt {pg : Nat → Nat} : ∀ k, (∀ j, j < k → pg j < 128 ∧ 0 ≤ ixT (pg j)) → bnF pg k < 2 ^ 5
  | 0, _ => Nat.two_pow_pos 5
  | k + 1, h => or_lt (bnF_lt k (fun j hj => h j (by omega))) (pw_lt (ixT_tab _ (h k (by omega)).1 (h k (by omega)).2).2)
theorem lp_gcp {l : Launch} {K : KK} {d : Nat} {P : Option AV → Mm → Prop} {g : Nat} (hg : g < 2) {μ0 : Mm} {t : TS} {g2 : Nat} {f cs : Nat → Int32} (hg2 : g2 < 2) (hne : g2 ≠ g) (hG0 : GRep μ0 g2 f cs) (h : ∀ μ2, TRep μ2 g t → GRep μ2 g f cs → OffG g μ0 μ2 → P none μ2) : ∀ (r e : Nat) (μ : Mm), e + r = 6 → TRep μ g t → OffG g μ0 μ → (∀ k, 1 ≤ k → k ≤ 5 → μ 1 g 0 k = f k) → (∀ j, j < e → μ 1 g 7 j = cs j) → Go l K d 15 53 [some (vR 1 g 0), some (vR 1 g2 0), some (vI (nI e))] [] μ P := by
  intro r
  induction r with
  | zero =>
    intro e μ he hT hO hf hc
    have e6 : e = 6 := by omega
    subst e6
    refine go_blk [(.iload_n 2, 0, 0, 0), (.bipush 6, 0, 0, 0), (.if_icmp .ge 21, 77, 0, 0)] (by decide +kernel) ?_
    simp only [e_il_2, e_bp_6, e_icmp_ge, e_nil, nol_n, nol_I, nol_R, rsum_0, rsum_I, rsum_R, ps_s, ps_n, true_and, and_true, Nat.reduceAdd, Nat.reduceLeDiff]
    refine ⟨fun c56 => ?_, fun c56 => ?_⟩
    · refine go_blk [(.return_, 0, 0, 0)] (by decide +kernel) ?_
      simp only [e_vret, e_nil, nol_n, nol_I, nol_R, rsum_0, rsum_I, rsum_R, ps_s, ps_n, true_and, and_true, Nat.reduceAdd, Nat.reduceLeDiff]
      exact h μ hT ⟨hf, hc⟩ hO
    · exact absurd (by decide) c56
  | succ r ih =>
    intro e μ he hT hO hf hc
    have hv : vp_in (nI e) 6 := vin (by omega) (by omega)
    have hx : ix (nI e) = e := nI_ix (by omega)
    have hb : μ 1 g2 7 e = cs e := by rw [hO 1 g2 (by omega) (by omega)]; exact hG0.2 e (by omega)
    refine go_blk [(.iload_n 2, 0, 0, 0), (.bipush 6, 0, 0, 0), (.if_icmp .ge 21, 77, 0, 0)] (by decide +kernel) ?_
    simp only [e_il_2, e_bp_6, e_icmp_ge, e_nil, nol_n, nol_I, nol_R, rsum_0, rsum_I, rsum_R, ps_s, ps_n, true_and, and_true, Nat.reduceAdd, Nat.reduceLeDiff, hg, hg2, hv, hx, hb]
    refine ⟨fun c56 => ?_, fun c56 => ?_⟩
    · exact absurd c56 (nI_ge (b := 6) (by omega) (by omega))
    · refine go_blk [(.aload_n 0, 0, 0, 0), (.getfield 27, 1, 6, 0), (.iload_n 2, 0, 0, 0), (.aload_n 1, 0, 0, 0), (.getfield 27, 1, 6, 0), (.iload_n 2, 0, 0, 0), (.iaload, 0, 0, 0), (.iastore, 0, 0, 0)] (by decide +kernel) ?_
      simp only [e_al_0, e_gf_1_6, e_il_2, e_al_1, e_ia, e_iast, rd_1_6, ai_0_4, ai_1_7, ai_2_1, ai_2_2, ai_3_1, ai_4_1, ai_6_3, ai_6_4, ai_6_5, ai_6_6, ai_6_7, ai_6_8, ai_8_5, ai_8_6, ai_8_17, ai_8_21, ai_8_23, ai_8_24, ai_8_27, ai_8_28, ai_8_38, ai_8_39, ai_8_40, e_nil, nol_n, nol_I, nol_R, rsum_0, rsum_I, rsum_R, ps_s, ps_n, true_and, and_true, Nat.reduceAdd, Nat.reduceLeDiff, hg, hg2, hv, hx, hb]
      refine go_blk [(.iinc 2 1, 0, 0, 0), (.goto (-21), 53, 0, 0)] (by decide +kernel) ?_
      simp only [e_inc_2_1n, e_inc_2_1I, e_inc_2_1R, e_goto, e_nil, nol_n, nol_I, nol_R, rsum_0, rsum_I, rsum_R, ps_s, ps_n, true_and, and_true, Nat.reduceAdd, Nat.reduceLeDiff, hg, hg2, hv, hx, hb]
      rw [nI_1]
      refine ih (e + 1) _ (by omega) (tr_up1 hT) (hO.up _ _ _) (fun k h1 h2 => by rw [up_ne (by omega)]; exact hf k h1 h2) (fun j hj => ?_)
      by_cases q : j = e
      · subst q; rw [up_self]
      · rw [up_ne (by omega)]; exact hc j (by omega)
theorem ok_g_copyFrom {l : Launch} {K : KK} {d : Nat} {μ : Mm} {P : Option AV → Mm → Prop} {g : Nat} (hg : g < 2) {t : TS} {g2 op : Nat} {f cs : Nat → Int32} (hg2 : g2 < 2) (hne : g2 ≠ g) (hT : TRep μ g2 t) (hI : TInv op t) (hG : GRep μ g2 f cs) (hd1 : 1 ≤ d) (h : ∀ μ2, TRep μ2 g t → GRep μ2 g f cs → OffG g μ μ2 → P none μ2) : Ok l K d 15 [vR 1 g 0, vR 1 g2 0] μ P := by
  refine ok_go 3 (by decide +kernel) [some (vR 1 g 0), some (vR 1 g2 0), none] rfl (Nat.le_of_ble_eq_true rfl) ?_
  have hg6 : g < 6 := by omega
  have hg26 : g2 < 6 := by omega
  have hrd : ∀ (m : Mm) (s j : Nat) (v : Int32) (s' j' : Nat), up m 1 g s j v 1 g2 s' j' = m 1 g2 s' j' := fun m s j v s' j' => up_ne (fun z => hne z.2.1)
  refine go_blk [(.aload_n 0, 0, 0, 0), (.getfield 36, 1, 0, 0), (.aload_n 1, 0, 0, 0), (.getfield 36, 1, 0, 0), (.invokevirtual 44, 59, 1, 6)] (by decide +kernel) ?_
  simp only [e_al_0, e_gf_1_0, e_al_1, e_iv_6_1, rd_1_0, e_nil, nol_n, nol_I, nol_R, rsum_0, rsum_I, rsum_R, ps_s, ps_n, true_and, and_true, Nat.reduceAdd, Nat.reduceLeDiff, hg, hg2, hg6, hg26, hd1, hrd]
  refine ok_copyFrom hg6 hg26 hne hT hI (fun μ2 hT2 hO2 => ?_)
  have hb : ∀ k, 1 ≤ k → k ≤ 5 → μ2 1 g2 0 k = f k := fun k h1 h2 => by rw [hO2 1 g2 (by omega)]; exact hG.1 k h1 h2
  have b1 := hb 1 (by omega) (by omega)
  have b2' := hb 2 (by omega) (by omega)
  have b3 := hb 3 (by omega) (by omega)
  have b4 := hb 4 (by omega) (by omega)
  have b5 := hb 5 (by omega) (by omega)
  refine go_blk [(.aload_n 0, 0, 0, 0), (.aload_n 1, 0, 0, 0), (.getfield 9, 1, 1, 0), (.putfield 9, 1, 1, 0)] (by decide +kernel) ?_
  simp only [e_al_0, e_al_1, e_gf_1_1, e_pf_1_1, rd_1_1, e_nil, nol_n, nol_I, nol_R, rsum_0, rsum_I, rsum_R, ps_s, ps_n, true_and, and_true, Nat.reduceAdd, Nat.reduceLeDiff, hg, hg2, hg6, hg26, hd1, hrd, b1, b2', b3, b4, b5]
  refine go_blk [(.aload_n 0, 0, 0, 0), (.aload_n 1, 0, 0, 0), (.getfield 15, 1, 2, 0), (.putfield 15, 1, 2, 0)] (by decide +kernel) ?_
  simp only [e_al_0, e_al_1, e_gf_1_2, e_pf_1_2, rd_1_2, e_nil, nol_n, nol_I, nol_R, rsum_0, rsum_I, rsum_R, ps_s, ps_n, true_and, and_true, Nat.reduceAdd, Nat.reduceLeDiff, hg, hg2, hg6, hg26, hd1, hrd, b1, b2', b3, b4, b5]
  refine go_blk [(.aload_n 0, 0, 0, 0), (.aload_n 1, 0, 0, 0), (.getfield 18, 1, 3, 0), (.putfield 18, 1, 3, 0)] (by decide +kernel) ?_
  simp only [e_al_0, e_al_1, e_gf_1_3, e_pf_1_3, rd_1_3, e_nil, nol_n, nol_I, nol_R, rsum_0, rsum_I, rsum_R, ps_s, ps_n, true_and, and_true, Nat.reduceAdd, Nat.reduceLeDiff, hg, hg2, hg6, hg26, hd1, hrd, b1, b2', b3, b4, b5]
  refine go_blk [(.aload_n 0, 0, 0, 0), (.aload_n 1, 0, 0, 0), (.getfield 21, 1, 4, 0), (.putfield 21, 1, 4, 0)] (by decide +kernel) ?_
  simp only [e_al_0, e_al_1, e_gf_1_4, e_pf_1_4, rd_1_4, e_nil, nol_n, nol_I, nol_R, rsum_0, rsum_I, rsum_R, ps_s, ps_n, true_and, and_true, Nat.reduceAdd, Nat.reduceLeDiff, hg, hg2, hg6, hg26, hd1, hrd, b1, b2', b3, b4, b5]
  refine go_blk [(.aload_n 0, 0, 0, 0), (.aload_n 1, 0, 0, 0), (.getfield 24, 1, 5, 0), (.putfield 24, 1, 5, 0)] (by decide +kernel) ?_
  simp only [e_al_0, e_al_1, e_gf_1_5, e_pf_1_5, rd_1_5, e_nil, nol_n, nol_I, nol_R, rsum_0, rsum_I, rsum_R, ps_s, ps_n, true_and, and_true, Nat.reduceAdd, Nat.reduceLeDiff, hg, hg2, hg6, hg26, hd1, hrd, b1, b2', b3, b4, b5]
  refine go_blk [(.iconst 0, 0, 0, 0), (.istore_n 2, 0, 0, 0)] (by decide +kernel) ?_
  simp only [e_ic_0, e_is_2n, e_is_2I, e_is_2R, e_nil, nol_n, nol_I, nol_R, rsum_0, rsum_I, rsum_R, ps_s, ps_n, true_and, and_true, Nat.reduceAdd, Nat.reduceLeDiff, hg, hg2, hg6, hg26, hd1, hrd, b1, b2', b3, b4, b5]
  refine lp_gcp hg (μ0 := μ) hg2 hne hG h 6 0 _ rfl (tr_up1 (tr_up1 (tr_up1 (tr_up1 (tr_up1 hT2))))) (((((hO2.g.up _ _ _).up _ _ _).up _ _ _).up _ _ _).up _ _ _) (fun k h1 h2 => ?_) (fun j hj => by omega)
  rcases (show k = 1 ∨ k = 2 ∨ k = 3 ∨ k = 4 ∨ k = 5 by omega) with rfl | rfl | rfl | rfl | rfl
  · rw [up_ne (by omega), up_ne (by omega), up_ne (by omega), up_ne (by omega), up_self]
  · rw [up_ne (by omega), up_ne (by omega), up_ne (by omega), up_self]
  · rw [up_ne (by omega), up_ne (by omega), up_self]
  · rw [up_ne (by omega), up_self]
  · rw [up_self]
theorem lp_sign {l : Launch} {K : KK} {d : Nat} {P : Option AV → Mm → Prop} {g : Nat} (hg : g < 2) {μ0 : Mm} {L : Nat} {pg : Nat → Nat} {f cs : Nat → Int32} (hp : PRep μ0 L pg) (hix : ∀ j, j < L → 0 ≤ ixT (pg j)) (hd1 : 4 ≤ d) (h : ∀ μ2, GRep μ2 g (fu f 3 (nI (bnF pg L))) cs → Off1 g μ0 μ2 → P none μ2) : ∀ (r e : Nat) (μ : Mm) (y3 : Option AV), e + r = L → GRep μ g (fu f 3 (nI (bnF pg e))) cs → Off1 g μ0 μ → Go l K d 16 12 [some (vR 1 g 0), some (vR 3 0 0), some (vI (nI e)), y3] [] μ P := by
  have hd2 : 1 ≤ d := by omega
  intro r
  induction r with
  | zero =>
    intro e μ y3 he hG hO
    have hp1 := hp.off (funext fun q => hO 3 q (by omega))
    have hL := hp1.1
    have hL2 := hp1.2.1
    refine go_blk [(.iload_n 2, 0, 0, 0), (.aload_n 1, 0, 0, 0), (.getfield 48, 3, 1, 0), (.if_icmp .ge 41, 58, 0, 0)] (by decide +kernel) ?_
    simp only [e_il_2, e_al_1, e_gf_3_1, e_icmp_ge, rd_3_1, e_nil, nol_n, nol_I, nol_R, rsum_0, rsum_I, rsum_R, ps_s, ps_n, true_and, and_true, Nat.reduceAdd, Nat.reduceLeDiff, hL]
    refine ⟨fun c17 => ?_, fun c17 => ?_⟩
    · refine go_blk [(.return_, 0, 0, 0)] (by decide +kernel) ?_
      simp only [e_vret, e_nil, nol_n, nol_I, nol_R, rsum_0, rsum_I, rsum_R, ps_s, ps_n, true_and, and_true, Nat.reduceAdd, Nat.reduceLeDiff, hL]
      have e0 : e = L := by omega
      rw [e0] at hG
      exact h μ hG hO
    · exact absurd (nI_le (by omega) (by omega)) c17
  | succ r ih =>
    intro e μ y3 he hG hO
    have hp1 := hp.off (funext fun q => hO 3 q (by omega))
    have hL := hp1.1
    have hL2 := hp1.2.1
    have hv : vp_in (nI e) 22 := vin (by omega) (by omega)
    have hx : ix (nI e) = e := nI_ix (by omega)
    obtain ⟨hm, hm2⟩ := hp1.2.2 e (by omega)
    obtain ⟨e0, e5⟩ := ixT_tab (pg e) (by omega) (hix e (by omega))
    have h3 : μ 1 g 0 3 = nI (bnF pg e) := by rw [hG.1 3 (by omega) (by omega), fu_self]
    have hsh : (1 : Int32) <<< (ixT (pg e) &&& 31) = nI (2 ^ ix (ixT (pg e))) := by
      conv => lhs; rw [e0]
      exact nI_shl (by omega)
    have hge : (0 ≤ ixT (pg e)) = True := eq_true (hix e (by omega))
    have hl1 : bnF pg (e + 1) = bnF pg e ||| 2 ^ ix (ixT (pg e)) := rfl
    clear e0
    refine go_blk [(.iload_n 2, 0, 0, 0), (.aload_n 1, 0, 0, 0), (.getfield 48, 3, 1, 0), (.if_icmp .ge 41, 58, 0, 0)] (by decide +kernel) ?_
    simp only [e_il_2, e_al_1, e_gf_3_1, e_icmp_ge, rd_3_1, e_nil, nol_n, nol_I, nol_R, rsum_0, rsum_I, rsum_R, ps_s, ps_n, true_and, and_true, Nat.reduceAdd, Nat.reduceLeDiff, hg, hL, hd2, hv, hx, hm, h3, hsh, hge, nI_or, true_implies, false_implies, not_true_eq_false, not_false_eq_true]
    refine ⟨fun c17 => ?_, fun c17 => ?_⟩
    · exact absurd c17 (nI_ge (by omega) (by omega))
    · refine go_blk [(.ldc 53, 1, 0, 0), (.aload_n 1, 0, 0, 0), (.getfield 55, 3, 0, 0), (.iload_n 2, 0, 0, 0), (.caload, 0, 0, 0), (.invokevirtual 59, 183, 1, 11)] (by decide +kernel) ?_
      simp only [e_ldcS, e_al_1, e_gf_3_0, e_il_2, e_ca, e_iv_11_1, rd_3_0, ai_0_4, ai_1_7, ai_2_1, ai_2_2, ai_3_1, ai_4_1, ai_6_3, ai_6_4, ai_6_5, ai_6_6, ai_6_7, ai_6_8, ai_8_5, ai_8_6, ai_8_17, ai_8_21, ai_8_23, ai_8_24, ai_8_27, ai_8_28, ai_8_38, ai_8_39, ai_8_40, e_nil, nol_n, nol_I, nol_R, rsum_0, rsum_I, rsum_R, ps_s, ps_n, true_and, and_true, Nat.reduceAdd, Nat.reduceLeDiff, hg, hL, hd2, hv, hx, hm, h3, hsh, hge, nI_or, true_implies, false_implies, not_true_eq_false, not_false_eq_true]
      refine ok_indexOf (by omega) (by omega) ?_
      refine go_blk [(.istore_n 3, 0, 0, 0), (.aload_n 0, 0, 0, 0), (.dup, 0, 0, 0), (.getfield 18, 1, 3, 0), (.iload_n 3, 0, 0, 0), (.ifCond .ge 7, 45, 0, 0)] (by decide +kernel) ?_
      simp only [e_is_3n, e_is_3I, e_is_3R, e_al_0, e_dupI, e_dupR, e_gf_1_3, e_il_3, e_if_ge, rd_1_3, e_nil, nol_n, nol_I, nol_R, rsum_0, rsum_I, rsum_R, ps_s, ps_n, true_and, and_true, Nat.reduceAdd, Nat.reduceLeDiff, hg, hL, hd2, hv, hx, hm, h3, hsh, hge, nI_or, true_implies, false_implies, not_true_eq_false, not_false_eq_true]
      refine go_blk [(.iconst 1, 0, 0, 0), (.iload_n 3, 0, 0, 0), (.ishl, 0, 0, 0), (.ior, 0, 0, 0), (.putfield 18, 1, 3, 0)] (by decide +kernel) ?_
      simp only [e_ic_1, e_il_3, e_ishl, e_ior, e_pf_1_3, e_nil, nol_n, nol_I, nol_R, rsum_0, rsum_I, rsum_R, ps_s, ps_n, true_and, and_true, Nat.reduceAdd, Nat.reduceLeDiff, hg, hL, hd2, hv, hx, hm, h3, hsh, hge, nI_or, true_implies, false_implies, not_true_eq_false, not_false_eq_true]
      refine go_blk [(.iinc 2 1, 0, 0, 0), (.goto (-43), 12, 0, 0)] (by decide +kernel) ?_
      simp only [e_inc_2_1n, e_inc_2_1I, e_inc_2_1R, e_goto, e_nil, nol_n, nol_I, nol_R, rsum_0, rsum_I, rsum_R, ps_s, ps_n, true_and, and_true, Nat.reduceAdd, Nat.reduceLeDiff, hg, hL, hd2, hv, hx, hm, h3, hsh, hge, nI_or, true_implies, false_implies, not_true_eq_false, not_false_eq_true]
      rw [nI_1]
      refine ih (e + 1) _ _ (by omega) ((gr_up hG 3 _).congr (fun k h1 h2 => ?_) (fun _ _ => rfl)) (off1_up hO _ _ _)
      by_cases q : k = 3
      · subst q; rw [fu_self, fu_self, hl1]
      · rw [fu_ne q, fu_ne q, fu_ne q]
theorem ok_sign {l : Launch} {K : KK} {d : Nat} {μ : Mm} {P : Option AV → Mm → Prop} {g : Nat} (hg : g < 2) {L : Nat} {pg : Nat → Nat} {f cs : Nat → Int32} (hp : PRep μ L pg) (hix : ∀ j, j < L → 0 ≤ ixT (pg j)) (hG : GRep μ g f cs) (hd1 : 4 ≤ d) (h : ∀ μ2, GRep μ2 g (fu (fu f 4 (-1)) 3 (nI (bnF pg L))) cs → Off1 g μ μ2 → P none μ2) : Ok l K d 16 [vR 1 g 0, vR 3 0 0] μ P := by
  refine ok_go 4 (by decide +kernel) [some (vR 1 g 0), some (vR 3 0 0), none, none] rfl (Nat.le_of_ble_eq_true rfl) ?_
  refine go_blk [(.aload_n 0, 0, 0, 0), (.iconst 0, 0, 0, 0), (.putfield 18, 1, 3, 0)] (by decide +kernel) ?_
  simp only [e_al_0, e_ic_0, e_pf_1_3, e_nil, nol_n, nol_I, nol_R, rsum_0, rsum_I, rsum_R, ps_s, ps_n, true_and, and_true, Nat.reduceAdd, Nat.reduceLeDiff, hg]
  refine go_blk [(.aload_n 0, 0, 0, 0), (.iconst (-1), 0, 0, 0), (.putfield 21, 1, 4, 0)] (by decide +kernel) ?_
  simp only [e_al_0, e_ic_m1, e_pf_1_4, e_nil, nol_n, nol_I, nol_R, rsum_0, rsum_I, rsum_R, ps_s, ps_n, true_and, and_true, Nat.reduceAdd, Nat.reduceLeDiff, hg]
  refine go_blk [(.iconst 0, 0, 0, 0), (.istore_n 2, 0, 0, 0)] (by decide +kernel) ?_
  simp only [e_ic_0, e_is_2n, e_is_2I, e_is_2R, e_nil, nol_n, nol_I, nol_R, rsum_0, rsum_I, rsum_R, ps_s, ps_n, true_and, and_true, Nat.reduceAdd, Nat.reduceLeDiff, hg]
  refine lp_sign hg (μ0 := μ) (f := fu f 4 (-1)) hp hix hd1 h L 0 _ none (by omega) ((gr_up (gr_up hG 3 _) 4 _).congr (fun k h1 h2 => ?_) (fun _ _ => rfl)) (off1_up (off1_up (off1_rf g μ) _ _ _) _ _ _)
  by_cases q3 : k = 3
  · subst q3; rfl
  · by_cases q4 : k = 4
    · subst q4; rfl
    · rw [fu_ne q3, fu_ne q4, fu_ne q4, fu_ne q3]
/-- a game's numbers behind a shot -/
def plf (f : Nat → Int32) (bn : Nat) (t : TS) (a b : Nat) : Nat → Int32 := fun k => if k = 1 then f 1 + 1 else if k = 2 then nI (t 4 a) else if k = 4 then (if f 4 = -1 ∧ fbd bn t (f 2) a b = true then f 1 + 1 else f 4) else f k
theorem ok_play {l : Launch} {K : KK} {d : Nat} {μ : Mm} {P : Option AV → Mm → Prop} {g : Nat} (hg : g < 2) {t : TS} {op bn a b : Nat} {hit : Bool} {f cs : Nat → Int32} (hT : TRep μ g t) (hI : TInv op t) (hC : CRep μ true op) (hG : GRep μ g f cs) (hb3 : f 3 = nI bn) (hbn : bn < 32) (hch : chS op t a b ≠ 0) (hd1 : 6 ≤ d) (h : ∀ μ2, TRep μ2 g (fireS op t a b hit).1 → GRep μ2 g (plf f bn t a b) cs → OffG g μ μ2 → P (some (vI (nI (fireS op t a b hit).2))) μ2) : Ok l K d 17 [vR 1 g 0, vI (nI a), vI (nI b), vI (bi hit)] μ P := by
  refine ok_go 4 (by decide +kernel) [some (vR 1 g 0), some (vI (nI a)), some (vI (nI b)), some (vI (bi hit))] rfl (Nat.le_of_ble_eq_true rfl) ?_
  have hg6 : g < 6 := by omega
  have hd2 : 1 ≤ d := by omega
  obtain ⟨ha, hb, hsa, hsb, h44, hp8, -⟩ := chS_pos hch
  have hn := hI.1
  have hva : vp_in (nI a) 6 := vin (by omega) (by omega)
  have hxa : ix (nI a) = a := nI_ix (by omega)
  have a4 := (hT.row ha).2.1
  have f1 := hG.1 1 (by omega) (by omega)
  have f4 := hG.1 4 (by omega) (by omega)
  have u4 : ∀ v, up μ 1 g 0 1 v 1 g 0 4 = f 4 := fun v => by rw [up_ne (by omega)]; exact f4
  have u1 : ∀ v, up μ 1 g 0 1 v 1 g 0 1 = v := fun v => up_self _ _ _ _ _ _
  have hG1 : GRep (up μ 1 g 0 1 (f 1 + 1)) g (fu f 1 (f 1 + 1)) cs := gr_up hG 1 _
  have hT1 : TRep (up μ 1 g 0 1 (f 1 + 1)) g t := tr_up1 hT
  have w4 : ∀ s j v, up (up μ 1 g 0 1 (f 1 + 1)) 1 g s j v 6 g 4 a = nI (t 4 a) := fun s j v => by rw [up_ne (by omega), up_ne (by omega)]; exact a4
  have w4' : up μ 1 g 0 1 (f 1 + 1) 6 g 4 a = nI (t 4 a) := by rw [up_ne (by omega)]; exact a4
  have hO1 : OffG g μ (up μ 1 g 0 1 (f 1 + 1)) := (OffG.rf g μ).up _ _ _
  have fin : ∀ (μ1 : Mm) (f' : Nat → Int32) (P2 : Option AV → Mm → Prop), TRep μ1 g t → GRep μ1 g f' cs → OffG g μ μ1 → (∀ k, 1 ≤ k → k ≤ 5 → plf f bn t a b k = f' k) → (∀ μ2 v, P (some (vI v)) μ2 → P2 (some (vI v)) μ2) → Ok l K (d - 1) 68 [vR 6 g 0, vI (nI a), vI (nI b), vI (bi hit)] μ1 P2 := by
    intro μ1 f' P2 hT2 hG2 hO2 hf hP2
    have hC2 : CRep μ1 true op := hC.off (hO2 0 0 (by omega) (by omega))
    refine ok_fire hg6 hT2 hI hC2 ha hb hsb hp8 (by omega) (fun μ2 hT3 hO3 => ?_)
    exact hP2 _ _ (h μ2 hT3 ((hG2.off (hO3 1 g (by omega))).congr hf (fun _ _ => rfl)) (hO2.tr hO3.g))
  refine go_blk [(.aload_n 0, 0, 0, 0), (.dup, 0, 0, 0), (.getfield 9, 1, 1, 0), (.iconst 1, 0, 0, 0), (.iadd, 0, 0, 0), (.putfield 9, 1, 1, 0)] (by decide +kernel) ?_
  simp only [e_al_0, e_dupI, e_dupR, e_gf_1_1, e_ic_1, e_iadd, e_pf_1_1, rd_1_1, e_nil, nol_n, nol_I, nol_R, rsum_0, rsum_I, rsum_R, ps_s, ps_n, true_and, and_true, Nat.reduceAdd, Nat.reduceLeDiff, hg, hg6, hd2, hva, hxa, f1, u4, u1, w4, w4', bi_0, Bool.not_eq_false]
  refine go_blk [(.aload_n 0, 0, 0, 0), (.getfield 21, 1, 4, 0), (.iconst (-1), 0, 0, 0), (.if_icmp .ne 20, 35, 0, 0)] (by decide +kernel) ?_
  simp only [e_al_0, e_gf_1_4, e_ic_m1, e_icmp_ne, rd_1_4, e_nil, nol_n, nol_I, nol_R, rsum_0, rsum_I, rsum_R, ps_s, ps_n, true_and, and_true, Nat.reduceAdd, Nat.reduceLeDiff, hg, hg6, hd2, hva, hxa, f1, u4, u1, w4, w4', bi_0, Bool.not_eq_false]
  refine ⟨fun c15 => ?_, fun c15 => ?_⟩
  · refine go_blk [(.aload_n 0, 0, 0, 0), (.aload_n 0, 0, 0, 0), (.getfield 36, 1, 0, 0), (.getfield 69, 6, 3, 0), (.iload_n 1, 0, 0, 0), (.iaload, 0, 0, 0), (.putfield 15, 1, 2, 0)] (by decide +kernel) ?_
    simp only [e_al_0, e_gf_1_0, e_gf_6_3, e_il_1, e_ia, e_pf_1_2, rd_1_0, rd_6_3, ai_0_4, ai_1_7, ai_2_1, ai_2_2, ai_3_1, ai_4_1, ai_6_3, ai_6_4, ai_6_5, ai_6_6, ai_6_7, ai_6_8, ai_8_5, ai_8_6, ai_8_17, ai_8_21, ai_8_23, ai_8_24, ai_8_27, ai_8_28, ai_8_38, ai_8_39, ai_8_40, e_nil, nol_n, nol_I, nol_R, rsum_0, rsum_I, rsum_R, ps_s, ps_n, true_and, and_true, Nat.reduceAdd, Nat.reduceLeDiff, hg, hg6, hd2, hva, hxa, f1, u4, u1, w4, w4', bi_0, Bool.not_eq_false]
    refine go_blk [(.aload_n 0, 0, 0, 0), (.getfield 36, 1, 0, 0), (.iload_n 1, 0, 0, 0), (.iload_n 2, 0, 0, 0), (.iload_n 3, 0, 0, 0), (.invokevirtual 72, 68, 3, 6)] (by decide +kernel) ?_
    simp only [e_al_0, e_gf_1_0, e_il_1, e_il_2, e_il_3, e_iv_6_3, rd_1_0, e_nil, nol_n, nol_I, nol_R, rsum_0, rsum_I, rsum_R, ps_s, ps_n, true_and, and_true, Nat.reduceAdd, Nat.reduceLeDiff, hg, hg6, hd2, hva, hxa, f1, u4, u1, w4, w4', bi_0, Bool.not_eq_false]
    refine fin (up (up μ 1 g 0 1 (f 1 + 1)) 1 g 0 2 (nI (t 4 a))) (fu (fu f 1 (f 1 + 1)) 2 (nI (t 4 a))) _ (tr_up1 hT1) (gr_up hG1 2 _) (hO1.up _ _ _) (fun k h1 h2 => ?_) (fun μ2 v hv => ?_)
    · rcases (show k = 1 ∨ k = 2 ∨ k = 3 ∨ k = 4 ∨ k = 5 by omega) with rfl | rfl | rfl | rfl | rfl <;> simp [plf, fu, c15]
    refine go_blk [(.ireturn, 0, 0, 0)] (by decide +kernel) ?_
    simp only [e_iret0, e_nil, nol_n, nol_I, nol_R, rsum_0, rsum_I, rsum_R, ps_s, ps_n, true_and, and_true, Nat.reduceAdd, Nat.reduceLeDiff, hg, hg6, hd2, hva, hxa, f1, u4, u1, w4, w4', bi_0, Bool.not_eq_false]
    exact hv
  · refine go_blk [(.aload_n 0, 0, 0, 0), (.iload_n 1, 0, 0, 0), (.iload_n 2, 0, 0, 0), (.invokevirtual 65, 19, 2, 1)] (by decide +kernel) ?_
    simp only [e_al_0, e_il_1, e_il_2, e_iv_1_2, e_nil, nol_n, nol_I, nol_R, rsum_0, rsum_I, rsum_R, ps_s, ps_n, true_and, and_true, Nat.reduceAdd, Nat.reduceLeDiff, hg, hg6, hd2, hva, hxa, f1, u4, u1, w4, w4', bi_0, Bool.not_eq_false]
    refine ok_isForbidden hg hT1 hI hG1 (by rw [fu_ne (by omega)]; exact hb3) hbn ha hb (by omega) ?_
    rw [fu_ne (by omega)]
    refine go_blk [(.ifCond .eq 11, 35, 0, 0)] (by decide +kernel) ?_
    simp only [e_if_eq, e_nil, nol_n, nol_I, nol_R, rsum_0, rsum_I, rsum_R, ps_s, ps_n, true_and, and_true, Nat.reduceAdd, Nat.reduceLeDiff, hg, hg6, hd2, hva, hxa, f1, u4, u1, w4, w4', bi_0, Bool.not_eq_false]
    refine ⟨fun c24 => ?_, fun c24 => ?_⟩
    · refine go_blk [(.aload_n 0, 0, 0, 0), (.aload_n 0, 0, 0, 0), (.getfield 36, 1, 0, 0), (.getfield 69, 6, 3, 0), (.iload_n 1, 0, 0, 0), (.iaload, 0, 0, 0), (.putfield 15, 1, 2, 0)] (by decide +kernel) ?_
      simp only [e_al_0, e_gf_1_0, e_gf_6_3, e_il_1, e_ia, e_pf_1_2, rd_1_0, rd_6_3, ai_0_4, ai_1_7, ai_2_1, ai_2_2, ai_3_1, ai_4_1, ai_6_3, ai_6_4, ai_6_5, ai_6_6, ai_6_7, ai_6_8, ai_8_5, ai_8_6, ai_8_17, ai_8_21, ai_8_23, ai_8_24, ai_8_27, ai_8_28, ai_8_38, ai_8_39, ai_8_40, e_nil, nol_n, nol_I, nol_R, rsum_0, rsum_I, rsum_R, ps_s, ps_n, true_and, and_true, Nat.reduceAdd, Nat.reduceLeDiff, hg, hg6, hd2, hva, hxa, f1, u4, u1, w4, w4', bi_0, Bool.not_eq_false]
      refine go_blk [(.aload_n 0, 0, 0, 0), (.getfield 36, 1, 0, 0), (.iload_n 1, 0, 0, 0), (.iload_n 2, 0, 0, 0), (.iload_n 3, 0, 0, 0), (.invokevirtual 72, 68, 3, 6)] (by decide +kernel) ?_
      simp only [e_al_0, e_gf_1_0, e_il_1, e_il_2, e_il_3, e_iv_6_3, rd_1_0, e_nil, nol_n, nol_I, nol_R, rsum_0, rsum_I, rsum_R, ps_s, ps_n, true_and, and_true, Nat.reduceAdd, Nat.reduceLeDiff, hg, hg6, hd2, hva, hxa, f1, u4, u1, w4, w4', bi_0, Bool.not_eq_false]
      refine fin (up (up μ 1 g 0 1 (f 1 + 1)) 1 g 0 2 (nI (t 4 a))) (fu (fu f 1 (f 1 + 1)) 2 (nI (t 4 a))) _ (tr_up1 hT1) (gr_up hG1 2 _) (hO1.up _ _ _) (fun k h1 h2 => ?_) (fun μ2 v hv => ?_)
      · rcases (show k = 1 ∨ k = 2 ∨ k = 3 ∨ k = 4 ∨ k = 5 by omega) with rfl | rfl | rfl | rfl | rfl <;> simp [plf, fu, c24]
      refine go_blk [(.ireturn, 0, 0, 0)] (by decide +kernel) ?_
      simp only [e_iret0, e_nil, nol_n, nol_I, nol_R, rsum_0, rsum_I, rsum_R, ps_s, ps_n, true_and, and_true, Nat.reduceAdd, Nat.reduceLeDiff, hg, hg6, hd2, hva, hxa, f1, u4, u1, w4, w4', bi_0, Bool.not_eq_false]
      exact hv
    · refine go_blk [(.aload_n 0, 0, 0, 0), (.aload_n 0, 0, 0, 0), (.getfield 9, 1, 1, 0), (.putfield 21, 1, 4, 0)] (by decide +kernel) ?_
      simp only [e_al_0, e_gf_1_1, e_pf_1_4, rd_1_1, e_nil, nol_n, nol_I, nol_R, rsum_0, rsum_I, rsum_R, ps_s, ps_n, true_and, and_true, Nat.reduceAdd, Nat.reduceLeDiff, hg, hg6, hd2, hva, hxa, f1, u4, u1, w4, w4', bi_0, Bool.not_eq_false]
      refine go_blk [(.aload_n 0, 0, 0, 0), (.aload_n 0, 0, 0, 0), (.getfield 36, 1, 0, 0), (.getfield 69, 6, 3, 0), (.iload_n 1, 0, 0, 0), (.iaload, 0, 0, 0), (.putfield 15, 1, 2, 0)] (by decide +kernel) ?_
      simp only [e_al_0, e_gf_1_0, e_gf_6_3, e_il_1, e_ia, e_pf_1_2, rd_1_0, rd_6_3, ai_0_4, ai_1_7, ai_2_1, ai_2_2, ai_3_1, ai_4_1, ai_6_3, ai_6_4, ai_6_5, ai_6_6, ai_6_7, ai_6_8, ai_8_5, ai_8_6, ai_8_17, ai_8_21, ai_8_23, ai_8_24, ai_8_27, ai_8_28, ai_8_38, ai_8_39, ai_8_40, e_nil, nol_n, nol_I, nol_R, rsum_0, rsum_I, rsum_R, ps_s, ps_n, true_and, and_true, Nat.reduceAdd, Nat.reduceLeDiff, hg, hg6, hd2, hva, hxa, f1, u4, u1, w4, w4', bi_0, Bool.not_eq_false]
      refine go_blk [(.aload_n 0, 0, 0, 0), (.getfield 36, 1, 0, 0), (.iload_n 1, 0, 0, 0), (.iload_n 2, 0, 0, 0), (.iload_n 3, 0, 0, 0), (.invokevirtual 72, 68, 3, 6)] (by decide +kernel) ?_
      simp only [e_al_0, e_gf_1_0, e_il_1, e_il_2, e_il_3, e_iv_6_3, rd_1_0, e_nil, nol_n, nol_I, nol_R, rsum_0, rsum_I, rsum_R, ps_s, ps_n, true_and, and_true, Nat.reduceAdd, Nat.reduceLeDiff, hg, hg6, hd2, hva, hxa, f1, u4, u1, w4, w4', bi_0, Bool.not_eq_false]
      refine fin (up (up (up μ 1 g 0 1 (f 1 + 1)) 1 g 0 4 (f 1 + 1)) 1 g 0 2 (nI (t 4 a))) (fu (fu (fu f 1 (f 1 + 1)) 4 (f 1 + 1)) 2 (nI (t 4 a))) _ (tr_up1 (tr_up1 hT1)) (gr_up (gr_up hG1 4 _) 2 _) ((hO1.up _ _ _).up _ _ _) (fun k h1 h2 => ?_) (fun μ2 v hv => ?_)
      · rcases (show k = 1 ∨ k = 2 ∨ k = 3 ∨ k = 4 ∨ k = 5 by omega) with rfl | rfl | rfl | rfl | rfl <;> simp [plf, fu, c15, c24]
      refine go_blk [(.ireturn, 0, 0, 0)] (by decide +kernel) ?_
      simp only [e_iret0, e_nil, nol_n, nol_I, nol_R, rsum_0, rsum_I, rsum_R, ps_s, ps_n, true_and, and_true, Nat.reduceAdd, Nat.reduceLeDiff, hg, hg6, hd2, hva, hxa, f1, u4, u1, w4, w4', bi_0, Bool.not_eq_false]
      exact hv
