section
variable {l : Launch} {K : KK} {d n : Nat} {P : Option AV → Mm → Prop} {qs : List QI} {pc a b : Nat} {w : Int} {lv : LV} {st : List AV} {μ : Mm}
theorem q_ld2_31 {i : Nat} : xb l K d n P ((.ldc2_w i, a, b, 31) :: qs) pc lv st μ = xb l K d n P qs (pc + 3) lv (vJ 31 :: st) μ := Eq.trans e_ld2_31 rfl
theorem q_ld2_839 {i : Nat} : xb l K d n P ((.ldc2_w i, a, b, 839) :: qs) pc lv st μ = xb l K d n P qs (pc + 3) lv (vJ 839 :: st) μ := Eq.trans e_ld2_839 rfl
end
def mixV (h : Int64) (v : Int32) : Int64 := 31 * h + v.toInt64
def fdI (g : Nat → Int32) : Nat → Nat → Int64 → Int64
  | 0, _, h => h
  | r + 1, j, h => fdI g r (j + 1) (mixV h (g j))
def fdC (S : SS) : Nat → Nat → Int64 → Int64
  | 0, _, h => h
  | r + 1, c, h => fdC S r (c + 1) (fdI (fun w => vCell (nI c) (nI w) S) 3 0 h)
def fdS (S : SS) (n : Nat) : Nat → Nat → Int64 → Int64
  | 0, _, h => h
  | r + 1, k, h => fdS S n r (k + 1) (fdI (fun b => vTenths (nI k) (nI b) S) n 0 (fdI (fun w => vAbout (nI k) (nI w) S) 6 0 h))
def sLd (S : SS) : Bool := S.2.1.1
def sN (S : SS) : Nat := S.2.2.1 0 1
def sL (S : SS) : Nat := S.1.1
def sPg (S : SS) : Nat → Nat := S.1.2
def dgC (S : SS) (h : Int64) : Int64 := if sLd S = false then h else mixV (fdC S 15 0 h) (vFits S)
def dgV (S : SS) : Int64 := fdI (fun k => vCount (nI k) S) 14 0 (fdI (fun j => nI (sPg S j)) (sL S) 0 (fdS S (sN S) (sN S) 0 (dgC S 839)))
theorem rc_ld {μ : Mm} {S : SS} (h : RC μ S) : μ 0 0 0 0 = bi (sLd S) := by
  obtain ⟨⟨L, pg⟩, ⟨laid, op⟩, t, ⟨f, cs⟩, ⟨im, t2, f2, cs2⟩, q, w, b⟩ := S
  exact h.1.2.1.1
theorem rc_n1 {μ : Mm} {S : SS} (h : RC μ S) : μ 6 0 0 1 = nI (sN S) := by
  obtain ⟨⟨L, pg⟩, ⟨laid, op⟩, t, ⟨f, cs⟩, ⟨im, t2, f2, cs2⟩, q, w, b⟩ := S
  exact h.2.1.1.1
theorem rc_p1 {μ : Mm} {S : SS} (h : RC μ S) : μ 3 0 0 1 = nI (sL S) ∧ sL S ≤ 22 ∧ ∀ j, j < sL S → μ 3 0 1 j = nI (sPg S j) := by
  obtain ⟨⟨L, pg⟩, ⟨laid, op⟩, t, ⟨f, cs⟩, ⟨im, t2, f2, cs2⟩, q, w, b⟩ := S
  exact ⟨h.1.1.1, h.1.1.2.1, fun j hj => (h.1.1.2.2 j hj).1⟩
theorem inv_n {N : Nat} {S : SS} (h : Inv N S) : sN S ≤ 6 := by
  obtain ⟨⟨L, pg⟩, ⟨laid, op⟩, t, ⟨f, cs⟩, ⟨im, t2, f2, cs2⟩, q, w, b⟩ := S
  exact h.2.2.1.1.1
theorem lp_dc1 {l : Launch} {K : KK} {d : Nat} {P : Option AV → Mm → Prop} {N : Nat} {S : SS} {μ0 : Mm} (hV : Inv N S) (hd1 : 16 ≤ d) {x0 : Int64} {c : Nat} {Z : Int64} (hk : ∀ μ2 y6, RC μ2 S → Off8 μ0 μ2 → Go l K d 98 55 [some (vR 7 0 0), some (vJ x0), none, some (vJ Z), none, some (vI (nI c)), y6] [] μ2 P) : ∀ (r e : Nat) (hh : Int64) (μ : Mm), e + r = 3 → RC μ S → Off8 μ0 μ → fdI (fun w => vCell (nI c) (nI w) S) r e hh = Z → Go l K d 98 27 [some (vR 7 0 0), some (vJ x0), none, some (vJ hh), none, some (vI (nI c)), some (vI (nI e))] [] μ P := by
  have hd2 : 1 ≤ d := by omega
  intro r
  induction r with
  | zero =>
    intro e hh μ he hR hO hZ
    have e0 : e = 3 := by omega
    subst e0
    have hZ' : hh = Z := hZ
    subst hZ'
    refine go_blk [(.iload 6, 0, 0, 0), (.iconst 2, 0, 0, 0), (.if_icmp .gt 25, 55, 0, 0)] (by decide +kernel) ?_
    simp only [e_ilw_6, e_ic_2, e_icmp_gt, e_nil, nol_n, nol_I, nol_R, rsum_0, rsum_I, rsum_R, ps_s, ps_n, true_and, and_true, Nat.reduceAdd, Nat.reduceLeDiff]
    refine ⟨fun c30 => ?_, fun c30 => ?_⟩
    · exact hk μ _ hR hO
    · exact absurd (by decide) c30
  | succ r ih =>
    intro e hh μ he hR hO hZ
    have u : fdI (fun w => vCell (nI c) (nI w) S) (r + 1) e hh = fdI (fun w => vCell (nI c) (nI w) S) r (e + 1) (mixV hh (vCell (nI c) (nI e) S)) := rfl
    rw [u] at hZ
    refine go_blk [(.iload 6, 0, 0, 0), (.iconst 2, 0, 0, 0), (.if_icmp .gt 25, 55, 0, 0)] (by decide +kernel) ?_
    simp only [e_ilw_6, e_ic_2, e_icmp_gt, e_nil, nol_n, nol_I, nol_R, rsum_0, rsum_I, rsum_R, ps_s, ps_n, true_and, and_true, Nat.reduceAdd, Nat.reduceLeDiff, rsum_J, hd2]
    refine ⟨fun c30 => ?_, fun c30 => ?_⟩
    · exact absurd c30 (nI_nlt (a := 2) (b := e) (by omega) (by omega))
    · refine go_blk [(.ldc2_w 267, 0, 0, 31), (.lload_n 3, 0, 0, 0), (.lmul, 0, 0, 0), (.aload_n 0, 0, 0, 0), (.iload 5, 0, 0, 0), (.iload 6, 0, 0, 0), (.invokevirtual 276, 79, 2, 7)] (by decide +kernel) ?_
      simp only [q_ld2_31, e_ll_3, q_lmul, e_al_0, e_ilw_5, e_ilw_6, e_iv_7_2, e_nil, nol_n, nol_I, nol_R, rsum_0, rsum_I, rsum_R, ps_s, ps_n, true_and, and_true, Nat.reduceAdd, Nat.reduceLeDiff, rsum_J, hd2]
      refine xc_cell hV hR (by omega) (fun μ2 r2 o2 => ?_)
      refine go_blk [(.i2l, 0, 0, 0), (.ladd, 0, 0, 0), (.lstore_n 3, 0, 0, 0), (.iinc 6 1, 0, 0, 0), (.goto (-25), 27, 0, 0)] (by decide +kernel) ?_
      simp only [q_i2l, q_ladd, e_ls_3n, e_ls_3I, e_ls_3R, e_inc_6_1n, e_inc_6_1I, e_inc_6_1R, e_goto, e_nil, nol_n, nol_I, nol_R, rsum_0, rsum_I, rsum_R, ps_s, ps_n, true_and, and_true, Nat.reduceAdd, Nat.reduceLeDiff, rsum_J, hd2]
      rw [nI_1]
      exact ih (e + 1) _ μ2 (by omega) r2 (o2.trans hO) hZ
theorem lp_dc2 {l : Launch} {K : KK} {d : Nat} {P : Option AV → Mm → Prop} {N : Nat} {S : SS} {μ0 : Mm} (hV : Inv N S) (hd1 : 16 ≤ d) {x0 : Int64} {Z : Int64} (hk : ∀ μ2 y5 y6, RC μ2 S → Off8 μ0 μ2 → Go l K d 98 61 [some (vR 7 0 0), some (vJ x0), none, some (vJ Z), none, y5, y6] [] μ2 P) : ∀ (r c : Nat) (hh : Int64) (μ : Mm) (y6 : Option AV), c + r = 15 → RC μ S → Off8 μ0 μ → fdC S r c hh = Z → Go l K d 98 17 [some (vR 7 0 0), some (vJ x0), none, some (vJ hh), none, some (vI (nI c)), y6] [] μ P := by
  intro r
  induction r with
  | zero =>
    intro c hh μ y6 he hR hO hZ
    have e0 : c = 15 := by omega
    subst e0
    have hZ' : hh = Z := hZ
    subst hZ'
    refine go_blk [(.iload 5, 0, 0, 0), (.bipush 15, 0, 0, 0), (.if_icmp .ge 40, 61, 0, 0)] (by decide +kernel) ?_
    simp only [e_ilw_5, e_bp_15, e_icmp_ge, e_nil, nol_n, nol_I, nol_R, rsum_0, rsum_I, rsum_R, ps_s, ps_n, true_and, and_true, Nat.reduceAdd, Nat.reduceLeDiff]
    refine ⟨fun c21 => ?_, fun c21 => ?_⟩
    · exact hk μ _ _ hR hO
    · exact absurd (by decide) c21
  | succ r ih =>
    intro c hh μ y6 he hR hO hZ
    have u : fdC S (r + 1) c hh = fdC S r (c + 1) (fdI (fun w => vCell (nI c) (nI w) S) 3 0 hh) := rfl
    rw [u] at hZ
    refine go_blk [(.iload 5, 0, 0, 0), (.bipush 15, 0, 0, 0), (.if_icmp .ge 40, 61, 0, 0)] (by decide +kernel) ?_
    simp only [e_ilw_5, e_bp_15, e_icmp_ge, e_nil, nol_n, nol_I, nol_R, rsum_0, rsum_I, rsum_R, ps_s, ps_n, true_and, and_true, Nat.reduceAdd, Nat.reduceLeDiff]
    refine ⟨fun c21 => ?_, fun c21 => ?_⟩
    · exact absurd c21 (nI_ge (b := 15) (by omega) (by omega))
    · refine go_blk [(.iconst 0, 0, 0, 0), (.istore 6, 0, 0, 0)] (by decide +kernel) ?_
      simp only [e_ic_0, e_isw_6n, e_isw_6I, e_isw_6R, e_nil, nol_n, nol_I, nol_R, rsum_0, rsum_I, rsum_R, ps_s, ps_n, true_and, and_true, Nat.reduceAdd, Nat.reduceLeDiff]
      refine lp_dc1 hV hd1 (fun μ2 y r2 o2 => ?_) 3 0 hh μ (by omega) hR hO rfl
      refine go_blk [(.iinc 5 1, 0, 0, 0), (.goto (-41), 17, 0, 0)] (by decide +kernel) ?_
      simp only [e_inc_5_1n, e_inc_5_1I, e_inc_5_1R, e_goto, e_nil, nol_n, nol_I, nol_R, rsum_0, rsum_I, rsum_R, ps_s, ps_n, true_and, and_true, Nat.reduceAdd, Nat.reduceLeDiff]
      rw [nI_1]
      exact ih (c + 1) _ μ2 _ (by omega) r2 o2 hZ
theorem xc_dgC {l : Launch} {K : KK} {d : Nat} {μ : Mm} {P : Option AV → Mm → Prop} {N : Nat} {S : SS} {hh : Int64} (hV : Inv N S) (hR : RC μ S) (hd1 : 16 ≤ d) (h : ∀ μ2, RC μ2 S → Off8 μ μ2 → P (some (vJ (dgC S hh))) μ2) : Ok l K d 98 [vR 7 0 0, vJ hh] μ P := by
  refine ok_go 7 (by decide +kernel) [some (vR 7 0 0), some (vJ hh), none, none, none, none, none] rfl (Nat.le_of_ble_eq_true rfl) ?_
  have hd2 : 1 ≤ d := by omega
  have rl := rc_ld hR
  have el := bi_0 (sLd S)
  refine go_blk [(.aload_n 0, 0, 0, 0), (.getfield 19, 7, 1, 0), (.getfield 105, 0, 0, 0), (.ifCond .ne 5, 12, 0, 0)] (by decide +kernel) ?_
  simp only [e_al_0, e_gf_7_1, e_gf_0_0, e_if_ne, rd_7_1, rd_0_0, e_nil, nol_n, nol_I, nol_R, rsum_0, rsum_I, rsum_R, ps_s, ps_n, true_and, and_true, Nat.reduceAdd, Nat.reduceLeDiff, rsum_J, rl, el, hd2]
  refine ⟨fun c7 => ?_, fun c7 => ?_⟩
  · have e : dgC S hh = mixV (fdC S 15 0 hh) (vFits S) := if_neg c7
    rw [e] at h
    refine go_blk [(.lload_n 1, 0, 0, 0), (.lstore_n 3, 0, 0, 0), (.iconst 0, 0, 0, 0), (.istore 5, 0, 0, 0)] (by decide +kernel) ?_
    simp only [e_ll_1, e_ls_3n, e_ls_3I, e_ls_3R, e_ic_0, e_isw_5n, e_isw_5I, e_isw_5R, e_nil, nol_n, nol_I, nol_R, rsum_0, rsum_I, rsum_R, ps_s, ps_n, true_and, and_true, Nat.reduceAdd, Nat.reduceLeDiff, rsum_J, rl, el, hd2]
    refine lp_dc2 (μ0 := μ) hV hd1 (fun μ2 y5 y6 r2 o2 => ?_) 15 0 hh μ none (by omega) hR rfl rfl
    refine go_blk [(.ldc2_w 267, 0, 0, 31), (.lload_n 3, 0, 0, 0), (.lmul, 0, 0, 0), (.aload_n 0, 0, 0, 0), (.invokevirtual 279, 91, 0, 7)] (by decide +kernel) ?_
    simp only [q_ld2_31, e_ll_3, q_lmul, e_al_0, e_iv_7_0, e_nil, nol_n, nol_I, nol_R, rsum_0, rsum_I, rsum_R, ps_s, ps_n, true_and, and_true, Nat.reduceAdd, Nat.reduceLeDiff, rsum_J, hd2]
    refine xc_fits hV r2 (by omega) (fun μ3 r3 o3 => ?_)
    refine go_blk [(.i2l, 0, 0, 0), (.ladd, 0, 0, 0), (.lreturn, 0, 0, 0)] (by decide +kernel) ?_
    simp only [q_i2l, q_ladd, e_lret, e_nil, nol_n, nol_I, nol_R, rsum_0, rsum_I, rsum_R, ps_s, ps_n, true_and, and_true, Nat.reduceAdd, Nat.reduceLeDiff, rsum_J, hd2]
    exact h μ3 r3 (o3.trans o2)
  · have e : dgC S hh = hh := if_pos c7
    rw [e] at h
    refine go_blk [(.lload_n 1, 0, 0, 0), (.lreturn, 0, 0, 0)] (by decide +kernel) ?_
    simp only [e_ll_1, e_lret, e_nil, nol_n, nol_I, nol_R, rsum_0, rsum_I, rsum_R, ps_s, ps_n, true_and, and_true, Nat.reduceAdd, Nat.reduceLeDiff, rsum_J, rl, el, hd2]
    exact h μ hR rfl
theorem lp_ds1 {l : Launch} {K : KK} {d : Nat} {P : Option AV → Mm → Prop} {N : Nat} {S : SS} {μ0 : Mm} (hV : Inv N S) (hd1 : 16 ≤ d) {x0 : Int64} {c : Nat} {Z : Int64} (hk : ∀ μ2 y6, RC μ2 S → Off8 μ0 μ2 → Go l K d 99 51 [some (vR 7 0 0), some (vJ x0), none, some (vJ Z), none, some (vI (nI c)), y6] [] μ2 P) : ∀ (r e : Nat) (hh : Int64) (μ : Mm), e + r = 6 → RC μ S → Off8 μ0 μ → fdI (fun w => vAbout (nI c) (nI w) S) r e hh = Z → Go l K d 99 23 [some (vR 7 0 0), some (vJ x0), none, some (vJ hh), none, some (vI (nI c)), some (vI (nI e))] [] μ P := by
  have hd2 : 1 ≤ d := by omega
  intro r
  induction r with
  | zero =>
    intro e hh μ he hR hO hZ
    have e0 : e = 6 := by omega
    subst e0
    have hZ' : hh = Z := hZ
    subst hZ'
    refine go_blk [(.iload 6, 0, 0, 0), (.iconst 5, 0, 0, 0), (.if_icmp .gt 25, 51, 0, 0)] (by decide +kernel) ?_
    simp only [e_ilw_6, e_ic_5, e_icmp_gt, e_nil, nol_n, nol_I, nol_R, rsum_0, rsum_I, rsum_R, ps_s, ps_n, true_and, and_true, Nat.reduceAdd, Nat.reduceLeDiff]
    refine ⟨fun c26 => ?_, fun c26 => ?_⟩
    · exact hk μ _ hR hO
    · exact absurd (by decide) c26
  | succ r ih =>
    intro e hh μ he hR hO hZ
    have u : fdI (fun w => vAbout (nI c) (nI w) S) (r + 1) e hh = fdI (fun w => vAbout (nI c) (nI w) S) r (e + 1) (mixV hh (vAbout (nI c) (nI e) S)) := rfl
    rw [u] at hZ
    refine go_blk [(.iload 6, 0, 0, 0), (.iconst 5, 0, 0, 0), (.if_icmp .gt 25, 51, 0, 0)] (by decide +kernel) ?_
    simp only [e_ilw_6, e_ic_5, e_icmp_gt, e_nil, nol_n, nol_I, nol_R, rsum_0, rsum_I, rsum_R, ps_s, ps_n, true_and, and_true, Nat.reduceAdd, Nat.reduceLeDiff, rsum_J, hd2]
    refine ⟨fun c26 => ?_, fun c26 => ?_⟩
    · exact absurd c26 (nI_nlt (a := 5) (b := e) (by omega) (by omega))
    · refine go_blk [(.ldc2_w 267, 0, 0, 31), (.lload_n 3, 0, 0, 0), (.lmul, 0, 0, 0), (.aload_n 0, 0, 0, 0), (.iload 5, 0, 0, 0), (.iload 6, 0, 0, 0), (.invokevirtual 282, 81, 2, 7)] (by decide +kernel) ?_
      simp only [q_ld2_31, e_ll_3, q_lmul, e_al_0, e_ilw_5, e_ilw_6, e_iv_7_2, e_nil, nol_n, nol_I, nol_R, rsum_0, rsum_I, rsum_R, ps_s, ps_n, true_and, and_true, Nat.reduceAdd, Nat.reduceLeDiff, rsum_J, hd2]
      refine xc_about hV hR (by omega) (fun μ2 r2 o2 => ?_)
      refine go_blk [(.i2l, 0, 0, 0), (.ladd, 0, 0, 0), (.lstore_n 3, 0, 0, 0), (.iinc 6 1, 0, 0, 0), (.goto (-25), 23, 0, 0)] (by decide +kernel) ?_
      simp only [q_i2l, q_ladd, e_ls_3n, e_ls_3I, e_ls_3R, e_inc_6_1n, e_inc_6_1I, e_inc_6_1R, e_goto, e_nil, nol_n, nol_I, nol_R, rsum_0, rsum_I, rsum_R, ps_s, ps_n, true_and, and_true, Nat.reduceAdd, Nat.reduceLeDiff, rsum_J, hd2]
      rw [nI_1]
      exact ih (e + 1) _ μ2 (by omega) r2 (o2.trans hO) hZ
theorem lp_ds2 {l : Launch} {K : KK} {d : Nat} {P : Option AV → Mm → Prop} {N : Nat} {S : SS} {μ0 : Mm} (hV : Inv N S) (hd1 : 16 ≤ d) {x0 : Int64} {c : Nat} {Z : Int64} (hk : ∀ μ2 y6, RC μ2 S → Off8 μ0 μ2 → Go l K d 99 91 [some (vR 7 0 0), some (vJ x0), none, some (vJ Z), none, some (vI (nI c)), y6] [] μ2 P) : ∀ (r e : Nat) (hh : Int64) (μ : Mm), e + r = sN S → RC μ S → Off8 μ0 μ → fdI (fun b => vTenths (nI c) (nI b) S) r e hh = Z → Go l K d 99 54 [some (vR 7 0 0), some (vJ x0), none, some (vJ hh), none, some (vI (nI c)), some (vI (nI e))] [] μ P := by
  have hd2 : 1 ≤ d := by omega
  have hn := inv_n hV
  intro r
  induction r with
  | zero =>
    intro e hh μ he hR hO hZ
    have rn := rc_n1 hR
    have e0 : e = sN S := by omega
    subst e0
    have hZ' : hh = Z := hZ
    subst hZ'
    refine go_blk [(.iload 6, 0, 0, 0), (.aload_n 0, 0, 0, 0), (.getfield 28, 7, 2, 0), (.getfield 118, 1, 0, 0), (.getfield 139, 6, 1, 0), (.if_icmp .ge 25, 91, 0, 0)] (by decide +kernel) ?_
    simp only [e_ilw_6, e_al_0, e_gf_7_2, e_gf_1_0, e_gf_6_1, e_icmp_ge, rd_7_2, rd_1_0, rd_6_1, e_nil, nol_n, nol_I, nol_R, rsum_0, rsum_I, rsum_R, ps_s, ps_n, true_and, and_true, Nat.reduceAdd, Nat.reduceLeDiff, rn, Nat.reduceLT]
    refine ⟨fun c66 => ?_, fun c66 => ?_⟩
    · exact hk μ _ hR hO
    · exact absurd (nI_le (Nat.le_refl _) (by omega)) c66
  | succ r ih =>
    intro e hh μ he hR hO hZ
    have rn := rc_n1 hR
    have u : fdI (fun b => vTenths (nI c) (nI b) S) (r + 1) e hh = fdI (fun b => vTenths (nI c) (nI b) S) r (e + 1) (mixV hh (vTenths (nI c) (nI e) S)) := rfl
    rw [u] at hZ
    refine go_blk [(.iload 6, 0, 0, 0), (.aload_n 0, 0, 0, 0), (.getfield 28, 7, 2, 0), (.getfield 118, 1, 0, 0), (.getfield 139, 6, 1, 0), (.if_icmp .ge 25, 91, 0, 0)] (by decide +kernel) ?_
    simp only [e_ilw_6, e_al_0, e_gf_7_2, e_gf_1_0, e_gf_6_1, e_icmp_ge, rd_7_2, rd_1_0, rd_6_1, e_nil, nol_n, nol_I, nol_R, rsum_0, rsum_I, rsum_R, ps_s, ps_n, true_and, and_true, Nat.reduceAdd, Nat.reduceLeDiff, rsum_J, hd2, rn, Nat.reduceLT]
    refine ⟨fun c66 => ?_, fun c66 => ?_⟩
    · exact absurd c66 (nI_ge (by omega) (by omega))
    · refine go_blk [(.ldc2_w 267, 0, 0, 31), (.lload_n 3, 0, 0, 0), (.lmul, 0, 0, 0), (.aload_n 0, 0, 0, 0), (.iload 5, 0, 0, 0), (.iload 6, 0, 0, 0), (.invokevirtual 285, 84, 2, 7)] (by decide +kernel) ?_
      simp only [q_ld2_31, e_ll_3, q_lmul, e_al_0, e_ilw_5, e_ilw_6, e_iv_7_2, e_nil, nol_n, nol_I, nol_R, rsum_0, rsum_I, rsum_R, ps_s, ps_n, true_and, and_true, Nat.reduceAdd, Nat.reduceLeDiff, rsum_J, hd2, rn, Nat.reduceLT]
      refine xc_tenths hV hR (by omega) (fun μ2 r2 o2 => ?_)
      refine go_blk [(.i2l, 0, 0, 0), (.ladd, 0, 0, 0), (.lstore_n 3, 0, 0, 0), (.iinc 6 1, 0, 0, 0), (.goto (-34), 54, 0, 0)] (by decide +kernel) ?_
      simp only [q_i2l, q_ladd, e_ls_3n, e_ls_3I, e_ls_3R, e_inc_6_1n, e_inc_6_1I, e_inc_6_1R, e_goto, e_nil, nol_n, nol_I, nol_R, rsum_0, rsum_I, rsum_R, ps_s, ps_n, true_and, and_true, Nat.reduceAdd, Nat.reduceLeDiff, rsum_J, hd2, rn, Nat.reduceLT]
      rw [nI_1]
      exact ih (e + 1) _ μ2 (by omega) r2 (o2.trans hO) hZ
theorem lp_ds3 {l : Launch} {K : KK} {d : Nat} {P : Option AV → Mm → Prop} {N : Nat} {S : SS} {μ0 : Mm} (hV : Inv N S) (hd1 : 16 ≤ d) {x0 : Int64} {Z : Int64} (h : ∀ μ2, RC μ2 S → Off8 μ0 μ2 → P (some (vJ Z)) μ2) : ∀ (r c : Nat) (hh : Int64) (μ : Mm) (y6 : Option AV), c + r = sN S → RC μ S → Off8 μ0 μ → fdS S (sN S) r c hh = Z → Go l K d 99 5 [some (vR 7 0 0), some (vJ x0), none, some (vJ hh), none, some (vI (nI c)), y6] [] μ P := by
  have hn := inv_n hV
  intro r
  induction r with
  | zero =>
    intro c hh μ y6 he hR hO hZ
    have rn := rc_n1 hR
    have e0 : c = sN S := by omega
    subst e0
    have hZ' : hh = Z := hZ
    subst hZ'
    refine go_blk [(.iload 5, 0, 0, 0), (.aload_n 0, 0, 0, 0), (.getfield 28, 7, 2, 0), (.getfield 118, 1, 0, 0), (.getfield 139, 6, 1, 0), (.if_icmp .ge 80, 97, 0, 0)] (by decide +kernel) ?_
    simp only [e_ilw_5, e_al_0, e_gf_7_2, e_gf_1_0, e_gf_6_1, e_icmp_ge, rd_7_2, rd_1_0, rd_6_1, e_nil, nol_n, nol_I, nol_R, rsum_0, rsum_I, rsum_R, ps_s, ps_n, true_and, and_true, Nat.reduceAdd, Nat.reduceLeDiff, rn, Nat.reduceLT]
    refine ⟨fun c17 => ?_, fun c17 => ?_⟩
    · refine go_blk [(.lload_n 3, 0, 0, 0), (.lreturn, 0, 0, 0)] (by decide +kernel) ?_
      simp only [e_ll_3, e_lret, e_nil, nol_n, nol_I, nol_R, rsum_0, rsum_I, rsum_R, ps_s, ps_n, true_and, and_true, Nat.reduceAdd, Nat.reduceLeDiff, rn, Nat.reduceLT]
      exact h μ hR hO
    · exact absurd (nI_le (Nat.le_refl _) (by omega)) c17
  | succ r ih =>
    intro c hh μ y6 he hR hO hZ
    have rn := rc_n1 hR
    have u : fdS S (sN S) (r + 1) c hh = fdS S (sN S) r (c + 1) (fdI (fun b => vTenths (nI c) (nI b) S) (sN S) 0 (fdI (fun w => vAbout (nI c) (nI w) S) 6 0 hh)) := rfl
    rw [u] at hZ
    refine go_blk [(.iload 5, 0, 0, 0), (.aload_n 0, 0, 0, 0), (.getfield 28, 7, 2, 0), (.getfield 118, 1, 0, 0), (.getfield 139, 6, 1, 0), (.if_icmp .ge 80, 97, 0, 0)] (by decide +kernel) ?_
    simp only [e_ilw_5, e_al_0, e_gf_7_2, e_gf_1_0, e_gf_6_1, e_icmp_ge, rd_7_2, rd_1_0, rd_6_1, e_nil, nol_n, nol_I, nol_R, rsum_0, rsum_I, rsum_R, ps_s, ps_n, true_and, and_true, Nat.reduceAdd, Nat.reduceLeDiff, rn, Nat.reduceLT]
    refine ⟨fun c17 => ?_, fun c17 => ?_⟩
    · exact absurd c17 (nI_ge (by omega) (by omega))
    · refine go_blk [(.iconst 0, 0, 0, 0), (.istore 6, 0, 0, 0)] (by decide +kernel) ?_
      simp only [e_ic_0, e_isw_6n, e_isw_6I, e_isw_6R, e_nil, nol_n, nol_I, nol_R, rsum_0, rsum_I, rsum_R, ps_s, ps_n, true_and, and_true, Nat.reduceAdd, Nat.reduceLeDiff, rn, Nat.reduceLT]
      refine lp_ds1 hV hd1 (fun μ2 y r2 o2 => ?_) 6 0 hh μ (by omega) hR hO rfl
      refine go_blk [(.iconst 0, 0, 0, 0), (.istore 6, 0, 0, 0)] (by decide +kernel) ?_
      simp only [e_ic_0, e_isw_6n, e_isw_6I, e_isw_6R, e_nil, nol_n, nol_I, nol_R, rsum_0, rsum_I, rsum_R, ps_s, ps_n, true_and, and_true, Nat.reduceAdd, Nat.reduceLeDiff]
      refine lp_ds2 hV hd1 (fun μ3 y r3 o3 => ?_) (sN S) 0 _ μ2 (by omega) r2 o2 rfl
      refine go_blk [(.iinc 5 1, 0, 0, 0), (.goto (-89), 5, 0, 0)] (by decide +kernel) ?_
      simp only [e_inc_5_1n, e_inc_5_1I, e_inc_5_1R, e_goto, e_nil, nol_n, nol_I, nol_R, rsum_0, rsum_I, rsum_R, ps_s, ps_n, true_and, and_true, Nat.reduceAdd, Nat.reduceLeDiff]
      rw [nI_1]
      exact ih (c + 1) _ μ3 _ (by omega) r3 o3 hZ
theorem xc_dgS {l : Launch} {K : KK} {d : Nat} {μ : Mm} {P : Option AV → Mm → Prop} {N : Nat} {S : SS} {hh : Int64} (hV : Inv N S) (hR : RC μ S) (hd1 : 16 ≤ d) (h : ∀ μ2, RC μ2 S → Off8 μ μ2 → P (some (vJ (fdS S (sN S) (sN S) 0 hh))) μ2) : Ok l K d 99 [vR 7 0 0, vJ hh] μ P := by
  refine ok_go 7 (by decide +kernel) [some (vR 7 0 0), some (vJ hh), none, none, none, none, none] rfl (Nat.le_of_ble_eq_true rfl) ?_
  refine go_blk [(.lload_n 1, 0, 0, 0), (.lstore_n 3, 0, 0, 0), (.iconst 0, 0, 0, 0), (.istore 5, 0, 0, 0)] (by decide +kernel) ?_
  simp only [e_ll_1, e_ls_3n, e_ls_3I, e_ls_3R, e_ic_0, e_isw_5n, e_isw_5I, e_isw_5R, e_nil, nol_n, nol_I, nol_R, rsum_0, rsum_I, rsum_R, ps_s, ps_n, true_and, and_true, Nat.reduceAdd, Nat.reduceLeDiff]
  exact lp_ds3 (μ0 := μ) hV hd1 h (sN S) 0 hh μ none (by omega) hR rfl rfl
theorem lp_dg1 {l : Launch} {K : KK} {d : Nat} {P : Option AV → Mm → Prop} {N : Nat} {S : SS} {μ0 : Mm} (hV : Inv N S) (hd1 : 16 ≤ d) {Z : Int64} (hk : ∀ μ2 y3, RC μ2 S → Off8 μ0 μ2 → Go l K d 97 50 [some (vR 7 0 0), some (vJ Z), none, y3] [] μ2 P) : ∀ (r e : Nat) (hh : Int64) (μ : Mm), e + r = sL S → RC μ S → Off8 μ0 μ → fdI (fun j => nI (sPg S j)) r e hh = Z → Go l K d 97 16 [some (vR 7 0 0), some (vJ hh), none, some (vI (nI e))] [] μ P := by
  intro r
  induction r with
  | zero =>
    intro e hh μ he hR hO hZ
    obtain ⟨r1, r2, r3⟩ := rc_p1 hR
    have e0 : e = sL S := by omega
    subst e0
    have hZ' : hh = Z := hZ
    subst hZ'
    refine go_blk [(.iload_n 3, 0, 0, 0), (.aload_n 0, 0, 0, 0), (.getfield 12, 7, 0, 0), (.getfield 70, 3, 1, 0), (.if_icmp .ge 26, 50, 0, 0)] (by decide +kernel) ?_
    simp only [e_il_3, e_al_0, e_gf_7_0, e_gf_3_1, e_icmp_ge, rd_7_0, rd_3_1, e_nil, nol_n, nol_I, nol_R, rsum_0, rsum_I, rsum_R, ps_s, ps_n, true_and, and_true, Nat.reduceAdd, Nat.reduceLeDiff, r1]
    refine ⟨fun c24 => ?_, fun c24 => ?_⟩
    · exact hk μ _ hR hO
    · exact absurd (nI_le (Nat.le_refl _) (by omega)) c24
  | succ r ih =>
    intro e hh μ he hR hO hZ
    obtain ⟨r1, r2, r3⟩ := rc_p1 hR
    have r4 := r3 e (by omega)
    have v1 : vp_in (nI e) 22 := vin (by omega) (by omega)
    have x1 : ix (nI e) = e := nI_ix (by omega)
    have u : fdI (fun j => nI (sPg S j)) (r + 1) e hh = fdI (fun j => nI (sPg S j)) r (e + 1) (mixV hh (nI (sPg S e))) := rfl
    rw [u] at hZ
    refine go_blk [(.iload_n 3, 0, 0, 0), (.aload_n 0, 0, 0, 0), (.getfield 12, 7, 0, 0), (.getfield 70, 3, 1, 0), (.if_icmp .ge 26, 50, 0, 0)] (by decide +kernel) ?_
    simp only [e_il_3, e_al_0, e_gf_7_0, e_gf_3_1, e_icmp_ge, rd_7_0, rd_3_1, e_nil, nol_n, nol_I, nol_R, rsum_0, rsum_I, rsum_R, ps_s, ps_n, true_and, and_true, Nat.reduceAdd, Nat.reduceLeDiff, r1, r4, v1, x1]
    refine ⟨fun c24 => ?_, fun c24 => ?_⟩
    · exact absurd c24 (nI_ge (by omega) (by omega))
    · refine go_blk [(.ldc2_w 267, 0, 0, 31), (.lload_n 1, 0, 0, 0), (.lmul, 0, 0, 0), (.aload_n 0, 0, 0, 0), (.getfield 12, 7, 0, 0), (.getfield 269, 3, 0, 0), (.iload_n 3, 0, 0, 0), (.caload, 0, 0, 0), (.i2l, 0, 0, 0), (.ladd, 0, 0, 0), (.lstore_n 1, 0, 0, 0), (.iinc 3 1, 0, 0, 0), (.goto (-31), 16, 0, 0)] (by decide +kernel) ?_
      simp only [q_ld2_31, e_ll_1, q_lmul, e_al_0, e_gf_7_0, e_gf_3_0, e_il_3, e_ca, q_i2l, q_ladd, e_ls_1n, e_ls_1I, e_ls_1R, e_inc_3_1n, e_inc_3_1I, e_inc_3_1R, e_goto, rd_7_0, rd_3_0, ai_0_4, ai_1_7, ai_2_1, ai_2_2, ai_3_1, ai_4_1, ai_6_3, ai_6_4, ai_6_5, ai_6_6, ai_6_7, ai_6_8, ai_8_5, ai_8_6, ai_8_17, ai_8_21, ai_8_23, ai_8_24, ai_8_27, ai_8_28, ai_8_38, ai_8_39, ai_8_40, e_nil, nol_n, nol_I, nol_R, rsum_0, rsum_I, rsum_R, ps_s, ps_n, true_and, and_true, Nat.reduceAdd, Nat.reduceLeDiff, r1, r4, v1, x1]
      rw [nI_1]
      exact ih (e + 1) _ μ (by omega) hR hO hZ
theorem lp_dg2 {l : Launch} {K : KK} {d : Nat} {P : Option AV → Mm → Prop} {N : Nat} {S : SS} {μ0 : Mm} (hV : Inv N S) (hd1 : 16 ≤ d) {Z : Int64} (h : ∀ μ2, RC μ2 S → Off8 μ0 μ2 → P (some (vJ Z)) μ2) : ∀ (r e : Nat) (hh : Int64) (μ : Mm), e + r = 14 → RC μ S → Off8 μ0 μ → fdI (fun k => vCount (nI k) S) r e hh = Z → Go l K d 97 52 [some (vR 7 0 0), some (vJ hh), none, some (vI (nI e))] [] μ P := by
  have hd2 : 1 ≤ d := by omega
  intro r
  induction r with
  | zero =>
    intro e hh μ he hR hO hZ
    have e0 : e = 14 := by omega
    subst e0
    have hZ' : hh = Z := hZ
    subst hZ'
    refine go_blk [(.iload_n 3, 0, 0, 0), (.bipush 14, 0, 0, 0), (.if_icmp .ge 22, 77, 0, 0)] (by decide +kernel) ?_
    simp only [e_il_3, e_bp_14, e_icmp_ge, e_nil, nol_n, nol_I, nol_R, rsum_0, rsum_I, rsum_R, ps_s, ps_n, true_and, and_true, Nat.reduceAdd, Nat.reduceLeDiff]
    refine ⟨fun c55 => ?_, fun c55 => ?_⟩
    · refine go_blk [(.lload_n 1, 0, 0, 0), (.lreturn, 0, 0, 0)] (by decide +kernel) ?_
      simp only [e_ll_1, e_lret, e_nil, nol_n, nol_I, nol_R, rsum_0, rsum_I, rsum_R, ps_s, ps_n, true_and, and_true, Nat.reduceAdd, Nat.reduceLeDiff]
      exact h μ hR hO
    · exact absurd (by decide) c55
  | succ r ih =>
    intro e hh μ he hR hO hZ
    have u : fdI (fun k => vCount (nI k) S) (r + 1) e hh = fdI (fun k => vCount (nI k) S) r (e + 1) (mixV hh (vCount (nI e) S)) := rfl
    rw [u] at hZ
    refine go_blk [(.iload_n 3, 0, 0, 0), (.bipush 14, 0, 0, 0), (.if_icmp .ge 22, 77, 0, 0)] (by decide +kernel) ?_
    simp only [e_il_3, e_bp_14, e_icmp_ge, e_nil, nol_n, nol_I, nol_R, rsum_0, rsum_I, rsum_R, ps_s, ps_n, true_and, and_true, Nat.reduceAdd, Nat.reduceLeDiff, rsum_J, hd2]
    refine ⟨fun c55 => ?_, fun c55 => ?_⟩
    · exact absurd c55 (nI_ge (b := 14) (by omega) (by omega))
    · refine go_blk [(.ldc2_w 267, 0, 0, 31), (.lload_n 1, 0, 0, 0), (.lmul, 0, 0, 0), (.aload_n 0, 0, 0, 0), (.iload_n 3, 0, 0, 0), (.invokevirtual 273, 96, 1, 7)] (by decide +kernel) ?_
      simp only [q_ld2_31, e_ll_1, q_lmul, e_al_0, e_il_3, e_iv_7_1, e_nil, nol_n, nol_I, nol_R, rsum_0, rsum_I, rsum_R, ps_s, ps_n, true_and, and_true, Nat.reduceAdd, Nat.reduceLeDiff, rsum_J, hd2]
      refine xc_count hV hR (by omega) (fun μ2 r2 o2 => ?_)
      refine go_blk [(.i2l, 0, 0, 0), (.ladd, 0, 0, 0), (.lstore_n 1, 0, 0, 0), (.iinc 3 1, 0, 0, 0), (.goto (-22), 52, 0, 0)] (by decide +kernel) ?_
      simp only [q_i2l, q_ladd, e_ls_1n, e_ls_1I, e_ls_1R, e_inc_3_1n, e_inc_3_1I, e_inc_3_1R, e_goto, e_nil, nol_n, nol_I, nol_R, rsum_0, rsum_I, rsum_R, ps_s, ps_n, true_and, and_true, Nat.reduceAdd, Nat.reduceLeDiff, rsum_J, hd2]
      rw [nI_1]
      exact ih (e + 1) _ μ2 (by omega) r2 (o2.trans hO) hZ
theorem xc_digest {l : Launch} {K : KK} {d : Nat} {μ : Mm} {P : Option AV → Mm → Prop} {N : Nat} {S : SS} (hV : Inv N S) (hR : RC μ S) (hd1 : 17 ≤ d) (h : ∀ μ2, RC μ2 S → Off8 μ μ2 → P (some (vJ (dgV S))) μ2) : Ok l K d 97 [vR 7 0 0] μ P := by
  refine ok_go 4 (by decide +kernel) [some (vR 7 0 0), none, none, none] rfl (Nat.le_of_ble_eq_true rfl) ?_
  have hd2 : 1 ≤ d := by omega
  refine go_blk [(.aload_n 0, 0, 0, 0), (.ldc2_w 258, 0, 0, 839), (.invokevirtual 260, 98, 1, 7)] (by decide +kernel) ?_
  simp only [e_al_0, q_ld2_839, e_iv_7_1, e_nil, nol_n, nol_I, nol_R, rsum_0, rsum_I, rsum_R, ps_s, ps_n, true_and, and_true, Nat.reduceAdd, Nat.reduceLeDiff, rsum_J, hd2]
  refine xc_dgC hV hR (by omega) (fun μ1 r1 o1 => ?_)
  refine go_blk [(.lstore_n 1, 0, 0, 0), (.aload_n 0, 0, 0, 0), (.lload_n 1, 0, 0, 0), (.invokevirtual 264, 99, 1, 7)] (by decide +kernel) ?_
  simp only [e_ls_1n, e_ls_1I, e_ls_1R, e_al_0, e_ll_1, e_iv_7_1, e_nil, nol_n, nol_I, nol_R, rsum_0, rsum_I, rsum_R, ps_s, ps_n, true_and, and_true, Nat.reduceAdd, Nat.reduceLeDiff, rsum_J, hd2]
  refine xc_dgS hV r1 (by omega) (fun μ2 r2 o2 => ?_)
  refine go_blk [(.lstore_n 1, 0, 0, 0), (.iconst 0, 0, 0, 0), (.istore_n 3, 0, 0, 0)] (by decide +kernel) ?_
  simp only [e_ls_1n, e_ls_1I, e_ls_1R, e_ic_0, e_is_3n, e_is_3I, e_is_3R, e_nil, nol_n, nol_I, nol_R, rsum_0, rsum_I, rsum_R, ps_s, ps_n, true_and, and_true, Nat.reduceAdd, Nat.reduceLeDiff, rsum_J, hd2]
  refine lp_dg1 (μ0 := μ) hV (by omega) (fun μ3 y3 r3 o3 => ?_) (sL S) 0 _ μ2 (by omega) r2 (o2.trans o1) rfl
  refine go_blk [(.iconst 0, 0, 0, 0), (.istore_n 3, 0, 0, 0)] (by decide +kernel) ?_
  simp only [e_ic_0, e_is_3n, e_is_3I, e_is_3R, e_nil, nol_n, nol_I, nol_R, rsum_0, rsum_I, rsum_R, ps_s, ps_n, true_and, and_true, Nat.reduceAdd, Nat.reduceLeDiff]
  exact lp_dg2 (μ0 := μ) hV (by omega) h 14 0 _ μ3 (by omega) r3 o3 rfl
