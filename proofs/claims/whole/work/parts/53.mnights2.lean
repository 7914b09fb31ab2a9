def OffW (μ μ2 : Mm) : Prop := ∀ c i s j, ¬ (c = 8 ∧ i = 0 ∧ (s = 27 ∨ s = 28)) → μ2 c i s j = μ c i s j
theorem offw_rf (μ : Mm) : OffW μ μ := fun _ _ _ _ _ => rfl
theorem offw_tr {a b c : Mm} (h : OffW a b) (g : OffW b c) : OffW a c := fun x i s j q => (g x i s j q).trans (h x i s j q)
theorem offw_up {a b : Mm} (h : OffW a b) {s : Nat} (hs : s = 27 ∨ s = 28) (j : Nat) (v : Int32) : OffW a (up b 8 0 s j v) := fun x i s' j' q => (up_ne (by omega)).trans (h x i s' j' q)
theorem mr_w {a b : Mm} {t : TS} (hM : MRep a t) (h : OffW a b) : MRep b t := mr_off hM (fun s j hs => h 8 0 s j (by omega))
def ntT (t : TS) (A : Nat → Nat) (k s : Nat) : Nat := A s + smN (fun k => if isS t k then A (s ^^^ 2 ^ k) else 0) k
def IvO (μ0 μ : Mm) (t : TS) (A : Nat → Nat) (e : Nat) : Prop := OffW μ0 μ ∧ (∀ s, s < 64 → μ 8 0 27 s = nI (A s)) ∧ ∀ s, s < e → μ 8 0 28 s = nI (ntT t A (t 0 1) s)
theorem xor64 {s k : Nat} (hs : s < 64) (hk : k < 6) : s ^^^ 2 ^ k < 64 := Nat.xor_lt_two_pow (n := 6) hs (Nat.pow_lt_pow_right (by decide) hk)
theorem lp_gi {l : Launch} {K : KK} {d : Nat} {P : Option AV → Mm → Prop} {μ0 : Mm} {op st : Nat} {t : TS} {A : Nat → Nat} {x1 : Int32} (hI : TInv op t) (hM0 : MRep μ0 t) (hst : st < 64) (hd1 : 1 ≤ d) (hk : ∀ μ2, IvO μ0 μ2 t A (st + 1) → ∀ y, Go l K d 163 76 [some (vR 8 0 0), some (vI x1), some (vI (nI (mSp t))), some (vI (nI st)), y] [] μ2 P) : ∀ (r k : Nat) (μ : Mm), k + r = t 0 1 → IvO μ0 μ t A st → μ 8 0 28 st = nI (ntT t A k st) → Go l K d 163 28 [some (vR 8 0 0), some (vI x1), some (vI (nI (mSp t))), some (vI (nI st)), some (vI (nI k))] [] μ P := by
  have hn := hI.1
  have lS := mSp_lt hn
  intro r
  induction r with
  | zero =>
    intro k μ hk0 hO h28
    have m3 : μ 8 0 0 3 = nI (t 0 1) := (hO.1 8 0 0 3 (by omega)).trans hM0.1.1
    have e0 : k = t 0 1 := by omega
    subst e0
    refine go_blk [(.iload 4, 0, 0, 0), (.aload_n 0, 0, 0, 0), (.getfield 96, 8, 3, 0), (.if_icmp .ge 42, 76, 0, 0)] (by decide +kernel) ?_
    simp only [e_ilw_4, e_al_0, e_gf_8_3, e_icmp_ge, rd_8_3, e_nil, nol_n, nol_I, nol_R, rsum_0, rsum_I, rsum_R, ps_s, ps_n, true_and, and_true, Nat.reduceAdd, Nat.reduceLeDiff, m3]
    refine ⟨fun c34 => ?_, fun c34 => ?_⟩
    · exact hk μ ⟨hO.1, hO.2.1, fun s hs => by
        by_cases q : s = st
        · subst q; exact h28
        · exact hO.2.2 s (by omega)⟩ _
    · exact absurd (nI_le (Nat.le_refl _) (by omega)) c34
  | succ r ih =>
    intro k μ hk0 hO h28
    have m3 : μ 8 0 0 3 = nI (t 0 1) := (hO.1 8 0 0 3 (by omega)).trans hM0.1.1
    have v1 : vp_in (nI st) 64 := vin hst (by omega)
    have x2 : ix (nI st) = st := nI_ix (by omega)
    have es := nI_shl (c := k) (by omega)
    have ex := nI_xor st (2 ^ k)
    have xl := xor64 hst (show k < 6 by omega)
    have v2 : vp_in (nI (st ^^^ 2 ^ k)) 64 := vin xl (by omega)
    have x3 : ix (nI (st ^^^ 2 ^ k)) = st ^^^ 2 ^ k := nI_ix (by omega)
    have h27 := hO.2.1 (st ^^^ 2 ^ k) xl
    have bk : (mSp t).testBit k = isS t k := by unfold mSp; rw [mskF_bit]; simp [show k < t 0 1 by omega]
    have z0 : nI (ntT t A k st) + 0 = nI (ntT t A k st) := Int32.add_zero _
    have u : ntT t A (k + 1) st = ntT t A k st + (if isS t k then A (st ^^^ 2 ^ k) else 0) := by
      show A st + (smN _ k + _) = A st + smN _ k + _
      rw [Nat.add_assoc]
    have g : ∀ v, v = nI (ntT t A (k + 1) st) → Go l K d 163 28 [some (vR 8 0 0), some (vI x1), some (vI (nI (mSp t))), some (vI (nI st)), some (vI (nI (k + 1)))] [] (up μ 8 0 28 st v) P := fun v hv => by
      refine ih (k + 1) _ (by omega) ⟨offw_up hO.1 (Or.inr rfl) _ _, fun s hs => by rw [up_ne (by omega)]; exact hO.2.1 s hs, fun s hs => by rw [up_ne (by omega)]; exact hO.2.2 s hs⟩ ?_
      rw [up_self, hv]
    rw [u] at g
    refine go_blk [(.iload 4, 0, 0, 0), (.aload_n 0, 0, 0, 0), (.getfield 96, 8, 3, 0), (.if_icmp .ge 42, 76, 0, 0)] (by decide +kernel) ?_
    simp only [e_ilw_4, e_al_0, e_gf_8_3, e_icmp_ge, rd_8_3, e_nil, nol_n, nol_I, nol_R, rsum_0, rsum_I, rsum_R, ps_s, ps_n, true_and, and_true, Nat.reduceAdd, Nat.reduceLeDiff, m3, hd1, v1, x2, es, ex, v2, x3, h27, h28, z0, bi_0]
    refine ⟨fun c34 => ?_, fun c34 => ?_⟩
    · exact absurd c34 (nI_ge (by omega) (by omega))
    · refine go_blk [(.aload_n 0, 0, 0, 0), (.getfield 39, 8, 27, 0), (.iload_n 3, 0, 0, 0), (.dup2, 0, 0, 0), (.iaload, 0, 0, 0), (.iload_n 2, 0, 0, 0), (.iload 4, 0, 0, 0), (.invokestatic 69, 104, 2, 0)] (by decide +kernel) ?_
      simp only [e_al_0, e_gf_8_27, e_il_3, e_dup2, e_ia, e_il_2, e_ilw_4, e_ivs_2, rd_8_27, ai_0_4, ai_1_7, ai_2_1, ai_2_2, ai_3_1, ai_4_1, ai_6_3, ai_6_4, ai_6_5, ai_6_6, ai_6_7, ai_6_8, ai_8_5, ai_8_6, ai_8_17, ai_8_21, ai_8_23, ai_8_24, ai_8_27, ai_8_28, ai_8_38, ai_8_39, ai_8_40, e_nil, Nat.reduceLT, nol_n, nol_I, nol_R, rsum_0, rsum_I, rsum_R, ps_s, ps_n, true_and, and_true, Nat.reduceAdd, Nat.reduceLeDiff, m3, hd1, v1, x2, es, ex, v2, x3, h27, h28, z0, bi_0]
      refine okm_has (by omega) (by omega) ?_
      rw [bk]
      refine go_blk [(.ifCond .eq 17, 67, 0, 0)] (by decide +kernel) ?_
      simp only [e_if_eq, e_nil, nol_n, nol_I, nol_R, rsum_0, rsum_I, rsum_R, ps_s, ps_n, true_and, and_true, Nat.reduceAdd, Nat.reduceLeDiff, m3, hd1, v1, x2, es, ex, v2, x3, h27, h28, z0, bi_0]
      refine ⟨fun c50 => ?_, fun c50 => ?_⟩
      · rw [c50, if_neg (by decide), Nat.add_zero] at g
        refine go_blk [(.iconst 0, 0, 0, 0), (.iadd, 0, 0, 0), (.iastore, 0, 0, 0)] (by decide +kernel) ?_
        simp only [e_ic_0, e_iadd, e_iast, ai_0_4, ai_1_7, ai_2_1, ai_2_2, ai_3_1, ai_4_1, ai_6_3, ai_6_4, ai_6_5, ai_6_6, ai_6_7, ai_6_8, ai_8_5, ai_8_6, ai_8_17, ai_8_21, ai_8_23, ai_8_24, ai_8_27, ai_8_28, ai_8_38, ai_8_39, ai_8_40, e_nil, nol_n, nol_I, nol_R, rsum_0, rsum_I, rsum_R, ps_s, ps_n, true_and, and_true, Nat.reduceAdd, Nat.reduceLeDiff, m3, hd1, v1, x2, es, ex, v2, x3, h27, h28, z0, bi_0]
        refine go_blk [(.iinc 4 1, 0, 0, 0), (.goto (-45), 28, 0, 0)] (by decide +kernel) ?_
        simp only [e_inc_4_1n, e_inc_4_1I, e_inc_4_1R, e_goto, e_nil, nol_n, nol_I, nol_R, rsum_0, rsum_I, rsum_R, ps_s, ps_n, true_and, and_true, Nat.reduceAdd, Nat.reduceLeDiff, m3, hd1, v1, x2, es, ex, v2, x3, h27, h28, z0, bi_0]
        rw [nI_1]
        exact g _ (by first | rfl | rw [nI_add])
      · rw [eq_true_of_ne_false c50, if_pos rfl] at g
        refine go_blk [(.aload_n 0, 0, 0, 0), (.getfield 36, 8, 26, 0), (.iload_n 3, 0, 0, 0), (.iconst 1, 0, 0, 0), (.iload 4, 0, 0, 0), (.ishl, 0, 0, 0), (.ixor, 0, 0, 0)] (by decide +kernel) ?_
        simp only [e_al_0, e_gf_8_26, e_il_3, e_ic_1, e_ilw_4, e_ishl, e_ixor, rd_8_26, e_nil, nol_n, nol_I, nol_R, rsum_0, rsum_I, rsum_R, ps_s, ps_n, true_and, and_true, Nat.reduceAdd, Nat.reduceLeDiff, m3, hd1, v1, x2, es, ex, v2, x3, h27, h28, z0, bi_0]
        refine go_blk [(.iaload, 0, 0, 0)] (by decide +kernel) ?_
        simp only [e_ia, ai_0_4, ai_1_7, ai_2_1, ai_2_2, ai_3_1, ai_4_1, ai_6_3, ai_6_4, ai_6_5, ai_6_6, ai_6_7, ai_6_8, ai_8_5, ai_8_6, ai_8_17, ai_8_21, ai_8_23, ai_8_24, ai_8_27, ai_8_28, ai_8_38, ai_8_39, ai_8_40, e_nil, nol_n, nol_I, nol_R, rsum_0, rsum_I, rsum_R, ps_s, ps_n, true_and, and_true, Nat.reduceAdd, Nat.reduceLeDiff, m3, hd1, v1, x2, es, ex, v2, x3, h27, h28, z0, bi_0]
        refine go_blk [(.goto 4, 68, 0, 0), (.iadd, 0, 0, 0), (.iastore, 0, 0, 0)] (by decide +kernel) ?_
        simp only [e_goto, e_iadd, e_iast, ai_0_4, ai_1_7, ai_2_1, ai_2_2, ai_3_1, ai_4_1, ai_6_3, ai_6_4, ai_6_5, ai_6_6, ai_6_7, ai_6_8, ai_8_5, ai_8_6, ai_8_17, ai_8_21, ai_8_23, ai_8_24, ai_8_27, ai_8_28, ai_8_38, ai_8_39, ai_8_40, e_nil, nol_n, nol_I, nol_R, rsum_0, rsum_I, rsum_R, ps_s, ps_n, true_and, and_true, Nat.reduceAdd, Nat.reduceLeDiff, m3, hd1, v1, x2, es, ex, v2, x3, h27, h28, z0, bi_0]
        refine go_blk [(.iinc 4 1, 0, 0, 0), (.goto (-45), 28, 0, 0)] (by decide +kernel) ?_
        simp only [e_inc_4_1n, e_inc_4_1I, e_inc_4_1R, e_goto, e_nil, nol_n, nol_I, nol_R, rsum_0, rsum_I, rsum_R, ps_s, ps_n, true_and, and_true, Nat.reduceAdd, Nat.reduceLeDiff, m3, hd1, v1, x2, es, ex, v2, x3, h27, h28, z0, bi_0]
        rw [nI_1]
        exact g _ (by first | rfl | rw [nI_add])
theorem lp_go {l : Launch} {K : KK} {d : Nat} {P : Option AV → Mm → Prop} {μ0 : Mm} {op : Nat} {t : TS} {A : Nat → Nat} {x1 : Int32} (hI : TInv op t) (hM0 : MRep μ0 t) (hd1 : 1 ≤ d) (hk : ∀ μ2, IvO μ0 μ2 t A 64 → ∀ x y, Go l K d 163 82 [some (vR 8 0 0), some (vI x1), some (vI (nI (mSp t))), some (vI x), y] [] μ2 P) : ∀ (r st : Nat) (μ : Mm) (y : Option AV), st + r = 64 → IvO μ0 μ t A st → Go l K d 163 7 [some (vR 8 0 0), some (vI x1), some (vI (nI (mSp t))), some (vI (nI st)), y] [] μ P := by
  intro r
  induction r with
  | zero =>
    intro st μ y hs hO
    have e0 : st = 64 := by omega
    subst e0
    refine go_blk [(.iload_n 3, 0, 0, 0), (.bipush 64, 0, 0, 0), (.if_icmp .ge 72, 82, 0, 0)] (by decide +kernel) ?_
    simp only [e_il_3, e_bp_64, e_icmp_ge, e_nil, nol_n, nol_I, nol_R, rsum_0, rsum_I, rsum_R, ps_s, ps_n, true_and, and_true, Nat.reduceAdd, Nat.reduceLeDiff]
    refine ⟨fun c10 => ?_, fun c10 => ?_⟩
    · exact hk μ hO _ _
    · exact absurd (by decide) c10
  | succ r ih =>
    intro st μ y hs hO
    have v1 : vp_in (nI st) 64 := vin (by omega) (by omega)
    have x2 : ix (nI st) = st := nI_ix (by omega)
    have h27 := hO.2.1 st (by omega)
    refine go_blk [(.iload_n 3, 0, 0, 0), (.bipush 64, 0, 0, 0), (.if_icmp .ge 72, 82, 0, 0)] (by decide +kernel) ?_
    simp only [e_il_3, e_bp_64, e_icmp_ge, e_nil, nol_n, nol_I, nol_R, rsum_0, rsum_I, rsum_R, ps_s, ps_n, true_and, and_true, Nat.reduceAdd, Nat.reduceLeDiff, v1, x2, h27]
    refine ⟨fun c10 => ?_, fun c10 => ?_⟩
    · exact absurd c10 (nI_ge (b := 64) (by omega) (by omega))
    · refine go_blk [(.aload_n 0, 0, 0, 0), (.getfield 39, 8, 27, 0), (.iload_n 3, 0, 0, 0), (.aload_n 0, 0, 0, 0), (.getfield 36, 8, 26, 0), (.iload_n 3, 0, 0, 0), (.iaload, 0, 0, 0), (.iastore, 0, 0, 0)] (by decide +kernel) ?_
      simp only [e_al_0, e_gf_8_27, e_il_3, e_gf_8_26, e_ia, e_iast, rd_8_27, rd_8_26, ai_0_4, ai_1_7, ai_2_1, ai_2_2, ai_3_1, ai_4_1, ai_6_3, ai_6_4, ai_6_5, ai_6_6, ai_6_7, ai_6_8, ai_8_5, ai_8_6, ai_8_17, ai_8_21, ai_8_23, ai_8_24, ai_8_27, ai_8_28, ai_8_38, ai_8_39, ai_8_40, e_nil, nol_n, nol_I, nol_R, rsum_0, rsum_I, rsum_R, ps_s, ps_n, true_and, and_true, Nat.reduceAdd, Nat.reduceLeDiff, v1, x2, h27]
      refine go_blk [(.iconst 0, 0, 0, 0), (.istore 4, 0, 0, 0)] (by decide +kernel) ?_
      simp only [e_ic_0, e_isw_4n, e_isw_4I, e_isw_4R, e_nil, nol_n, nol_I, nol_R, rsum_0, rsum_I, rsum_R, ps_s, ps_n, true_and, and_true, Nat.reduceAdd, Nat.reduceLeDiff, v1, x2, h27]
      refine lp_gi hI hM0 (by omega) hd1 (fun μ2 h2 y2 => ?_) (t 0 1) 0 _ (by omega) ⟨offw_up hO.1 (Or.inr rfl) _ _, fun s hs => by rw [up_ne (by omega)]; exact hO.2.1 s hs, fun s hs => by rw [up_ne (by omega)]; exact hO.2.2 s hs⟩ (up_self _ _ _ _ _ _)
      refine go_blk [(.iinc 3 1, 0, 0, 0), (.goto (-72), 7, 0, 0)] (by decide +kernel) ?_
      simp only [e_inc_3_1n, e_inc_3_1I, e_inc_3_1R, e_goto, e_nil, nol_n, nol_I, nol_R, rsum_0, rsum_I, rsum_R, ps_s, ps_n, true_and, and_true, Nat.reduceAdd, Nat.reduceLeDiff]
      rw [nI_1]
      exact ih (st + 1) μ2 _ (by omega) h2
def mw1 (t : TS) (cs : Nat → Int32) (m st : Nat) (v : Nat) : Nat := if sbS t (t 0 1) st = true ∧ nI (ctB t st) = cs m then v else 0
def Iv2 (μ0 μ : Mm) (T B : Nat → Nat) (e : Nat) : Prop := OffW μ0 μ ∧ (∀ s, s < 64 → μ 8 0 28 s = nI (T s)) ∧ ∀ s, s < e → μ 8 0 27 s = nI (B s)
theorem sb_out {t : TS} {st : Nat} (h : st < 64) : ((nI st &&& (nI (mSp t) ^^^ (-1))) = 0) = (sbS t (t 0 1) st = true) := by
  rw [nI_out (by omega)]
  apply propext
  unfold sbS mSp
  rw [beq_iff_eq]
theorem lp_g2 {l : Launch} {K : KK} {d : Nat} {P : Option AV → Mm → Prop} {μ0 : Mm} {op m : Nat} {t : TS} {T : Nat → Nat} {cs : Nat → Int32} (hI : TInv op t) (hM0 : MRep μ0 t) (hc : μ0 8 0 17 m = cs m) (hm : m < 6) (hd1 : 2 ≤ d) (h : ∀ μ2, Iv2 μ0 μ2 T (fun st => mw1 t cs m st (T st)) 64 → P none μ2) : ∀ (r st : Nat) (μ : Mm) (y : Option AV), st + r = 64 → Iv2 μ0 μ T (fun st => mw1 t cs m st (T st)) st → Go l K d 163 84 [some (vR 8 0 0), some (vI (nI m)), some (vI (nI (mSp t))), some (vI (nI st)), y] [] μ P := by
  have hd2 : 1 ≤ d := by omega
  intro r
  induction r with
  | zero =>
    intro st μ y hs hO
    have e0 : st = 64 := by omega
    subst e0
    refine go_blk [(.iload_n 3, 0, 0, 0), (.bipush 64, 0, 0, 0), (.if_icmp .ge 59, 146, 0, 0)] (by decide +kernel) ?_
    simp only [e_il_3, e_bp_64, e_icmp_ge, e_nil, nol_n, nol_I, nol_R, rsum_0, rsum_I, rsum_R, ps_s, ps_n, true_and, and_true, Nat.reduceAdd, Nat.reduceLeDiff]
    refine ⟨fun c87 => ?_, fun c87 => ?_⟩
    · refine go_blk [(.return_, 0, 0, 0)] (by decide +kernel) ?_
      simp only [e_vret, e_nil, nol_n, nol_I, nol_R, rsum_0, rsum_I, rsum_R, ps_s, ps_n, true_and, and_true, Nat.reduceAdd, Nat.reduceLeDiff]
      exact h μ hO
    · exact absurd (by decide) c87
  | succ r ih =>
    intro st μ y hs hO
    have hM := mr_w hM0 hO.1
    have v1 : vp_in (nI st) 64 := vin (by omega) (by omega)
    have x2 : ix (nI st) = st := nI_ix (by omega)
    have vm : vp_in (nI m) 6 := vin hm (by omega)
    have xm : ix (nI m) = m := nI_ix (by omega)
    have hcm : μ 8 0 17 m = cs m := (hO.1 8 0 17 m (by omega)).trans hc
    have h28 := hO.2.1 st (by omega)
    have eo := sb_out (t := t) (st := st) (by omega)
    have u : ∀ b : Nat, mw1 t cs m st b = if sbS t (t 0 1) st = true ∧ nI (ctB t st) = cs m then b else 0 := fun _ => rfl
    have g : ∀ v y, v = nI (mw1 t cs m st (T st)) → Go l K d 163 84 [some (vR 8 0 0), some (vI (nI m)), some (vI (nI (mSp t))), some (vI (nI (st + 1))), y] [] (up μ 8 0 27 st v) P := fun v y hv => by
      refine ih (st + 1) _ y (by omega) ⟨offw_up hO.1 (Or.inl rfl) _ _, fun s hs => by rw [up_ne (by omega)]; exact hO.2.1 s hs, fun s hs => ?_⟩
      by_cases q : s = st
      · subst q; rw [up_self, hv]
      · rw [up_ne (by omega)]; exact hO.2.2 s (by omega)
    refine go_blk [(.iload_n 3, 0, 0, 0), (.bipush 64, 0, 0, 0), (.if_icmp .ge 59, 146, 0, 0)] (by decide +kernel) ?_
    simp only [e_il_3, e_bp_64, e_icmp_ge, e_nil, nol_n, nol_I, nol_R, rsum_0, rsum_I, rsum_R, ps_s, ps_n, true_and, and_true, Nat.reduceAdd, Nat.reduceLeDiff, hd2, v1, x2, vm, xm, hcm, h28, eo]
    refine ⟨fun c87 => ?_, fun c87 => ?_⟩
    · exact absurd c87 (nI_ge (b := 64) (by omega) (by omega))
    · refine go_blk [(.iload_n 3, 0, 0, 0), (.iload_n 2, 0, 0, 0), (.iconst (-1), 0, 0, 0), (.ixor, 0, 0, 0), (.iand, 0, 0, 0), (.ifCond .ne 21, 116, 0, 0)] (by decide +kernel) ?_
      simp only [e_il_3, e_il_2, e_ic_m1, e_ixor, e_iand, e_if_ne, e_nil, nol_n, nol_I, nol_R, rsum_0, rsum_I, rsum_R, ps_s, ps_n, true_and, and_true, Nat.reduceAdd, Nat.reduceLeDiff, hd2, v1, x2, vm, xm, hcm, h28, eo]
      refine ⟨fun c95 => ?_, fun c95 => ?_⟩
      · rw [u, if_neg (fun z => c95 z.1)] at g
        refine go_blk [(.iconst 0, 0, 0, 0), (.istore 4, 0, 0, 0), (.aload_n 0, 0, 0, 0), (.getfield 36, 8, 26, 0), (.iload_n 3, 0, 0, 0), (.iload 4, 0, 0, 0), (.ifCond .eq 12, 138, 0, 0)] (by decide +kernel) ?_
        simp only [e_ic_0, e_isw_4n, e_isw_4I, e_isw_4R, e_al_0, e_gf_8_26, e_il_3, e_ilw_4, e_if_eq, rd_8_26, e_nil, (show ((0 : Int32) = 0) = True by decide), true_implies, false_implies, not_true_eq_false, not_false_eq_true, nol_n, nol_I, nol_R, rsum_0, rsum_I, rsum_R, ps_s, ps_n, true_and, and_true, Nat.reduceAdd, Nat.reduceLeDiff, hd2, v1, x2, vm, xm, hcm, h28, eo]
        refine go_blk [(.iconst 0, 0, 0, 0), (.iastore, 0, 0, 0)] (by decide +kernel) ?_
        simp only [e_ic_0, e_iast, ai_0_4, ai_1_7, ai_2_1, ai_2_2, ai_3_1, ai_4_1, ai_6_3, ai_6_4, ai_6_5, ai_6_6, ai_6_7, ai_6_8, ai_8_5, ai_8_6, ai_8_17, ai_8_21, ai_8_23, ai_8_24, ai_8_27, ai_8_28, ai_8_38, ai_8_39, ai_8_40, e_nil, nol_n, nol_I, nol_R, rsum_0, rsum_I, rsum_R, ps_s, ps_n, true_and, and_true, Nat.reduceAdd, Nat.reduceLeDiff, hd2, v1, x2, vm, xm, hcm, h28, eo]
        refine go_blk [(.iinc 3 1, 0, 0, 0), (.goto (-59), 84, 0, 0)] (by decide +kernel) ?_
        simp only [e_inc_3_1n, e_inc_3_1I, e_inc_3_1R, e_goto, e_nil, nol_n, nol_I, nol_R, rsum_0, rsum_I, rsum_R, ps_s, ps_n, true_and, and_true, Nat.reduceAdd, Nat.reduceLeDiff, hd2, v1, x2, vm, xm, hcm, h28, eo]
        rw [nI_1]
        exact g _ _ rfl
      · refine go_blk [(.aload_n 0, 0, 0, 0), (.iload_n 3, 0, 0, 0), (.invokevirtual 242, 162, 1, 8)] (by decide +kernel) ?_
        simp only [e_al_0, e_il_3, e_iv_8_1, e_nil, nol_n, nol_I, nol_R, rsum_0, rsum_I, rsum_R, ps_s, ps_n, true_and, and_true, Nat.reduceAdd, Nat.reduceLeDiff, hd2, v1, x2, vm, xm, hcm, h28, eo]
        refine okm_countBy hI hM (by omega) c95 (by omega) ?_
        refine go_blk [(.aload_n 0, 0, 0, 0), (.getfield 23, 8, 16, 0), (.iload_n 1, 0, 0, 0), (.iaload, 0, 0, 0), (.if_icmp .ne 7, 116, 0, 0)] (by decide +kernel) ?_
        simp only [e_al_0, e_gf_8_16, e_il_1, e_ia, e_icmp_ne, rd_8_16, ai_0_4, ai_1_7, ai_2_1, ai_2_2, ai_3_1, ai_4_1, ai_6_3, ai_6_4, ai_6_5, ai_6_6, ai_6_7, ai_6_8, ai_8_5, ai_8_6, ai_8_17, ai_8_21, ai_8_23, ai_8_24, ai_8_27, ai_8_28, ai_8_38, ai_8_39, ai_8_40, e_nil, nol_n, nol_I, nol_R, rsum_0, rsum_I, rsum_R, ps_s, ps_n, true_and, and_true, Nat.reduceAdd, Nat.reduceLeDiff, hd2, v1, x2, vm, xm, hcm, h28, eo]
        refine ⟨fun c109 => ?_, fun c109 => ?_⟩
        · rw [u, if_neg (fun z => c109 z.2)] at g
          refine go_blk [(.iconst 0, 0, 0, 0), (.istore 4, 0, 0, 0), (.aload_n 0, 0, 0, 0), (.getfield 36, 8, 26, 0), (.iload_n 3, 0, 0, 0), (.iload 4, 0, 0, 0), (.ifCond .eq 12, 138, 0, 0)] (by decide +kernel) ?_
          simp only [e_ic_0, e_isw_4n, e_isw_4I, e_isw_4R, e_al_0, e_gf_8_26, e_il_3, e_ilw_4, e_if_eq, rd_8_26, e_nil, (show ((0 : Int32) = 0) = True by decide), true_implies, false_implies, not_true_eq_false, not_false_eq_true, nol_n, nol_I, nol_R, rsum_0, rsum_I, rsum_R, ps_s, ps_n, true_and, and_true, Nat.reduceAdd, Nat.reduceLeDiff, hd2, v1, x2, vm, xm, hcm, h28, eo]
          refine go_blk [(.iconst 0, 0, 0, 0), (.iastore, 0, 0, 0)] (by decide +kernel) ?_
          simp only [e_ic_0, e_iast, ai_0_4, ai_1_7, ai_2_1, ai_2_2, ai_3_1, ai_4_1, ai_6_3, ai_6_4, ai_6_5, ai_6_6, ai_6_7, ai_6_8, ai_8_5, ai_8_6, ai_8_17, ai_8_21, ai_8_23, ai_8_24, ai_8_27, ai_8_28, ai_8_38, ai_8_39, ai_8_40, e_nil, nol_n, nol_I, nol_R, rsum_0, rsum_I, rsum_R, ps_s, ps_n, true_and, and_true, Nat.reduceAdd, Nat.reduceLeDiff, hd2, v1, x2, vm, xm, hcm, h28, eo]
          refine go_blk [(.iinc 3 1, 0, 0, 0), (.goto (-59), 84, 0, 0)] (by decide +kernel) ?_
          simp only [e_inc_3_1n, e_inc_3_1I, e_inc_3_1R, e_goto, e_nil, nol_n, nol_I, nol_R, rsum_0, rsum_I, rsum_R, ps_s, ps_n, true_and, and_true, Nat.reduceAdd, Nat.reduceLeDiff, hd2, v1, x2, vm, xm, hcm, h28, eo]
          rw [nI_1]
          exact g _ _ rfl
        · rw [u, if_pos ⟨c95, c109⟩] at g
          refine go_blk [(.iconst 1, 0, 0, 0), (.goto 4, 117, 0, 0), (.istore 4, 0, 0, 0), (.aload_n 0, 0, 0, 0), (.getfield 36, 8, 26, 0), (.iload_n 3, 0, 0, 0), (.iload 4, 0, 0, 0), (.ifCond .eq 12, 138, 0, 0)] (by decide +kernel) ?_
          simp only [e_ic_1, e_goto, e_isw_4n, e_isw_4I, e_isw_4R, e_al_0, e_gf_8_26, e_il_3, e_ilw_4, e_if_eq, rd_8_26, e_nil, (show ((1 : Int32) = 0) = False by decide), true_implies, false_implies, not_true_eq_false, not_false_eq_true, nol_n, nol_I, nol_R, rsum_0, rsum_I, rsum_R, ps_s, ps_n, true_and, and_true, Nat.reduceAdd, Nat.reduceLeDiff, hd2, v1, x2, vm, xm, hcm, h28, eo]
          refine go_blk [(.aload_n 0, 0, 0, 0), (.getfield 39, 8, 27, 0), (.iload_n 3, 0, 0, 0), (.iaload, 0, 0, 0), (.goto 4, 139, 0, 0), (.iastore, 0, 0, 0)] (by decide +kernel) ?_
          simp only [e_al_0, e_gf_8_27, e_il_3, e_ia, e_goto, e_iast, rd_8_27, ai_0_4, ai_1_7, ai_2_1, ai_2_2, ai_3_1, ai_4_1, ai_6_3, ai_6_4, ai_6_5, ai_6_6, ai_6_7, ai_6_8, ai_8_5, ai_8_6, ai_8_17, ai_8_21, ai_8_23, ai_8_24, ai_8_27, ai_8_28, ai_8_38, ai_8_39, ai_8_40, e_nil, nol_n, nol_I, nol_R, rsum_0, rsum_I, rsum_R, ps_s, ps_n, true_and, and_true, Nat.reduceAdd, Nat.reduceLeDiff, hd2, v1, x2, vm, xm, hcm, h28, eo]
          refine go_blk [(.iinc 3 1, 0, 0, 0), (.goto (-59), 84, 0, 0)] (by decide +kernel) ?_
          simp only [e_inc_3_1n, e_inc_3_1I, e_inc_3_1R, e_goto, e_nil, nol_n, nol_I, nol_R, rsum_0, rsum_I, rsum_R, ps_s, ps_n, true_and, and_true, Nat.reduceAdd, Nat.reduceLeDiff, hd2, v1, x2, vm, xm, hcm, h28, eo]
          rw [nI_1]
          exact g _ _ rfl
theorem okm_goNight {l : Launch} {K : KK} {d : Nat} {μ : Mm} {P : Option AV → Mm → Prop} {op m : Nat} {t : TS} {A : Nat → Nat} {cs : Nat → Int32} (hI : TInv op t) (hM : MRep μ t) (hm : m < 6) (hc : μ 8 0 17 m = cs m) (hA : ∀ s, s < 64 → μ 8 0 27 s = nI (A s)) (hd1 : 2 ≤ d) (h : ∀ μ2, OffW μ μ2 → (∀ s, s < 64 → μ2 8 0 27 s = nI (mw1 t cs m s (ntT t A (t 0 1) s))) → P none μ2) : Ok l K d 163 [vR 8 0 0, vI (nI m)] μ P := by
  refine ok_go 5 (by decide +kernel) [some (vR 8 0 0), some (vI (nI m)), none, none, none] rfl (Nat.le_of_ble_eq_true rfl) ?_
  have hd2 : 1 ≤ d := by omega
  refine go_blk [(.aload_n 0, 0, 0, 0), (.invokevirtual 239, 161, 0, 8)] (by decide +kernel) ?_
  simp only [e_al_0, e_iv_8_0, e_nil, nol_n, nol_I, nol_R, rsum_0, rsum_I, rsum_R, ps_s, ps_n, true_and, and_true, Nat.reduceAdd, Nat.reduceLeDiff, hd2]
  refine okm_spies hI hM ?_
  refine go_blk [(.istore_n 2, 0, 0, 0), (.iconst 0, 0, 0, 0), (.istore_n 3, 0, 0, 0)] (by decide +kernel) ?_
  simp only [e_is_2n, e_is_2I, e_is_2R, e_ic_0, e_is_3n, e_is_3I, e_is_3R, e_nil, nol_n, nol_I, nol_R, rsum_0, rsum_I, rsum_R, ps_s, ps_n, true_and, and_true, Nat.reduceAdd, Nat.reduceLeDiff, hd2]
  refine lp_go (A := A) hI hM (by omega) (fun μ2 h2 x y => ?_) 64 0 μ none (by omega) ⟨offw_rf μ, hA, fun s hs => by omega⟩
  refine go_blk [(.iconst 0, 0, 0, 0), (.istore_n 3, 0, 0, 0)] (by decide +kernel) ?_
  simp only [e_ic_0, e_is_3n, e_is_3I, e_is_3R, e_nil, nol_n, nol_I, nol_R, rsum_0, rsum_I, rsum_R, ps_s, ps_n, true_and, and_true, Nat.reduceAdd, Nat.reduceLeDiff]
  exact lp_g2 (T := fun s => ntT t A (t 0 1) s) hI hM hc hm hd1 (fun μ3 h3 => h μ3 h3.1 h3.2.2) 64 0 μ2 _ (by omega) ⟨h2.1, h2.2.2, fun s hs => by omega⟩
theorem mwy_s (t : TS) (cs : Nat → Int32) (m st : Nat) : mwy t cs (m + 2) st = mw1 t cs (m + 1) st (ntT t (mwy t cs (m + 1)) (t 0 1) st) := by
  show (if _ then (if m + 1 = 0 then 1 else mwy t cs (m + 1) st + smN (fun k => if isS t k then mwy t cs (m + 1) (st ^^^ 2 ^ k) else 0) (t 0 1)) else 0) = _
  rw [if_neg (by omega : ¬ m + 1 = 0)]
  rfl
theorem lp_lw1 {l : Launch} {K : KK} {d : Nat} {P : Option AV → Mm → Prop} {μ0 : Mm} {op : Nat} {t : TS} {cs : Nat → Int32} (hI : TInv op t) (hM0 : MRep μ0 t) (hc : μ0 8 0 17 0 = cs 0) (hd1 : 2 ≤ d) (hk : ∀ μ2, OffW μ0 μ2 → (∀ s, s < 64 → μ2 8 0 27 s = nI (mwy t cs 1 s)) → ∀ x, Go l K d 164 54 [some (vR 8 0 0), some (vI (nI (mSp t))), some (vI 0), some (vI x)] [] μ2 P) : ∀ (r st : Nat) (μ : Mm), st + r = 64 → OffW μ0 μ → (∀ s, s < st → μ 8 0 27 s = nI (mwy t cs 1 s)) → Go l K d 164 9 [some (vR 8 0 0), some (vI (nI (mSp t))), some (vI 0), some (vI (nI st))] [] μ P := by
  have hd2 : 1 ≤ d := by omega
  intro r
  induction r with
  | zero =>
    intro st μ hs hO hA
    have e0 : st = 64 := by omega
    subst e0
    refine go_blk [(.iload_n 3, 0, 0, 0), (.bipush 64, 0, 0, 0), (.if_icmp .ge 42, 54, 0, 0)] (by decide +kernel) ?_
    simp only [e_il_3, e_bp_64, e_icmp_ge, e_nil, nol_n, nol_I, nol_R, rsum_0, rsum_I, rsum_R, ps_s, ps_n, true_and, and_true, Nat.reduceAdd, Nat.reduceLeDiff]
    refine ⟨fun c12 => ?_, fun c12 => ?_⟩
    · exact hk μ hO hA _
    · exact absurd (by decide) c12
  | succ r ih =>
    intro st μ hs hO hA
    have hM := mr_w hM0 hO
    have v1 : vp_in (nI st) 64 := vin (by omega) (by omega)
    have x2 : ix (nI st) = st := nI_ix (by omega)
    have v0 : vp_in 0 6 := vin (j := 0) (by omega) (by omega)
    have x0 : ix 0 = 0 := nI_ix (j := 0) (by omega)
    have hcm : μ 8 0 17 0 = cs 0 := (hO 8 0 17 0 (by omega)).trans hc
    have eo := sb_out (t := t) (st := st) (by omega)
    have u : mwy t cs 1 st = if sbS t (t 0 1) st = true ∧ nI (ctB t st) = cs 0 then 1 else 0 := rfl
    have g : ∀ v, v = nI (mwy t cs 1 st) → Go l K d 164 9 [some (vR 8 0 0), some (vI (nI (mSp t))), some (vI 0), some (vI (nI (st + 1)))] [] (up μ 8 0 27 st v) P := fun v hv => by
      refine ih (st + 1) _ (by omega) (offw_up hO (Or.inl rfl) _ _) (fun s hs => ?_)
      by_cases q : s = st
      · subst q; rw [up_self, hv]
      · rw [up_ne (by omega)]; exact hA s (by omega)
    refine go_blk [(.iload_n 3, 0, 0, 0), (.bipush 64, 0, 0, 0), (.if_icmp .ge 42, 54, 0, 0)] (by decide +kernel) ?_
    simp only [e_il_3, e_bp_64, e_icmp_ge, e_nil, nol_n, nol_I, nol_R, rsum_0, rsum_I, rsum_R, ps_s, ps_n, true_and, and_true, Nat.reduceAdd, Nat.reduceLeDiff, hd2, v1, x2, v0, x0, hcm, eo]
    refine ⟨fun c12 => ?_, fun c12 => ?_⟩
    · exact absurd c12 (nI_ge (b := 64) (by omega) (by omega))
    · refine go_blk [(.aload_n 0, 0, 0, 0), (.getfield 36, 8, 26, 0), (.iload_n 3, 0, 0, 0), (.iload_n 3, 0, 0, 0), (.iload_n 1, 0, 0, 0), (.iconst (-1), 0, 0, 0), (.ixor, 0, 0, 0), (.iand, 0, 0, 0), (.ifCond .ne 21, 46, 0, 0)] (by decide +kernel) ?_
      simp only [e_al_0, e_gf_8_26, e_il_3, e_il_1, e_ic_m1, e_ixor, e_iand, e_if_ne, rd_8_26, e_nil, nol_n, nol_I, nol_R, rsum_0, rsum_I, rsum_R, ps_s, ps_n, true_and, and_true, Nat.reduceAdd, Nat.reduceLeDiff, hd2, v1, x2, v0, x0, hcm, eo]
      refine ⟨fun c25 => ?_, fun c25 => ?_⟩
      · rw [u, if_neg (fun z => c25 z.1)] at g
        refine go_blk [(.iconst 0, 0, 0, 0), (.iastore, 0, 0, 0)] (by decide +kernel) ?_
        simp only [e_ic_0, e_iast, ai_0_4, ai_1_7, ai_2_1, ai_2_2, ai_3_1, ai_4_1, ai_6_3, ai_6_4, ai_6_5, ai_6_6, ai_6_7, ai_6_8, ai_8_5, ai_8_6, ai_8_17, ai_8_21, ai_8_23, ai_8_24, ai_8_27, ai_8_28, ai_8_38, ai_8_39, ai_8_40, e_nil, nol_n, nol_I, nol_R, rsum_0, rsum_I, rsum_R, ps_s, ps_n, true_and, and_true, Nat.reduceAdd, Nat.reduceLeDiff, hd2, v1, x2, v0, x0, hcm, eo]
        refine go_blk [(.iinc 3 1, 0, 0, 0), (.goto (-42), 9, 0, 0)] (by decide +kernel) ?_
        simp only [e_inc_3_1n, e_inc_3_1I, e_inc_3_1R, e_goto, e_nil, nol_n, nol_I, nol_R, rsum_0, rsum_I, rsum_R, ps_s, ps_n, true_and, and_true, Nat.reduceAdd, Nat.reduceLeDiff, hd2, v1, x2, v0, x0, hcm, eo]
        rw [nI_1]
        exact g _ rfl
      · refine go_blk [(.aload_n 0, 0, 0, 0), (.iload_n 3, 0, 0, 0), (.invokevirtual 242, 162, 1, 8)] (by decide +kernel) ?_
        simp only [e_al_0, e_il_3, e_iv_8_1, e_nil, nol_n, nol_I, nol_R, rsum_0, rsum_I, rsum_R, ps_s, ps_n, true_and, and_true, Nat.reduceAdd, Nat.reduceLeDiff, hd2, v1, x2, v0, x0, hcm, eo]
        refine okm_countBy hI hM (by omega) c25 (by omega) ?_
        refine go_blk [(.aload_n 0, 0, 0, 0), (.getfield 23, 8, 16, 0), (.iconst 0, 0, 0, 0), (.iaload, 0, 0, 0), (.if_icmp .ne 7, 46, 0, 0)] (by decide +kernel) ?_
        simp only [e_al_0, e_gf_8_16, e_ic_0, e_ia, e_icmp_ne, rd_8_16, ai_0_4, ai_1_7, ai_2_1, ai_2_2, ai_3_1, ai_4_1, ai_6_3, ai_6_4, ai_6_5, ai_6_6, ai_6_7, ai_6_8, ai_8_5, ai_8_6, ai_8_17, ai_8_21, ai_8_23, ai_8_24, ai_8_27, ai_8_28, ai_8_38, ai_8_39, ai_8_40, e_nil, nol_n, nol_I, nol_R, rsum_0, rsum_I, rsum_R, ps_s, ps_n, true_and, and_true, Nat.reduceAdd, Nat.reduceLeDiff, hd2, v1, x2, v0, x0, hcm, eo]
        refine ⟨fun c39 => ?_, fun c39 => ?_⟩
        · rw [u, if_neg (fun z => c39 z.2)] at g
          refine go_blk [(.iconst 0, 0, 0, 0), (.iastore, 0, 0, 0)] (by decide +kernel) ?_
          simp only [e_ic_0, e_iast, ai_0_4, ai_1_7, ai_2_1, ai_2_2, ai_3_1, ai_4_1, ai_6_3, ai_6_4, ai_6_5, ai_6_6, ai_6_7, ai_6_8, ai_8_5, ai_8_6, ai_8_17, ai_8_21, ai_8_23, ai_8_24, ai_8_27, ai_8_28, ai_8_38, ai_8_39, ai_8_40, e_nil, nol_n, nol_I, nol_R, rsum_0, rsum_I, rsum_R, ps_s, ps_n, true_and, and_true, Nat.reduceAdd, Nat.reduceLeDiff, hd2, v1, x2, v0, x0, hcm, eo]
          refine go_blk [(.iinc 3 1, 0, 0, 0), (.goto (-42), 9, 0, 0)] (by decide +kernel) ?_
          simp only [e_inc_3_1n, e_inc_3_1I, e_inc_3_1R, e_goto, e_nil, nol_n, nol_I, nol_R, rsum_0, rsum_I, rsum_R, ps_s, ps_n, true_and, and_true, Nat.reduceAdd, Nat.reduceLeDiff, hd2, v1, x2, v0, x0, hcm, eo]
          rw [nI_1]
          exact g _ rfl
        · rw [u, if_pos ⟨c25, c39⟩] at g
          refine go_blk [(.iconst 1, 0, 0, 0), (.goto 4, 47, 0, 0), (.iastore, 0, 0, 0)] (by decide +kernel) ?_
          simp only [e_ic_1, e_goto, e_iast, ai_0_4, ai_1_7, ai_2_1, ai_2_2, ai_3_1, ai_4_1, ai_6_3, ai_6_4, ai_6_5, ai_6_6, ai_6_7, ai_6_8, ai_8_5, ai_8_6, ai_8_17, ai_8_21, ai_8_23, ai_8_24, ai_8_27, ai_8_28, ai_8_38, ai_8_39, ai_8_40, e_nil, nol_n, nol_I, nol_R, rsum_0, rsum_I, rsum_R, ps_s, ps_n, true_and, and_true, Nat.reduceAdd, Nat.reduceLeDiff, hd2, v1, x2, v0, x0, hcm, eo]
          refine go_blk [(.iinc 3 1, 0, 0, 0), (.goto (-42), 9, 0, 0)] (by decide +kernel) ?_
          simp only [e_inc_3_1n, e_inc_3_1I, e_inc_3_1R, e_goto, e_nil, nol_n, nol_I, nol_R, rsum_0, rsum_I, rsum_R, ps_s, ps_n, true_and, and_true, Nat.reduceAdd, Nat.reduceLeDiff, hd2, v1, x2, v0, x0, hcm, eo]
          rw [nI_1]
          exact g _ rfl
theorem lp_lw2 {l : Launch} {K : KK} {d : Nat} {P : Option AV → Mm → Prop} {μ0 : Mm} {op m : Nat} {t : TS} {cs : Nat → Int32} (hI : TInv op t) (hM0 : MRep μ0 t) (hm : m < 6) (h15 : μ0 8 0 0 15 = nI (m + 1)) (hc : ∀ j, j < 6 → μ0 8 0 17 j = cs j) (hd1 : 3 ≤ d) (hk : ∀ μ2, OffW μ0 μ2 → (∀ s, s < 64 → μ2 8 0 27 s = nI (mwy t cs (m + 1) s)) → ∀ x, Go l K d 164 75 [some (vR 8 0 0), some (vI (nI (mSp t))), some (vI 0), some (vI x)] [] μ2 P) : ∀ (r e : Nat) (μ : Mm), e + r = m → OffW μ0 μ → (∀ s, s < 64 → μ 8 0 27 s = nI (mwy t cs (e + 1) s)) → Go l K d 164 56 [some (vR 8 0 0), some (vI (nI (mSp t))), some (vI 0), some (vI (nI (e + 1)))] [] μ P := by
  have hd2 : 1 ≤ d := by omega
  intro r
  induction r with
  | zero =>
    intro e μ hs hO hA
    have e0 : e = m := by omega
    subst e0
    have g15 : μ 8 0 0 15 = nI (e + 1) := (hO 8 0 0 15 (by omega)).trans h15
    refine go_blk [(.iload_n 3, 0, 0, 0), (.aload_n 0, 0, 0, 0), (.getfield 114, 8, 15, 0), (.if_icmp .ge 14, 75, 0, 0)] (by decide +kernel) ?_
    simp only [e_il_3, e_al_0, e_gf_8_15, e_icmp_ge, rd_8_15, e_nil, nol_n, nol_I, nol_R, rsum_0, rsum_I, rsum_R, ps_s, ps_n, true_and, and_true, Nat.reduceAdd, Nat.reduceLeDiff, g15]
    refine ⟨fun c61 => ?_, fun c61 => ?_⟩
    · exact hk μ hO hA _
    · exact absurd (nI_le (Nat.le_refl _) (by omega)) c61
  | succ r ih =>
    intro e μ hs hO hA
    have g15 : μ 8 0 0 15 = nI (m + 1) := (hO 8 0 0 15 (by omega)).trans h15
    refine go_blk [(.iload_n 3, 0, 0, 0), (.aload_n 0, 0, 0, 0), (.getfield 114, 8, 15, 0), (.if_icmp .ge 14, 75, 0, 0)] (by decide +kernel) ?_
    simp only [e_il_3, e_al_0, e_gf_8_15, e_icmp_ge, rd_8_15, e_nil, nol_n, nol_I, nol_R, rsum_0, rsum_I, rsum_R, ps_s, ps_n, true_and, and_true, Nat.reduceAdd, Nat.reduceLeDiff, g15, hd2]
    refine ⟨fun c61 => ?_, fun c61 => ?_⟩
    · exact absurd c61 (nI_ge (by omega) (by omega))
    · refine go_blk [(.aload_n 0, 0, 0, 0), (.iload_n 3, 0, 0, 0), (.invokevirtual 245, 163, 1, 8)] (by decide +kernel) ?_
      simp only [e_al_0, e_il_3, e_iv_8_1, e_nil, nol_n, nol_I, nol_R, rsum_0, rsum_I, rsum_R, ps_s, ps_n, true_and, and_true, Nat.reduceAdd, Nat.reduceLeDiff, g15, hd2]
      refine okm_goNight (cs := cs) hI (mr_w hM0 hO) (by omega) ((hO 8 0 17 (e + 1) (by omega)).trans (hc (e + 1) (by omega))) hA (by omega) (fun μ2 o2 a2 => ?_)
      refine go_blk [(.iinc 3 1, 0, 0, 0), (.goto (-16), 56, 0, 0)] (by decide +kernel) ?_
      simp only [e_inc_3_1n, e_inc_3_1I, e_inc_3_1R, e_goto, e_nil, nol_n, nol_I, nol_R, rsum_0, rsum_I, rsum_R, ps_s, ps_n, true_and, and_true, Nat.reduceAdd, Nat.reduceLeDiff, g15, hd2]
      rw [nI_1]
      exact ih (e + 1) μ2 (by omega) (offw_tr hO o2) (fun s hs => by rw [a2 s hs, mwy_s])
theorem lp_lw3 {l : Launch} {K : KK} {d : Nat} {μ : Mm} {P : Option AV → Mm → Prop} {A : Nat → Nat} {x1 : Int32} (hA : ∀ s, s < 64 → μ 8 0 27 s = nI (A s)) (h : P (some (vI (nI (smN A 64)))) μ) : ∀ (r st : Nat), st + r = 64 → Go l K d 164 77 [some (vR 8 0 0), some (vI x1), some (vI (nI (smN A st))), some (vI (nI st))] [] μ P := by
  intro r
  induction r with
  | zero =>
    intro st hs
    have e0 : st = 64 := by omega
    subst e0
    refine go_blk [(.iload_n 3, 0, 0, 0), (.bipush 64, 0, 0, 0), (.if_icmp .ge 18, 98, 0, 0)] (by decide +kernel) ?_
    simp only [e_il_3, e_bp_64, e_icmp_ge, e_nil, nol_n, nol_I, nol_R, rsum_0, rsum_I, rsum_R, ps_s, ps_n, true_and, and_true, Nat.reduceAdd, Nat.reduceLeDiff]
    refine ⟨fun c80 => ?_, fun c80 => ?_⟩
    · refine go_blk [(.iload_n 2, 0, 0, 0), (.ireturn, 0, 0, 0)] (by decide +kernel) ?_
      simp only [e_il_2, e_iret0, e_nil, nol_n, nol_I, nol_R, rsum_0, rsum_I, rsum_R, ps_s, ps_n, true_and, and_true, Nat.reduceAdd, Nat.reduceLeDiff]
      exact h
    · exact absurd (by decide) c80
  | succ r ih =>
    intro st hs
    have v1 : vp_in (nI st) 64 := vin (by omega) (by omega)
    have x2 : ix (nI st) = st := nI_ix (by omega)
    have a1 := hA st (by omega)
    refine go_blk [(.iload_n 3, 0, 0, 0), (.bipush 64, 0, 0, 0), (.if_icmp .ge 18, 98, 0, 0)] (by decide +kernel) ?_
    simp only [e_il_3, e_bp_64, e_icmp_ge, e_nil, nol_n, nol_I, nol_R, rsum_0, rsum_I, rsum_R, ps_s, ps_n, true_and, and_true, Nat.reduceAdd, Nat.reduceLeDiff, v1, x2, a1, nI_add]
    refine ⟨fun c80 => ?_, fun c80 => ?_⟩
    · exact absurd c80 (nI_ge (b := 64) (by omega) (by omega))
    · refine go_blk [(.iload_n 2, 0, 0, 0), (.aload_n 0, 0, 0, 0), (.getfield 36, 8, 26, 0), (.iload_n 3, 0, 0, 0), (.iaload, 0, 0, 0), (.iadd, 0, 0, 0), (.istore_n 2, 0, 0, 0), (.iinc 3 1, 0, 0, 0), (.goto (-18), 77, 0, 0)] (by decide +kernel) ?_
      simp only [e_il_2, e_al_0, e_gf_8_26, e_il_3, e_ia, e_iadd, e_is_2n, e_is_2I, e_is_2R, e_inc_3_1n, e_inc_3_1I, e_inc_3_1R, e_goto, rd_8_26, ai_0_4, ai_1_7, ai_2_1, ai_2_2, ai_3_1, ai_4_1, ai_6_3, ai_6_4, ai_6_5, ai_6_6, ai_6_7, ai_6_8, ai_8_5, ai_8_6, ai_8_17, ai_8_21, ai_8_23, ai_8_24, ai_8_27, ai_8_28, ai_8_38, ai_8_39, ai_8_40, e_nil, nol_n, nol_I, nol_R, rsum_0, rsum_I, rsum_R, ps_s, ps_n, true_and, and_true, Nat.reduceAdd, Nat.reduceLeDiff, v1, x2, a1, nI_add]
      rw [nI_1]
      exact ih (st + 1) (by omega)
theorem okm_layWays {l : Launch} {K : KK} {d : Nat} {μ : Mm} {P : Option AV → Mm → Prop} {op m : Nat} {t : TS} {cs : Nat → Int32} (hI : TInv op t) (hM : MRep μ t) (hm : m < 6) (h15 : μ 8 0 0 15 = nI (m + 1)) (hc : ∀ j, j < 6 → μ 8 0 17 j = cs j) (hd1 : 3 ≤ d) (h : ∀ μ2, OffW μ μ2 → (∀ s, s < 64 → μ2 8 0 27 s = nI (mwy t cs (m + 1) s)) → P (some (vI (nI (smN (mwy t cs (m + 1)) 64)))) μ2) : Ok l K d 164 [vR 8 0 0] μ P := by
  refine ok_go 4 (by decide +kernel) [some (vR 8 0 0), none, none, none] rfl (Nat.le_of_ble_eq_true rfl) ?_
  have hd2 : 1 ≤ d := by omega
  refine go_blk [(.aload_n 0, 0, 0, 0), (.invokevirtual 239, 161, 0, 8)] (by decide +kernel) ?_
  simp only [e_al_0, e_iv_8_0, e_nil, nol_n, nol_I, nol_R, rsum_0, rsum_I, rsum_R, ps_s, ps_n, true_and, and_true, Nat.reduceAdd, Nat.reduceLeDiff, hd2]
  refine okm_spies hI hM ?_
  refine go_blk [(.istore_n 1, 0, 0, 0), (.iconst 0, 0, 0, 0), (.istore_n 2, 0, 0, 0), (.iconst 0, 0, 0, 0), (.istore_n 3, 0, 0, 0)] (by decide +kernel) ?_
  simp only [e_is_1n, e_is_1I, e_is_1R, e_ic_0, e_is_2n, e_is_2I, e_is_2R, e_is_3n, e_is_3I, e_is_3R, e_nil, nol_n, nol_I, nol_R, rsum_0, rsum_I, rsum_R, ps_s, ps_n, true_and, and_true, Nat.reduceAdd, Nat.reduceLeDiff, hd2]
  refine lp_lw1 hI hM (hc 0 (by omega)) (by omega) (fun μ1 o1 a1 x => ?_) 64 0 μ (by omega) (offw_rf μ) (fun s hs => by omega)
  refine go_blk [(.iconst 1, 0, 0, 0), (.istore_n 3, 0, 0, 0)] (by decide +kernel) ?_
  simp only [e_ic_1, e_is_3n, e_is_3I, e_is_3R, e_nil, nol_n, nol_I, nol_R, rsum_0, rsum_I, rsum_R, ps_s, ps_n, true_and, and_true, Nat.reduceAdd, Nat.reduceLeDiff]
  refine lp_lw2 hI hM hm h15 hc hd1 (fun μ2 o2 a2 x => ?_) m 0 μ1 (by omega) o1 a1
  refine go_blk [(.iconst 0, 0, 0, 0), (.istore_n 3, 0, 0, 0)] (by decide +kernel) ?_
  simp only [e_ic_0, e_is_3n, e_is_3I, e_is_3R, e_nil, nol_n, nol_I, nol_R, rsum_0, rsum_I, rsum_R, ps_s, ps_n, true_and, and_true, Nat.reduceAdd, Nat.reduceLeDiff]
  exact lp_lw3 a2 (h μ2 o2 a2) 64 0 (by omega)
