theorem and_LL (a b : Nat) : lN a &&& lN b = lN (a &&& b) := by
  apply Int64.toBitVec_inj.mp
  rw [Int64.toBitVec_and]
  show BitVec.ofNat 64 a &&& BitVec.ofNat 64 b = BitVec.ofNat 64 (a &&& b)
  apply BitVec.eq_of_toNat_eq
  rw [BitVec.toNat_and, BitVec.toNat_ofNat, BitVec.toNat_ofNat, BitVec.toNat_ofNat]
  exact (Nat.and_mod_two_pow (a := a) (b := b) (n := 64)).symm
theorem mask_LL (n k : Nat) : lN n &&& lN (2 ^ k - 1) = lN (n % 2 ^ k) := by rw [and_LL, Nat.and_two_pow_sub_one_eq_mod]
/-- the next seed -/
def sdN (q : Nat) : Nat := (1103515245 * q + 12345) % 2 ^ 31
theorem sdN_lt (q : Nat) : sdN q < 2 ^ 31 := Nat.mod_lt _ (Nat.two_pow_pos 31)
theorem sd_L (q : Nat) : ((1103515245 : Int64) * lN q + 12345) &&& 2147483647 = lN (sdN q) := by
  have a1 : (1103515245 : Int64) = lN 1103515245 := rfl
  have a2 : (12345 : Int64) = lN 12345 := rfl
  have a3 : (2147483647 : Int64) = lN (2 ^ 31 - 1) := rfl
  rw [a1, a2, a3, lN_mul, lN_add, mask_LL]
  rfl
theorem sh16 {s : Nat} (h : s < 2 ^ 31) : nI s >>> ((16 : Int32) &&& 31) = nI (s / 65536) := nI_shr (c := 16) h (by omega)
theorem dv16 {s : Nat} (h : s < 2 ^ 31) : s / 65536 < 2 ^ 31 := Nat.lt_of_le_of_lt (Nat.div_le_self _ _) h
def drw (q n : Nat) : Nat := sdN q / 65536 % n
def Off5 (μ μ' : Mm) : Prop := ∀ c i', ¬ c = 5 → ¬ (c = 6 ∧ i' = 5) → μ' c i' = μ c i'
/-- afternoons: soldiers, seed, how many fell or went over -/
def trF (op : Nat) : Nat → TS → Nat → Nat → TS × Nat × Nat
  | 0, t, q, c => (t, q, c)
  | r + 1, t, q, c =>
    if chS op t (drw q (t 0 1)) (drw (sdN q) (t 0 1)) = 0 then trF op r t (sdN (sdN q)) c
    else trF op r (fireS op t (drw q (t 0 1)) (drw (sdN q) (t 0 1)) (decide (drw (sdN (sdN q)) 10 < chS op t (drw q (t 0 1)) (drw (sdN q) (t 0 1))))).1 (sdN (sdN (sdN q)))
      (c + (fireS op t (drw q (t 0 1)) (drw (sdN q) (t 0 1)) (decide (drw (sdN (sdN q)) 10 < chS op t (drw q (t 0 1)) (drw (sdN q) (t 0 1))))).2)
section
variable {l : Launch} {K : KK} {d n : Nat} {P : Option AV → Mm → Prop} {qs : List QI} {pc a b : Nat} {w : Int} {lv : LV} {st : List AV} {μ : Mm}
theorem q_ld2_1103515245 {i : Nat} : xb l K d n P ((.ldc2_w i, a, b, 1103515245) :: qs) pc lv st μ = xb l K d n P qs (pc + 3) lv (vJ 1103515245 :: st) μ := Eq.trans e_ld2_1103515245 rfl
theorem q_ld2_12345 {i : Nat} : xb l K d n P ((.ldc2_w i, a, b, 12345) :: qs) pc lv st μ = xb l K d n P qs (pc + 3) lv (vJ 12345 :: st) μ := Eq.trans e_ld2_12345 rfl
theorem q_ld2_2147483647 {i : Nat} : xb l K d n P ((.ldc2_w i, a, b, 2147483647) :: qs) pc lv st μ = xb l K d n P qs (pc + 3) lv (vJ 2147483647 :: st) μ := Eq.trans e_ld2_2147483647 rfl
theorem q_ld2_65536 {i : Nat} : xb l K d n P ((.ldc2_w i, a, b, 65536) :: qs) pc lv st μ = xb l K d n P qs (pc + 3) lv (vJ 65536 :: st) μ := Eq.trans e_ld2_65536 rfl
theorem q_lmul {x y : Int64} : xb l K d n P ((.lmul, a, b, w) :: qs) pc lv (vJ y :: vJ x :: st) μ = (xb l K d n P qs (pc + 1) lv (vJ (x * y) :: st) μ) := Eq.trans e_lmul rfl
theorem q_ladd {x y : Int64} : xb l K d n P ((.ladd, a, b, w) :: qs) pc lv (vJ y :: vJ x :: st) μ = (xb l K d n P qs (pc + 1) lv (vJ (x + y) :: st) μ) := Eq.trans e_ladd rfl
theorem q_land {x y : Int64} : xb l K d n P ((.land, a, b, w) :: qs) pc lv (vJ y :: vJ x :: st) μ = (xb l K d n P qs (pc + 1) lv (vJ (x &&& y) :: st) μ) := Eq.trans e_land rfl
theorem q_l2i {x : Int64} : xb l K d n P ((.l2i, a, b, w) :: qs) pc lv (vJ x :: st) μ = xb l K d n P qs (pc + 1) lv (vI x.toInt32 :: st) μ := Eq.trans e_l2i rfl
theorem q_i2l {x : Int32} : xb l K d n P ((.i2l, a, b, w) :: qs) pc lv (vI x :: st) μ = xb l K d n P qs (pc + 1) lv (vJ x.toInt64 :: st) μ := Eq.trans e_i2l rfl
end
theorem ok_draw0 {l : Launch} {K : KK} {d : Nat} {μ : Mm} {P : Option AV → Mm → Prop} {q n s : Nat} (e2 : ((1103515245 : Int64) * lN q + 12345) &&& 2147483647 = lN s) (s1 : s < 2 ^ 31) (hq : q < 2 ^ 31) (hn : 0 < n) (hn2 : n < 2 ^ 31) (hs : μ 5 0 0 1 = nI q) (h : ∀ μ2, μ2 5 0 0 1 = nI s → μ2 5 0 0 2 = μ 5 0 0 2 → (∀ c i, ¬ c = 5 → μ2 c i = μ c i) → P (some (vI (nI (s / 65536 % n)))) μ2) : Ok l K d 56 [vR 5 0 0, vI (nI n)] μ P := by
  refine ok_go 2 (by decide +kernel) [some (vR 5 0 0), some (vI (nI n))] rfl (Nat.le_of_ble_eq_true rfl) ?_
  have e1 := nI_l hq
  have e3 := lN_i s
  have e4 : ∀ v, up μ 5 0 0 1 v 5 0 0 1 = v := fun v => up_self _ _ _ _ _ _
  have e5 : nI s >>> ((16 : Int32) &&& 31) = nI (s / 65536) := sh16 s1
  have b1 : s / 65536 < 2 ^ 31 := dv16 s1
  have e6 := pk_rem b1 hn hn2
  have e7 : (nI n = 0) = False := eq_false (nI_ne0 hn hn2)
  have e8 : (nI n ≤ 0) = False := eq_false (nI_nle hn hn2)
  refine go_blk [(.aload_n 0, 0, 0, 0), (.ldc2_w 46, 0, 0, 1103515245)] (by decide +kernel) ?_
  simp only [e_al_0, q_ld2_1103515245, e_nil, nol_n, nol_I, nol_R, rsum_0, rsum_I, rsum_R, ps_s, ps_n, true_and, and_true, Nat.reduceAdd, Nat.reduceLeDiff, hs, e1, e2, e3, e4, e5, e6, e7, e8, true_implies, false_implies, not_true_eq_false, not_false_eq_true]
  generalize (1103515245 : Int64) = A at e2 ⊢
  refine go_blk [(.aload_n 0, 0, 0, 0), (.getfield 9, 5, 1, 0), (.i2l, 0, 0, 0), (.lmul, 0, 0, 0), (.ldc2_w 48, 0, 0, 12345)] (by decide +kernel) ?_
  simp only [e_al_0, e_gf_5_1, q_i2l, q_lmul, q_ld2_12345, rd_5_1, e_nil, nol_n, nol_I, nol_R, rsum_0, rsum_I, rsum_R, ps_s, ps_n, true_and, and_true, Nat.reduceAdd, Nat.reduceLeDiff, hs, e1, e2, e3, e4, e5, e6, e7, e8, true_implies, false_implies, not_true_eq_false, not_false_eq_true]
  generalize (12345 : Int64) = B at e2 ⊢
  refine go_blk [(.ladd, 0, 0, 0), (.ldc2_w 50, 0, 0, 2147483647)] (by decide +kernel) ?_
  simp only [q_ladd, q_ld2_2147483647, e_nil, nol_n, nol_I, nol_R, rsum_0, rsum_I, rsum_R, ps_s, ps_n, true_and, and_true, Nat.reduceAdd, Nat.reduceLeDiff, hs, e1, e2, e3, e4, e5, e6, e7, e8, true_implies, false_implies, not_true_eq_false, not_false_eq_true]
  generalize (2147483647 : Int64) = C at e2 ⊢
  refine go_blk [(.land, 0, 0, 0), (.l2i, 0, 0, 0), (.putfield 9, 5, 1, 0)] (by decide +kernel) ?_
  simp only [q_land, q_l2i, e_pf_5_1, e_nil, nol_n, nol_I, nol_R, rsum_0, rsum_I, rsum_R, ps_s, ps_n, true_and, and_true, Nat.reduceAdd, Nat.reduceLeDiff, hs, e1, e2, e3, e4, e5, e6, e7, e8, true_implies, false_implies, not_true_eq_false, not_false_eq_true]
  refine go_blk [(.iload_n 1, 0, 0, 0), (.ifCond .le 15, 38, 0, 0)] (by decide +kernel) ?_
  simp only [e_il_1, e_if_le, e_nil, nol_n, nol_I, nol_R, rsum_0, rsum_I, rsum_R, ps_s, ps_n, true_and, and_true, Nat.reduceAdd, Nat.reduceLeDiff, hs, e1, e2, e3, e4, e5, e6, e7, e8, true_implies, false_implies, not_true_eq_false, not_false_eq_true]
  refine go_blk [(.aload_n 0, 0, 0, 0), (.getfield 9, 5, 1, 0), (.bipush 16, 0, 0, 0), (.ishr, 0, 0, 0), (.iload_n 1, 0, 0, 0), (.irem, 0, 0, 0), (.goto 4, 39, 0, 0), (.ireturn, 0, 0, 0)] (by decide +kernel) ?_
  simp only [e_al_0, e_gf_5_1, e_bp_16, e_ishr, e_il_1, e_irem, e_goto, e_iret0, rd_5_1, e_nil, nol_n, nol_I, nol_R, rsum_0, rsum_I, rsum_R, ps_s, ps_n, true_and, and_true, Nat.reduceAdd, Nat.reduceLeDiff, hs, e1, e2, e3, e4, e5, e6, e7, e8, true_implies, false_implies, not_true_eq_false, not_false_eq_true]
  exact h _ (up_self _ _ _ _ _ _) (up_ne (by omega)) (fun c i hc => by funext s j; exact up_ne (fun z => hc z.1))
theorem ok_draw {l : Launch} {K : KK} {d : Nat} {μ : Mm} {P : Option AV → Mm → Prop} {q n : Nat} (hq : q < 2 ^ 31) (hn : 0 < n) (hn2 : n < 2 ^ 31) (hs : μ 5 0 0 1 = nI q) (h : ∀ μ2, μ2 5 0 0 1 = nI (sdN q) → μ2 5 0 0 2 = μ 5 0 0 2 → (∀ c i, ¬ c = 5 → μ2 c i = μ c i) → P (some (vI (nI (drw q n)))) μ2) : Ok l K d 56 [vR 5 0 0, vI (nI n)] μ P := ok_draw0 (sd_L q) (sdN_lt q) hq hn hn2 hs h
theorem lp_run {l : Launch} {K : KK} {d : Nat} {P : Option AV → Mm → Prop} {μ0 : Mm} {op i2 T : Nat} {x3 : Int32} (hT2 : T < 2 ^ 31) (hC0 : CRep μ0 true op) (hd1 : 4 ≤ d) : ∀ (r e q c : Nat) (t : TS) (μ : Mm) (y5 y6 y7 : Option AV), e + r = T → TInv op t → 0 < t 0 1 → TRep μ 5 t → q < 2 ^ 31 → μ 5 0 0 1 = nI q → μ 5 0 0 2 = nI c → Off5 μ0 μ → (∀ μ2, TRep μ2 5 (trF op r t q c).1 → μ2 5 0 0 1 = nI (trF op r t q c).2.1 → μ2 5 0 0 2 = nI (trF op r t q c).2.2 → Off5 μ0 μ2 → P none μ2) → Go l K d 55 21 [some (vR 5 0 0), some (vR 6 i2 0), some (vI (nI T)), some (vI x3), some (vI (nI e)), y5, y6, y7] [] μ P := by
  have hd2 : 1 ≤ d := by omega
  intro r
  induction r with
  | zero =>
    intro e q c t μ y5 y6 y7 he hI h0 hT hq h1 h2 hO h
    refine go_blk [(.iload 4, 0, 0, 0), (.iload_n 2, 0, 0, 0), (.if_icmp .ge 89, 113, 0, 0)] (by decide +kernel) ?_
    simp only [e_ilw_4, e_il_2, e_icmp_ge, e_nil, nol_n, nol_I, nol_R, rsum_0, rsum_I, rsum_R, ps_s, ps_n, true_and, and_true, Nat.reduceAdd, Nat.reduceLeDiff]
    refine ⟨fun c24 => ?_, fun c24 => ?_⟩
    · refine go_blk [(.return_, 0, 0, 0)] (by decide +kernel) ?_
      simp only [e_vret, e_nil, nol_n, nol_I, nol_R, rsum_0, rsum_I, rsum_R, ps_s, ps_n, true_and, and_true, Nat.reduceAdd, Nat.reduceLeDiff]
      exact h μ hT h1 h2 hO
    · exact absurd (nI_le (by omega) (by omega)) c24
  | succ r ih =>
    intro e q c t μ y5 y6 y7 he hI h0 hT hq h1 h2 hO h
    have hn := hI.1
    have m1 := hT.1
    have b5 : 5 < 6 := by omega
    unfold trF at h
    refine go_blk [(.iload 4, 0, 0, 0), (.iload_n 2, 0, 0, 0), (.if_icmp .ge 89, 113, 0, 0)] (by decide +kernel) ?_
    simp only [e_ilw_4, e_il_2, e_icmp_ge, e_nil, nol_n, nol_I, nol_R, rsum_0, rsum_I, rsum_R, ps_s, ps_n, true_and, and_true, Nat.reduceAdd, Nat.reduceLeDiff, hd2, m1, b5]
    refine ⟨fun c24 => ?_, fun c24 => ?_⟩
    · exact absurd c24 (nI_ge (by omega) (by omega))
    · refine go_blk [(.aload_n 0, 0, 0, 0), (.aload_n 0, 0, 0, 0), (.getfield 23, 5, 0, 0), (.getfield 31, 6, 1, 0), (.invokevirtual 34, 56, 1, 5)] (by decide +kernel) ?_
      simp only [e_al_0, e_gf_5_0, e_gf_6_1, e_iv_5_1, rd_5_0, rd_6_1, e_nil, nol_n, nol_I, nol_R, rsum_0, rsum_I, rsum_R, ps_s, ps_n, true_and, and_true, Nat.reduceAdd, Nat.reduceLeDiff, hd2, m1, b5]
      refine ok_draw hq h0 (by omega) h1 (fun μ1 g1 f1 o1 => ?_)
      have tT1 : TRep μ1 5 t := hT.off (o1 6 5 (by omega))
      have m2 := tT1.1
      refine go_blk [(.istore 5, 0, 0, 0), (.aload_n 0, 0, 0, 0), (.aload_n 0, 0, 0, 0), (.getfield 23, 5, 0, 0), (.getfield 31, 6, 1, 0), (.invokevirtual 34, 56, 1, 5)] (by decide +kernel) ?_
      simp only [e_isw_5n, e_isw_5I, e_isw_5R, e_al_0, e_gf_5_0, e_gf_6_1, e_iv_5_1, rd_5_0, rd_6_1, e_nil, nol_n, nol_I, nol_R, rsum_0, rsum_I, rsum_R, ps_s, ps_n, true_and, and_true, Nat.reduceAdd, Nat.reduceLeDiff, hd2, m1, b5, m2]
      refine ok_draw (sdN_lt _) h0 (by omega) g1 (fun μ2 g2 f2 o2 => ?_)
      have tT2 : TRep μ2 5 t := tT1.off (o2 6 5 (by omega))
      have oO2 : Off5 μ0 μ2 := fun c i' hc hc2 => (o2 c i' hc).trans ((o1 c i' hc).trans (hO c i' hc hc2))
      have cC2 : CRep μ2 true op := hC0.off (oO2 0 0 (by omega) (by omega))
      have ra : drw q (t 0 1) < t 0 1 := Nat.mod_lt _ h0
      have rb : drw (sdN q) (t 0 1) < t 0 1 := Nat.mod_lt _ h0
      have rc := chS_le op t (drw q (t 0 1)) (drw (sdN q) (t 0 1))
      refine go_blk [(.istore 6, 0, 0, 0), (.aload_n 0, 0, 0, 0), (.getfield 23, 5, 0, 0), (.iload 5, 0, 0, 0), (.iload 6, 0, 0, 0), (.invokevirtual 38, 67, 2, 6)] (by decide +kernel) ?_
      simp only [e_isw_6n, e_isw_6I, e_isw_6R, e_al_0, e_gf_5_0, e_ilw_5, e_ilw_6, e_iv_6_2, rd_5_0, e_nil, nol_n, nol_I, nol_R, rsum_0, rsum_I, rsum_R, ps_s, ps_n, true_and, and_true, Nat.reduceAdd, Nat.reduceLeDiff, hd2, m1, b5, m2]
      refine ok_chance b5 tT2 hI cC2 (by omega) (by omega) (by omega) ?_
      refine go_blk [(.istore 7, 0, 0, 0), (.iload 7, 0, 0, 0), (.ifCond .le 39, 107, 0, 0)] (by decide +kernel) ?_
      simp only [e_isw_7n, e_isw_7I, e_isw_7R, e_ilw_7, e_if_le, e_nil, nol_n, nol_I, nol_R, rsum_0, rsum_I, rsum_R, ps_s, ps_n, true_and, and_true, Nat.reduceAdd, Nat.reduceLeDiff, hd2, m1, b5, m2]
      refine ⟨fun c68 => ?_, fun c68 => ?_⟩
      · have z : chS op t (drw q (t 0 1)) (drw (sdN q) (t 0 1)) = 0 := by
          rcases Nat.eq_zero_or_pos (chS op t (drw q (t 0 1)) (drw (sdN q) (t 0 1))) with z | z
          · exact z
          · exact absurd c68 (nI_nle z (by omega))
        rw [if_pos z] at h
        refine go_blk [(.iinc 4 1, 0, 0, 0), (.goto (-89), 21, 0, 0)] (by decide +kernel) ?_
        simp only [e_inc_4_1n, e_inc_4_1I, e_inc_4_1R, e_goto, e_nil, nol_n, nol_I, nol_R, rsum_0, rsum_I, rsum_R, ps_s, ps_n, true_and, and_true, Nat.reduceAdd, Nat.reduceLeDiff, hd2, m1, b5, m2]
        rw [nI_1]
        exact ih (e + 1) (sdN (sdN q)) c t _ _ _ _ (by omega) hI h0 tT2 (sdN_lt _) g2 (f2.trans (f1.trans h2)) oO2 h
      · have z : chS op t (drw q (t 0 1)) (drw (sdN q) (t 0 1)) ≠ 0 := fun z => c68 (by rw [z]; decide)
        rw [if_neg z] at h
        obtain ⟨pa, pb, -, ps, -, pp, -⟩ := chS_pos z
        refine go_blk [(.aload_n 0, 0, 0, 0), (.dup, 0, 0, 0), (.getfield 15, 5, 2, 0), (.aload_n 0, 0, 0, 0), (.getfield 23, 5, 0, 0), (.iload 5, 0, 0, 0), (.iload 6, 0, 0, 0), (.aload_n 0, 0, 0, 0), (.bipush 10, 0, 0, 0), (.invokevirtual 34, 56, 1, 5)] (by decide +kernel) ?_
        simp only [e_al_0, e_dupI, e_dupR, e_gf_5_2, e_gf_5_0, e_ilw_5, e_ilw_6, e_bp_10, e_iv_5_1, rd_5_2, rd_5_0, e_nil, nol_n, nol_I, nol_R, rsum_0, rsum_I, rsum_R, ps_s, ps_n, true_and, and_true, Nat.reduceAdd, Nat.reduceLeDiff, hd2, m1, b5, m2]
        refine ok_draw (n := 10) (sdN_lt _) (by omega) (by omega) g2 (fun μ3 g3 f3 o3 => ?_)
        have tT3 : TRep μ3 5 t := tT2.off (o3 6 5 (by omega))
        have oO3 : Off5 μ0 μ3 := fun c i' hc hc2 => (o3 c i' hc).trans (oO2 c i' hc hc2)
        have cC3 : CRep μ3 true op := hC0.off (oO3 0 0 (by omega) (by omega))
        have hc2 := f2.trans (f1.trans h2)
        refine go_blk [(.iload 7, 0, 0, 0), (.if_icmp .ge 7, 99, 0, 0)] (by decide +kernel) ?_
        simp only [e_ilw_7, e_icmp_ge, e_nil, nol_n, nol_I, nol_R, rsum_0, rsum_I, rsum_R, ps_s, ps_n, true_and, and_true, Nat.reduceAdd, Nat.reduceLeDiff, hd2, m1, b5, m2]
        refine ⟨fun c92 => ?_, fun c92 => ?_⟩
        · have zh : decide (drw (sdN (sdN q)) 10 < chS op t (drw q (t 0 1)) (drw (sdN q) (t 0 1))) = false := decide_eq_false (fun z2 => absurd c92 (nI_ge z2 (by omega)))
          rw [zh] at h
          refine go_blk [(.iconst 0, 0, 0, 0), (.invokevirtual 42, 68, 3, 6)] (by decide +kernel) ?_
          simp only [e_ic_0, e_iv_6_3, e_nil, nol_n, nol_I, nol_R, rsum_0, rsum_I, rsum_R, ps_s, ps_n, true_and, and_true, Nat.reduceAdd, Nat.reduceLeDiff, hd2, m1, b5, m2]
          refine ok_fire (hit := false) b5 tT3 hI cC3 pa pb ps pp (by omega) (fun μ4 tT4 oO4 => ?_)
          obtain ⟨iI, iN, -⟩ := fire_inv (a := drw q (t 0 1)) (hit := false) hI pb ps
          refine go_blk [(.iadd, 0, 0, 0), (.putfield 15, 5, 2, 0)] (by decide +kernel) ?_
          simp only [e_iadd, e_pf_5_2, e_nil, nol_n, nol_I, nol_R, rsum_0, rsum_I, rsum_R, ps_s, ps_n, true_and, and_true, Nat.reduceAdd, Nat.reduceLeDiff, hd2, m1, b5, m2]
          refine go_blk [(.iinc 4 1, 0, 0, 0), (.goto (-89), 21, 0, 0)] (by decide +kernel) ?_
          simp only [e_inc_4_1n, e_inc_4_1I, e_inc_4_1R, e_goto, e_nil, nol_n, nol_I, nol_R, rsum_0, rsum_I, rsum_R, ps_s, ps_n, true_and, and_true, Nat.reduceAdd, Nat.reduceLeDiff, hd2, m1, b5, m2]
          rw [nI_1]
          refine ih (e + 1) (sdN (sdN (sdN q))) _ _ _ _ _ _ (by omega) iI (by rw [iN]; exact h0) (tT4.off (by funext s' j'; exact up_ne (by omega))) (sdN_lt _) (by rw [up_ne (by omega), oO4 5 0 (by omega)]; exact g3) (by rw [up_self, hc2, nI_add]) ?_ h
          intro c' i' hc hc3
          rw [← oO3 c' i' hc hc3, ← oO4 c' i' hc3]
          funext s' j'
          exact up_ne (fun z3 => hc z3.1)
        · have zh : decide (drw (sdN (sdN q)) 10 < chS op t (drw q (t 0 1)) (drw (sdN q) (t 0 1))) = true := decide_eq_true (by
            by_cases z2 : drw (sdN (sdN q)) 10 < chS op t (drw q (t 0 1)) (drw (sdN q) (t 0 1))
            · exact z2
            · exact absurd (nI_le (by omega) (by unfold drw; omega)) c92)
          rw [zh] at h
          refine go_blk [(.iconst 1, 0, 0, 0), (.goto 4, 100, 0, 0), (.invokevirtual 42, 68, 3, 6)] (by decide +kernel) ?_
          simp only [e_ic_1, e_goto, e_iv_6_3, e_nil, nol_n, nol_I, nol_R, rsum_0, rsum_I, rsum_R, ps_s, ps_n, true_and, and_true, Nat.reduceAdd, Nat.reduceLeDiff, hd2, m1, b5, m2]
          refine ok_fire (hit := true) b5 tT3 hI cC3 pa pb ps pp (by omega) (fun μ4 tT4 oO4 => ?_)
          obtain ⟨iI, iN, -⟩ := fire_inv (a := drw q (t 0 1)) (hit := true) hI pb ps
          refine go_blk [(.iadd, 0, 0, 0), (.putfield 15, 5, 2, 0)] (by decide +kernel) ?_
          simp only [e_iadd, e_pf_5_2, e_nil, nol_n, nol_I, nol_R, rsum_0, rsum_I, rsum_R, ps_s, ps_n, true_and, and_true, Nat.reduceAdd, Nat.reduceLeDiff, hd2, m1, b5, m2]
          refine go_blk [(.iinc 4 1, 0, 0, 0), (.goto (-89), 21, 0, 0)] (by decide +kernel) ?_
          simp only [e_inc_4_1n, e_inc_4_1I, e_inc_4_1R, e_goto, e_nil, nol_n, nol_I, nol_R, rsum_0, rsum_I, rsum_R, ps_s, ps_n, true_and, and_true, Nat.reduceAdd, Nat.reduceLeDiff, hd2, m1, b5, m2]
          rw [nI_1]
          refine ih (e + 1) (sdN (sdN (sdN q))) _ _ _ _ _ _ (by omega) iI (by rw [iN]; exact h0) (tT4.off (by funext s' j'; exact up_ne (by omega))) (sdN_lt _) (by rw [up_ne (by omega), oO4 5 0 (by omega)]; exact g3) (by rw [up_self, hc2, nI_add]) ?_ h
          intro c' i' hc hc3
          rw [← oO3 c' i' hc hc3, ← oO4 c' i' hc3]
          funext s' j'
          exact up_ne (fun z3 => hc z3.1)
theorem ok_run {l : Launch} {K : KK} {d : Nat} {μ : Mm} {P : Option AV → Mm → Prop} {op i2 T q : Nat} {t : TS} (hi2 : i2 < 5) (hT2 : T < 2 ^ 31) (hq : q < 2 ^ 31) (hT : TRep μ i2 t) (hI : TInv op t) (h0 : 0 < t 0 1) (hC : CRep μ true op) (hd1 : 4 ≤ d) (h : ∀ μ2, TRep μ2 5 (trF op T t q 0).1 → μ2 5 0 0 1 = nI (trF op T t q 0).2.1 → μ2 5 0 0 2 = nI (trF op T t q 0).2.2 → Off5 μ μ2 → P none μ2) : Ok l K d 55 [vR 5 0 0, vR 6 i2 0, vI (nI T), vI (nI q)] μ P := by
  refine ok_go 8 (by decide +kernel) [some (vR 5 0 0), some (vR 6 i2 0), some (vI (nI T)), some (vI (nI q)), none, none, none, none] rfl (Nat.le_of_ble_eq_true rfl) ?_
  have hd2 : 1 ≤ d := by omega
  have b5 : 5 < 6 := by omega
  have hi6 : i2 < 6 := by omega
  refine go_blk [(.aload_n 0, 0, 0, 0), (.getfield 23, 5, 0, 0), (.aload_n 1, 0, 0, 0), (.invokevirtual 27, 59, 1, 6)] (by decide +kernel) ?_
  simp only [e_al_0, e_gf_5_0, e_al_1, e_iv_6_1, rd_5_0, e_nil, nol_n, nol_I, nol_R, rsum_0, rsum_I, rsum_R, ps_s, ps_n, true_and, and_true, Nat.reduceAdd, Nat.reduceLeDiff, hd2, b5, hi6]
  refine ok_copyFrom b5 hi6 (by omega) hT hI (fun μ1 tT1 oO1 => ?_)
  refine go_blk [(.aload_n 0, 0, 0, 0), (.iload_n 3, 0, 0, 0), (.putfield 9, 5, 1, 0)] (by decide +kernel) ?_
  simp only [e_al_0, e_il_3, e_pf_5_1, e_nil, nol_n, nol_I, nol_R, rsum_0, rsum_I, rsum_R, ps_s, ps_n, true_and, and_true, Nat.reduceAdd, Nat.reduceLeDiff, hd2, b5, hi6]
  refine go_blk [(.aload_n 0, 0, 0, 0), (.iconst 0, 0, 0, 0), (.putfield 15, 5, 2, 0)] (by decide +kernel) ?_
  simp only [e_al_0, e_ic_0, e_pf_5_2, e_nil, nol_n, nol_I, nol_R, rsum_0, rsum_I, rsum_R, ps_s, ps_n, true_and, and_true, Nat.reduceAdd, Nat.reduceLeDiff, hd2, b5, hi6]
  refine go_blk [(.iconst 0, 0, 0, 0), (.istore 4, 0, 0, 0)] (by decide +kernel) ?_
  simp only [e_ic_0, e_isw_4n, e_isw_4I, e_isw_4R, e_nil, nol_n, nol_I, nol_R, rsum_0, rsum_I, rsum_R, ps_s, ps_n, true_and, and_true, Nat.reduceAdd, Nat.reduceLeDiff, hd2, b5, hi6]
  refine lp_run hT2 hC hd1 T 0 q 0 t _ none none none (by omega) hI h0 ((tT1.off ?_)) hq (by rw [up_ne (by omega), up_self]) (up_self _ _ _ _ _ _) ?_ h
  · funext s' j'; rw [up_ne (by omega), up_ne (by omega)]
  · intro c' i' hc hc2
    rw [← oO1 c' i' hc2]
    funext s' j'
    rw [up_ne (fun z => hc z.1), up_ne (fun z => hc z.1)]
