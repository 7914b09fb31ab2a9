section
variable {l : Launch} {K : KK} {d n : Nat} {P : Option AV → Mm → Prop} {qs : List QI} {pc a b : Nat} {w : Int} {lv : LV} {st : List AV} {μ : Mm}
theorem q_ldiv {x y : Int64} : xb l K d n P ((.ldiv, a, b, w) :: qs) pc lv (vJ y :: vJ x :: st) μ = ((¬ y = 0) ∧ xb l K d n P qs (pc + 1) lv (vJ (x / y) :: st) μ) := Eq.trans e_ldiv rfl
theorem q_lrem {x y : Int64} : xb l K d n P ((.lrem, a, b, w) :: qs) pc lv (vJ y :: vJ x :: st) μ = ((¬ y = 0) ∧ xb l K d n P qs (pc + 1) lv (vJ (x - x / y * y) :: st) μ) := Eq.trans e_lrem rfl
end
def SdR (μ : Mm) (q : Nat) : Prop := mkL (μ 8 0 0 28) (μ 8 0 99 28) = lN q
def OffD (μ μ2 : Mm) : Prop := ∀ c i s j, ¬ (c = 8 ∧ i = 0 ∧ (s = 0 ∨ s = 99) ∧ j = 28) → μ2 c i s j = μ c i s j
theorem lN_ne0 {n : Nat} (h : 0 < n) (h2 : n < 2 ^ 31) : ¬ lN n = 0 := fun z => by
  have := (lN_eq (a := n) (b := 0) h2 (by omega)).mp z
  omega
theorem dv_L {s : Nat} (h : s < 2 ^ 31) : lN s / (65536 : Int64) = lN (s / 65536) := pk_lDiv (b := 65536) (by omega) (by omega) (by omega)
theorem nz_L : ((65536 : Int64) = 0) = False := eq_false (lN_ne0 (n := 65536) (by omega) (by omega))
theorem okm_draw0 {l : Launch} {K : KK} {d : Nat} {μ : Mm} {P : Option AV → Mm → Prop} {q n s : Nat} (e2 : ((1103515245 : Int64) * lN q + 12345) &&& 2147483647 = lN s) (eD : lN s / (65536 : Int64) = lN (s / 65536)) (nz : ((65536 : Int64) = 0) = False) (s1 : s < 2 ^ 31) (hn : 0 < n) (hn2 : n < 2 ^ 31) (hs : SdR μ q) (h : ∀ μ2, SdR μ2 s → OffD μ μ2 → P (some (vI (nI (s / 65536 % n)))) μ2) : Ok l K d 169 [vR 8 0 0, vI (nI n)] μ P := by
  refine ok_go 2 (by decide +kernel) [some (vR 8 0 0), some (vI (nI n))] rfl (Nat.le_of_ble_eq_true rfl) ?_
  have hs' : mkL (μ 8 0 0 28) (μ 8 0 99 28) = lN q := hs
  have e4 : ∀ x, mkL (up (up μ 8 0 0 28 (hiL x)) 8 0 99 28 (loL x) 8 0 0 28) (up (up μ 8 0 0 28 (hiL x)) 8 0 99 28 (loL x) 8 0 99 28) = x := fun x => by
    rw [up_self, up_ne (by omega), up_self, mkL_eq]
  have en := nI_l hn2
  have b1 : s / 65536 < 2 ^ 31 := dv16 s1
  have er : lN (s / 65536) - lN (s / 65536) / lN n * lN n = lN (s / 65536 % n) := pk_lRem (by omega) hn (by omega)
  have e3 := lN_i (s / 65536 % n)
  have nn : (lN n = 0) = False := eq_false (lN_ne0 hn hn2)
  refine go_blk [(.aload_n 0, 0, 0, 0), (.ldc2_w 257, 0, 0, 1103515245)] (by decide +kernel) ?_
  simp only [e_al_0, q_ld2_1103515245, e_nil, nol_n, nol_I, nol_R, rsum_0, rsum_I, rsum_R, ps_s, ps_n, true_and, and_true, Nat.reduceAdd, Nat.reduceLeDiff, hs', e2, e4, eD, nz, en, er, e3, nn, true_implies, false_implies, not_true_eq_false, not_false_eq_true]
  generalize (1103515245 : Int64) = A at e2 ⊢
  refine go_blk [(.aload_n 0, 0, 0, 0), (.getfield 259, 8, 28, 0), (.lmul, 0, 0, 0), (.ldc2_w 263, 0, 0, 12345)] (by decide +kernel) ?_
  simp only [e_al_0, e_gf_8_28, q_lmul, q_ld2_12345, rd_8_28, e_nil, nol_n, nol_I, nol_R, rsum_0, rsum_I, rsum_R, ps_s, ps_n, true_and, and_true, Nat.reduceAdd, Nat.reduceLeDiff, hs', e2, e4, eD, nz, en, er, e3, nn, true_implies, false_implies, not_true_eq_false, not_false_eq_true]
  generalize (12345 : Int64) = B at e2 ⊢
  refine go_blk [(.ladd, 0, 0, 0), (.ldc2_w 265, 0, 0, 2147483647)] (by decide +kernel) ?_
  simp only [q_ladd, q_ld2_2147483647, e_nil, nol_n, nol_I, nol_R, rsum_0, rsum_I, rsum_R, ps_s, ps_n, true_and, and_true, Nat.reduceAdd, Nat.reduceLeDiff, hs', e2, e4, eD, nz, en, er, e3, nn, true_implies, false_implies, not_true_eq_false, not_false_eq_true]
  generalize (2147483647 : Int64) = C at e2 ⊢
  refine go_blk [(.land, 0, 0, 0), (.putfield 259, 8, 28, 0)] (by decide +kernel) ?_
  simp only [q_land, e_pf_8_28, e_nil, nol_n, nol_I, nol_R, rsum_0, rsum_I, rsum_R, ps_s, ps_n, true_and, and_true, Nat.reduceAdd, Nat.reduceLeDiff, hs', e2, e4, eD, nz, en, er, e3, nn, true_implies, false_implies, not_true_eq_false, not_false_eq_true]
  refine go_blk [(.aload_n 0, 0, 0, 0), (.getfield 259, 8, 28, 0), (.ldc2_w 267, 0, 0, 65536)] (by decide +kernel) ?_
  simp only [e_al_0, e_gf_8_28, q_ld2_65536, rd_8_28, e_nil, nol_n, nol_I, nol_R, rsum_0, rsum_I, rsum_R, ps_s, ps_n, true_and, and_true, Nat.reduceAdd, Nat.reduceLeDiff, hs', e2, e4, eD, nz, en, er, e3, nn, true_implies, false_implies, not_true_eq_false, not_false_eq_true]
  generalize (65536 : Int64) = D at eD nz ⊢
  refine go_blk [(.ldiv, 0, 0, 0), (.iload_n 1, 0, 0, 0), (.i2l, 0, 0, 0), (.lrem, 0, 0, 0), (.l2i, 0, 0, 0), (.ireturn, 0, 0, 0)] (by decide +kernel) ?_
  simp only [q_ldiv, e_il_1, q_i2l, q_lrem, q_l2i, e_iret0, e_nil, nol_n, nol_I, nol_R, rsum_0, rsum_I, rsum_R, ps_s, ps_n, true_and, and_true, Nat.reduceAdd, Nat.reduceLeDiff, hs', e2, e4, eD, nz, en, er, e3, nn, true_implies, false_implies, not_true_eq_false, not_false_eq_true]
  refine h _ (e4 _) (fun c i s' j hc => ?_)
  rw [up_ne (by omega), up_ne (by omega)]
theorem okm_draw {l : Launch} {K : KK} {d : Nat} {μ : Mm} {P : Option AV → Mm → Prop} {q n : Nat} (hn : 0 < n) (hn2 : n < 2 ^ 31) (hs : SdR μ q) (h : ∀ μ2, SdR μ2 (sdN q) → OffD μ μ2 → P (some (vI (nI (drw q n)))) μ2) : Ok l K d 169 [vR 8 0 0, vI (nI n)] μ P := okm_draw0 (sd_L q) (dv_L (sdN_lt q)) nz_L (sdN_lt q) hn hn2 hs h
def OffE (μ μ2 : Mm) : Prop := ∀ c i s j, ¬ (c = 8 ∧ i = 0 ∧ s = 0 ∧ 6 ≤ j ∧ j ≤ 10) → ¬ (c = 8 ∧ i = 0 ∧ (s = 0 ∨ s = 99) ∧ j = 28) → μ2 c i s j = μ c i s j
theorem offe_rf (μ : Mm) : OffE μ μ := fun _ _ _ _ _ _ => rfl
theorem offe_tr {a b c : Mm} (h : OffE a b) (g : OffE b c) : OffE a c := fun x i s j q1 q2 => (g x i s j q1 q2).trans (h x i s j q1 q2)
theorem offe_d {a b : Mm} (h : OffD a b) : OffE a b := fun x i s j _ q => h x i s j q
theorem offe_m {a b : Mm} (h : OffM a b) : OffE a b := fun x i s j q _ => h x i s j q
theorem mr_d {a b : Mm} {t : TS} (hM : MRep a t) (h : OffD a b) : MRep b t := mr_off hM (fun s j hs => h 8 0 s j (by omega))
theorem sd_m {a b : Mm} {q : Nat} (hS : SdR a q) (h : OffM a b) : SdR b q := by
  unfold SdR at *
  rw [h 8 0 0 28 (by omega), h 8 0 99 28 (by omega)]
  exact hS
theorem sv_e {a b : Mm} {t : TS} {lv : Nat} (hS : SvR a lv t) (h : OffE a b) : SvR b lv t := by
  obtain ⟨s0, s1, s2, s3, s4⟩ := hS
  exact ⟨(h 8 0 24 _ (by omega) (by omega)).trans s0, (h 8 0 24 _ (by omega) (by omega)).trans s1, (h 8 0 24 _ (by omega) (by omega)).trans s2, (h 8 0 24 _ (by omega) (by omega)).trans s3, (h 8 0 24 _ (by omega) (by omega)).trans s4⟩
theorem lp_after {l : Launch} {K : KK} {d : Nat} {P : Option AV → Mm → Prop} {μ0 : Mm} {op T N : Nat} {x2 x3 : Int32} {t35 : TS} {Z : TS × Nat × Nat} (hT2 : T < 2 ^ 31) (hN : 0 < N) (hop : op < 2 ^ 15) (ho0 : μ0 8 0 0 2 = nI op) (hd1 : 5 ≤ d) (hk : ∀ (μ2 : Mm) (y6 y7 y8 y9 : Option AV), MRep μ2 Z.1 → SdR μ2 Z.2.1 → OffE μ0 μ2 → Z.1 0 1 = N → (∀ j, Z.1 3 j = t35 3 j ∧ Z.1 5 j = t35 5 j) → Go l K d 170 110 [some (vR 8 0 0), some (vI (nI T)), some (vI x2), some (vI x3), some (vI (nI Z.2.2)), some (vI (nI T)), y6, y7, y8, y9] [] μ2 P) : ∀ (r e q c : Nat) (t : TS) (μ : Mm) (y6 y7 y8 y9 : Option AV), e + r = T → TInv op t → t 0 1 = N → (∀ j, t 3 j = t35 3 j ∧ t 5 j = t35 5 j) → MRep μ t → SdR μ q → OffE μ0 μ → trF op r t q c = Z → Go l K d 170 17 [some (vR 8 0 0), some (vI (nI T)), some (vI x2), some (vI x3), some (vI (nI c)), some (vI (nI e)), y6, y7, y8, y9] [] μ P := by
  have hd2 : 1 ≤ d := by omega
  intro r
  induction r with
  | zero =>
    intro e q c t μ y6 y7 y8 y9 he hI h0 h35 hM hS hO hZ
    have e0 : e = T := by omega
    subst e0
    have hZ' : (t, q, c) = Z := hZ
    subst hZ'
    refine go_blk [(.iload 5, 0, 0, 0), (.iload_n 1, 0, 0, 0), (.if_icmp .ge 90, 110, 0, 0)] (by decide +kernel) ?_
    simp only [e_ilw_5, e_il_1, e_icmp_ge, e_nil, nol_n, nol_I, nol_R, rsum_0, rsum_I, rsum_R, ps_s, ps_n, true_and, and_true, Nat.reduceAdd, Nat.reduceLeDiff]
    refine ⟨fun c20 => ?_, fun c20 => ?_⟩
    · exact hk μ _ _ _ _ hM hS hO h0 h35
    · exact absurd (nI_le (Nat.le_refl _) (by omega)) c20
  | succ r ih =>
    intro e q c t μ y6 y7 y8 y9 he hI h0 h35 hM hS hO hZ
    have hn := hI.1
    have m3 := hM.1.1
    have hN0 : 0 < t 0 1 := by omega
    unfold trF at hZ
    have ra : drw q (t 0 1) < t 0 1 := Nat.mod_lt _ hN0
    have rb : drw (sdN q) (t 0 1) < t 0 1 := Nat.mod_lt _ hN0
    have rc := chS_le op t (drw q (t 0 1)) (drw (sdN q) (t 0 1))
    have r10 : drw (sdN (sdN q)) 10 < 10 := Nat.mod_lt _ (by omega)
    generalize ea : drw q (t 0 1) = a at *
    generalize eb : drw (sdN q) (t 0 1) = b at *
    have e55 : (nI (chS op t a b) ≤ 0) = (chS op t a b = 0) := le0 (by omega)
    have q5 : ∀ j, pea t a 5 j = t 5 j := fun j => tu_ne (by omega)
    have z0 : nI c + 0 = nI c := Int32.add_zero _
    have e66 : (nI (chS op t a b) ≤ nI (drw (sdN (sdN q)) 10)) = (chS op t a b ≤ drw (sdN (sdN q)) 10) := propext (nI_leI (by omega) (by omega))
    refine go_blk [(.iload 5, 0, 0, 0), (.iload_n 1, 0, 0, 0), (.if_icmp .ge 90, 110, 0, 0)] (by decide +kernel) ?_
    simp only [e_ilw_5, e_il_1, e_icmp_ge, e_nil, nol_n, nol_I, nol_R, rsum_0, rsum_I, rsum_R, ps_s, ps_n, true_and, and_true, Nat.reduceAdd, Nat.reduceLeDiff, hd2, m3, e55, e66, z0, nI_add]
    refine ⟨fun c20 => ?_, fun c20 => ?_⟩
    · exact absurd c20 (nI_ge (by omega) (by omega))
    · refine go_blk [(.aload_n 0, 0, 0, 0), (.aload_n 0, 0, 0, 0), (.getfield 96, 8, 3, 0), (.invokevirtual 269, 169, 1, 8)] (by decide +kernel) ?_
      simp only [e_al_0, e_gf_8_3, e_iv_8_1, rd_8_3, e_nil, nol_n, nol_I, nol_R, rsum_0, rsum_I, rsum_R, ps_s, ps_n, true_and, and_true, Nat.reduceAdd, Nat.reduceLeDiff, hd2, m3, e55, e66, z0, nI_add]
      refine okm_draw hN0 (by omega) hS (fun μ1 S1 D1 => ?_)
      rw [ea]
      have M1 := mr_d hM D1
      have m31 := M1.1.1
      refine go_blk [(.istore 6, 0, 0, 0), (.aload_n 0, 0, 0, 0), (.aload_n 0, 0, 0, 0), (.getfield 96, 8, 3, 0), (.invokevirtual 269, 169, 1, 8)] (by decide +kernel) ?_
      simp only [e_isw_6n, e_isw_6I, e_isw_6R, e_al_0, e_gf_8_3, e_iv_8_1, rd_8_3, e_nil, nol_n, nol_I, nol_R, rsum_0, rsum_I, rsum_R, ps_s, ps_n, true_and, and_true, Nat.reduceAdd, Nat.reduceLeDiff, hd2, m3, e55, e66, z0, nI_add, m31]
      refine okm_draw hN0 (by omega) S1 (fun μ2 S2 D2 => ?_)
      rw [eb]
      have M2 := mr_d M1 D2
      have O2 := offe_tr (offe_tr hO (offe_d D1)) (offe_d D2)
      have ho2 : μ2 8 0 0 2 = nI op := (O2 8 0 0 2 (by omega) (by omega)).trans ho0
      refine go_blk [(.istore 7, 0, 0, 0), (.aload_n 0, 0, 0, 0), (.iload 6, 0, 0, 0), (.iload 7, 0, 0, 0), (.invokevirtual 161, 132, 2, 8)] (by decide +kernel) ?_
      simp only [e_isw_7n, e_isw_7I, e_isw_7R, e_al_0, e_ilw_6, e_ilw_7, e_iv_8_2, e_nil, nol_n, nol_I, nol_R, rsum_0, rsum_I, rsum_R, ps_s, ps_n, true_and, and_true, Nat.reduceAdd, Nat.reduceLeDiff, hd2, m3, e55, e66, z0, nI_add, m31]
      refine okm_tenths hI M2 ho2 hop ra rb (by omega) ?_
      refine go_blk [(.istore 8, 0, 0, 0), (.iload 8, 0, 0, 0), (.ifCond .le 49, 104, 0, 0)] (by decide +kernel) ?_
      simp only [e_isw_8n, e_isw_8I, e_isw_8R, e_ilw_8, e_if_le, e_nil, nol_n, nol_I, nol_R, rsum_0, rsum_I, rsum_R, ps_s, ps_n, true_and, and_true, Nat.reduceAdd, Nat.reduceLeDiff, hd2, m3, e55, e66, z0, nI_add, m31]
      refine ⟨fun c55 => ?_, fun c55 => ?_⟩
      · rw [if_pos c55] at hZ
        refine go_blk [(.iinc 5 1, 0, 0, 0), (.goto (-90), 17, 0, 0)] (by decide +kernel) ?_
        simp only [e_inc_5_1n, e_inc_5_1I, e_inc_5_1R, e_goto, e_nil, nol_n, nol_I, nol_R, rsum_0, rsum_I, rsum_R, ps_s, ps_n, true_and, and_true, Nat.reduceAdd, Nat.reduceLeDiff, hd2, m3, e55, e66, z0, nI_add, m31]
        rw [nI_1]
        exact ih (e + 1) (sdN (sdN q)) c t _ _ _ _ _ (by omega) hI h0 h35 M2 S2 O2 hZ
      · rw [if_neg c55] at hZ
        obtain ⟨ca, cb, cs0, cs, -, cp, cl⟩ := chS_pos c55
        have q7 : stn (pea t a) b = true := by unfold stn pea; rw [tu_ne (by omega)]; exact cs
        refine go_blk [(.aload_n 0, 0, 0, 0), (.bipush 10, 0, 0, 0), (.invokevirtual 269, 169, 1, 8)] (by decide +kernel) ?_
        simp only [e_al_0, e_bp_10, e_iv_8_1, e_nil, nol_n, nol_I, nol_R, rsum_0, rsum_I, rsum_R, ps_s, ps_n, true_and, and_true, Nat.reduceAdd, Nat.reduceLeDiff, hd2, m3, e55, e66, z0, nI_add, m31]
        refine okm_draw (n := 10) (by omega) (by omega) S2 (fun μ3 S3 D3 => ?_)
        have M3 := mr_d M2 D3
        have O3 := offe_tr O2 (offe_d D3)
        refine go_blk [(.iload 8, 0, 0, 0), (.if_icmp .ge 7, 73, 0, 0)] (by decide +kernel) ?_
        simp only [e_ilw_8, e_icmp_ge, e_nil, nol_n, nol_I, nol_R, rsum_0, rsum_I, rsum_R, ps_s, ps_n, true_and, and_true, Nat.reduceAdd, Nat.reduceLeDiff, hd2, m3, e55, e66, z0, nI_add, m31]
        refine ⟨fun c66 => ?_, fun c66 => ?_⟩
        · rw [decide_eq_false (by omega : ¬ drw (sdN (sdN q)) 10 < chS op t a b), fire_0] at hZ
          obtain ⟨iI, iN, i35⟩ := fire_inv (a := a) (hit := false) hI cb cs
          rw [fire_0] at iI iN i35
          refine go_blk [(.iconst 0, 0, 0, 0), (.istore 9, 0, 0, 0), (.aload_n 0, 0, 0, 0), (.iload 6, 0, 0, 0), (.invokevirtual 182, 141, 1, 8)] (by decide +kernel) ?_
          simp only [e_ic_0, e_isw_9n, e_isw_9I, e_isw_9R, e_al_0, e_ilw_6, e_iv_8_1, e_nil, nol_n, nol_I, nol_R, rsum_0, rsum_I, rsum_R, ps_s, ps_n, true_and, and_true, Nat.reduceAdd, Nat.reduceLeDiff, hd2, m3, e55, e66, z0, nI_add, m31]
          refine okm_pea hI M3 ca cp (by omega) (fun μ4 pM pO => ?_)
          refine go_blk [(.iload 4, 0, 0, 0), (.iload 9, 0, 0, 0), (.ifCond .eq 14, 100, 0, 0)] (by decide +kernel) ?_
          simp only [e_ilw_4, e_ilw_9, e_if_eq, e_nil, (show ((0 : Int32) = 0) = True by decide), true_implies, false_implies, not_true_eq_false, not_false_eq_true, nol_n, nol_I, nol_R, rsum_0, rsum_I, rsum_R, ps_s, ps_n, true_and, and_true, Nat.reduceAdd, Nat.reduceLeDiff, hd2, m3, e55, e66, z0, nI_add, m31]
          refine go_blk [(.iconst 0, 0, 0, 0), (.iadd, 0, 0, 0), (.istore 4, 0, 0, 0), (.iinc 5 1, 0, 0, 0), (.goto (-90), 17, 0, 0)] (by decide +kernel) ?_
          simp only [e_ic_0, e_iadd, e_isw_4n, e_isw_4I, e_isw_4R, e_inc_5_1n, e_inc_5_1I, e_inc_5_1R, e_goto, e_nil, nol_n, nol_I, nol_R, rsum_0, rsum_I, rsum_R, ps_s, ps_n, true_and, and_true, Nat.reduceAdd, Nat.reduceLeDiff, hd2, m3, e55, e66, z0, nI_add, m31]
          rw [nI_1]
          exact ih (e + 1) (sdN (sdN (sdN q))) (c + 0) (pea t a) _ _ _ _ _ (by omega) iI (iN.trans h0) (fun j => ⟨(i35 j).1.trans (h35 j).1, (i35 j).2.1.trans (h35 j).2⟩) pM (sd_m S3 pO) (offe_tr O3 (offe_m pO)) hZ
        · rw [decide_eq_true (by omega : drw (sdN (sdN q)) 10 < chS op t a b)] at hZ
          obtain ⟨iI, iN, i35⟩ := fire_inv (a := a) (hit := true) hI cb cs
          refine go_blk [(.iconst 1, 0, 0, 0), (.goto 4, 74, 0, 0), (.istore 9, 0, 0, 0), (.aload_n 0, 0, 0, 0), (.iload 6, 0, 0, 0), (.invokevirtual 182, 141, 1, 8)] (by decide +kernel) ?_
          simp only [e_ic_1, e_goto, e_isw_9n, e_isw_9I, e_isw_9R, e_al_0, e_ilw_6, e_iv_8_1, e_nil, nol_n, nol_I, nol_R, rsum_0, rsum_I, rsum_R, ps_s, ps_n, true_and, and_true, Nat.reduceAdd, Nat.reduceLeDiff, hd2, m3, e55, e66, z0, nI_add, m31]
          refine okm_pea hI M3 ca cp (by omega) (fun μ4 pM pO => ?_)
          refine go_blk [(.iload 4, 0, 0, 0), (.iload 9, 0, 0, 0), (.ifCond .eq 14, 100, 0, 0)] (by decide +kernel) ?_
          simp only [e_ilw_4, e_ilw_9, e_if_eq, e_nil, (show ((1 : Int32) = 0) = False by decide), true_implies, false_implies, not_true_eq_false, not_false_eq_true, nol_n, nol_I, nol_R, rsum_0, rsum_I, rsum_R, ps_s, ps_n, true_and, and_true, Nat.reduceAdd, Nat.reduceLeDiff, hd2, m3, e55, e66, z0, nI_add, m31]
          refine go_blk [(.aload_n 0, 0, 0, 0), (.iload 6, 0, 0, 0), (.iload 7, 0, 0, 0), (.invokevirtual 186, 142, 2, 8)] (by decide +kernel) ?_
          simp only [e_al_0, e_ilw_6, e_ilw_7, e_iv_8_2, e_nil, nol_n, nol_I, nol_R, rsum_0, rsum_I, rsum_R, ps_s, ps_n, true_and, and_true, Nat.reduceAdd, Nat.reduceLeDiff, hd2, m3, e55, e66, z0, nI_add, m31]
          refine okm_hitOn (pea_inv hI) pM (by rw [pO 8 0 0 2 (by omega), O3 8 0 0 2 (by omega) (by omega)]; exact ho0) hop (by rw [pea_n]; exact ca) (by rw [pea_n]; exact cb) q7 (by rw [q5, q5]; exact cl) (by omega) (fun μ5 fM fO => ?_)
          rw [q5, q5] at fM ⊢
          refine go_blk [(.goto 4, 101, 0, 0), (.iadd, 0, 0, 0), (.istore 4, 0, 0, 0), (.iinc 5 1, 0, 0, 0), (.goto (-90), 17, 0, 0)] (by decide +kernel) ?_
          simp only [e_goto, e_iadd, e_isw_4n, e_isw_4I, e_isw_4R, e_inc_5_1n, e_inc_5_1I, e_inc_5_1R, e_nil, nol_n, nol_I, nol_R, rsum_0, rsum_I, rsum_R, ps_s, ps_n, true_and, and_true, Nat.reduceAdd, Nat.reduceLeDiff, hd2, m3, e55, e66, z0, nI_add, m31]
          rw [nI_1]
          exact ih (e + 1) (sdN (sdN (sdN q))) (c + (fireS op t a b true).2) (fireS op t a b true).1 _ _ _ _ _ (by omega) iI (iN.trans h0) (fun j => ⟨(i35 j).1.trans (h35 j).1, (i35 j).2.1.trans (h35 j).2⟩) fM (sd_m (sd_m S3 pO) fO) (offe_tr (offe_tr O3 (offe_m pO)) (offe_m fO)) hZ
def aftV (Z : TS × Nat × Nat) (wh : Nat) : Int32 := if wh = 0 then nI Z.2.2 else if wh = 1 then nI (Z.1 8 0) + nI (Z.1 8 1) else nI Z.2.1
def OffF (μ μ2 : Mm) : Prop := ∀ c i s j, ¬ (c = 8 ∧ i = 0 ∧ s = 0 ∧ 6 ≤ j ∧ j ≤ 10) → ¬ (c = 8 ∧ i = 0 ∧ (s = 0 ∨ s = 99) ∧ j = 28) → ¬ (c = 8 ∧ i = 0 ∧ s = 24) → μ2 c i s j = μ c i s j
theorem okm_after {l : Launch} {K : KK} {d : Nat} {μ : Mm} {P : Option AV → Mm → Prop} {op T q wh : Nat} {t : TS} (hT2 : T < 2 ^ 31) (hq : q < 2 ^ 31) (hwh : wh < 3) (hI : TInv op t) (hM : MRep μ t) (h0 : 0 < t 0 1) (ho : μ 8 0 0 2 = nI op) (hop : op < 2 ^ 15) (hd1 : 5 ≤ d) (h : ∀ μ2, MRep μ2 t → OffF μ μ2 → P (some (vI (aftV (trF op T t q 0) wh))) μ2) : Ok l K d 170 [vR 8 0 0, vI (nI T), vI (nI q), vI (nI wh)] μ P := by
  refine ok_go 10 (by decide +kernel) [some (vR 8 0 0), some (vI (nI T)), some (vI (nI q)), some (vI (nI wh)), none, none, none, none, none, none] rfl (Nat.le_of_ble_eq_true rfl) ?_
  have hd2 : 1 ≤ d := by omega
  have eq1 := nI_l hq
  have e4 : mkL (up (up μ 8 0 0 28 (hiL (lN q))) 8 0 99 28 (loL (lN q)) 8 0 0 28) (up (up μ 8 0 0 28 (hiL (lN q))) 8 0 99 28 (loL (lN q)) 8 0 99 28) = lN q := by
    rw [up_self, up_ne (by omega), up_self, mkL_eq]
  have D0 : OffD μ (up (up μ 8 0 0 28 (hiL (lN q))) 8 0 99 28 (loL (lN q))) := fun c i s j hc => by rw [up_ne (by omega), up_ne (by omega)]
  have e127 : (nI wh = 0) = (wh = 0) := propext (nI_eq (b := 0) (by omega) (by omega))
  have e137 : (nI wh = 1) = (wh = 1) := propext (nI_eq (b := 1) (by omega) (by omega))
  refine go_blk [(.aload_n 0, 0, 0, 0), (.iload_n 2, 0, 0, 0), (.i2l, 0, 0, 0), (.putfield 259, 8, 28, 0)] (by decide +kernel) ?_
  simp only [e_al_0, e_il_2, q_i2l, e_pf_8_28, e_nil, nol_n, nol_I, nol_R, rsum_0, rsum_I, rsum_R, ps_s, ps_n, true_and, and_true, Nat.reduceAdd, Nat.reduceLeDiff, hd2, eq1]
  refine go_blk [(.aload_n 0, 0, 0, 0), (.iconst 0, 0, 0, 0), (.invokevirtual 199, 148, 1, 8)] (by decide +kernel) ?_
  simp only [e_al_0, e_ic_0, e_iv_8_1, e_nil, nol_n, nol_I, nol_R, rsum_0, rsum_I, rsum_R, ps_s, ps_n, true_and, and_true, Nat.reduceAdd, Nat.reduceLeDiff, hd2, eq1]
  refine okm_save (lv := 0) (by omega) (mr_d hM D0) (fun μ1 sS sO => ?_)
  have sM := mr_v (mr_d hM D0) sO
  have sd : SdR μ1 q := by
    unfold SdR
    rw [sO 8 0 0 28 (by omega), sO 8 0 99 28 (by omega)]
    exact e4
  refine go_blk [(.iconst 0, 0, 0, 0), (.istore 4, 0, 0, 0), (.iconst 0, 0, 0, 0), (.istore 5, 0, 0, 0)] (by decide +kernel) ?_
  simp only [e_ic_0, e_isw_4n, e_isw_4I, e_isw_4R, e_isw_5n, e_isw_5I, e_isw_5R, e_nil, nol_n, nol_I, nol_R, rsum_0, rsum_I, rsum_R, ps_s, ps_n, true_and, and_true, Nat.reduceAdd, Nat.reduceLeDiff, hd2, eq1]
  refine lp_after (N := t 0 1) (t35 := t) (Z := trF op T t q 0) hT2 h0 hop (by rw [sO 8 0 0 2 (by omega), D0 8 0 0 2 (by omega)]; exact ho) hd1 (fun μ2 y6 y7 y8 y9 zM zS zO z0 z35 => ?_) T 0 q 0 t μ1 none none none none (by omega) hI rfl (fun j => ⟨rfl, rfl⟩) sM sd (offe_rf μ1) rfl
  have z9 := zM.2.2.1
  have z10 := zM.2.2.2
  refine go_blk [(.aload_n 0, 0, 0, 0), (.getfield 83, 8, 9, 0), (.aload_n 0, 0, 0, 0), (.getfield 86, 8, 10, 0), (.iadd, 0, 0, 0), (.istore 5, 0, 0, 0), (.aload_n 0, 0, 0, 0), (.iconst 0, 0, 0, 0), (.invokevirtual 212, 149, 1, 8)] (by decide +kernel) ?_
  simp only [e_al_0, e_gf_8_9, e_gf_8_10, e_iadd, e_isw_5n, e_isw_5I, e_isw_5R, e_ic_0, e_iv_8_1, rd_8_9, rd_8_10, e_nil, nol_n, nol_I, nol_R, rsum_0, rsum_I, rsum_R, ps_s, ps_n, true_and, and_true, Nat.reduceAdd, Nat.reduceLeDiff, hd2, z9, z10, e127, e137]
  refine okm_load (lv := 0) (t := t) (by omega) zM z0.symm (fun j => ⟨(z35 j).1.symm, (z35 j).2.symm⟩) (sv_e sS zO) (fun μ3 tM tO => ?_)
  have sd3 : mkL (μ3 8 0 0 28) (μ3 8 0 99 28) = lN (trF op T t q 0).2.1 := sd_m zS tO
  have el := lN_i (trF op T t q 0).2.1
  have oF : OffF μ μ3 := fun c i s j q1 q2 q3 => by rw [tO c i s j q1, zO c i s j q1 q2, sO c i s j (by omega), D0 c i s j q2]
  refine go_blk [(.iload_n 3, 0, 0, 0), (.ifCond .ne 8, 135, 0, 0)] (by decide +kernel) ?_
  simp only [e_il_3, e_if_ne, e_nil, nol_n, nol_I, nol_R, rsum_0, rsum_I, rsum_R, ps_s, ps_n, true_and, and_true, Nat.reduceAdd, Nat.reduceLeDiff, hd2, z9, z10, e127, e137, sd3, el]
  refine ⟨fun c127 => ?_, fun c127 => ?_⟩
  · refine go_blk [(.iload_n 3, 0, 0, 0), (.iconst 1, 0, 0, 0), (.if_icmp .ne 8, 145, 0, 0)] (by decide +kernel) ?_
    simp only [e_il_3, e_ic_1, e_icmp_ne, e_nil, nol_n, nol_I, nol_R, rsum_0, rsum_I, rsum_R, ps_s, ps_n, true_and, and_true, Nat.reduceAdd, Nat.reduceLeDiff, hd2, z9, z10, e127, e137, sd3, el]
    refine ⟨fun c137 => ?_, fun c137 => ?_⟩
    · have ev : aftV (trF op T t q 0) wh = nI (trF op T t q 0).2.1 := by unfold aftV; rw [if_neg c127, if_neg c137]
      refine go_blk [(.aload_n 0, 0, 0, 0), (.getfield 259, 8, 28, 0), (.l2i, 0, 0, 0), (.ireturn, 0, 0, 0)] (by decide +kernel) ?_
      simp only [e_al_0, e_gf_8_28, q_l2i, e_iret0, rd_8_28, e_nil, nol_n, nol_I, nol_R, rsum_0, rsum_I, rsum_R, ps_s, ps_n, true_and, and_true, Nat.reduceAdd, Nat.reduceLeDiff, hd2, z9, z10, e127, e137, sd3, el]
      rw [ev] at h
      exact h μ3 tM oF
    · have ev : aftV (trF op T t q 0) wh = nI ((trF op T t q 0).1 8 0) + nI ((trF op T t q 0).1 8 1) := by unfold aftV; rw [if_neg c127, if_pos c137]
      refine go_blk [(.iload 5, 0, 0, 0), (.goto 8, 150, 0, 0), (.ireturn, 0, 0, 0)] (by decide +kernel) ?_
      simp only [e_ilw_5, e_goto, e_iret0, e_nil, nol_n, nol_I, nol_R, rsum_0, rsum_I, rsum_R, ps_s, ps_n, true_and, and_true, Nat.reduceAdd, Nat.reduceLeDiff, hd2, z9, z10, e127, e137, sd3, el]
      rw [ev] at h
      exact h μ3 tM oF
  · have ev : aftV (trF op T t q 0) wh = nI (trF op T t q 0).2.2 := if_pos c127
    refine go_blk [(.iload 4, 0, 0, 0), (.goto 18, 150, 0, 0), (.ireturn, 0, 0, 0)] (by decide +kernel) ?_
    simp only [e_ilw_4, e_goto, e_iret0, e_nil, nol_n, nol_I, nol_R, rsum_0, rsum_I, rsum_R, ps_s, ps_n, true_and, and_true, Nat.reduceAdd, Nat.reduceLeDiff, hd2, z9, z10, e127, e137, sd3, el]
    rw [ev] at h
    exact h μ3 tM oF
