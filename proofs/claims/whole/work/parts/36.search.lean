theorem cF_le (op : Nat) : ∀ k, k ≤ op → cF op k ≤ op
  | 0, _ => Nat.le_refl op
  | k + 1, h => by
    have := cF_le op k (by omega)
    show (if okW op k ∧ pop k < pop (cF op k) then k else cF op k) ≤ op
    split <;> omega
def WRep (μ : Mm) (op : Nat) : Prop := μ 0 0 0 4 = -1 ∨ μ 0 0 0 4 = nI (cF op op)
theorem ok_fewest {l : Launch} {K : KK} {d : Nat} {μ : Mm} {P : Option AV → Mm → Prop} {op : Nat} (hC : CRep μ true op) (hW : WRep μ op) (hd1 : 2 ≤ d) (h : ∀ μ2, μ2 0 0 0 4 = nI (cF op op) → CRep μ2 true op → Off0 μ μ2 → P (some (vI (nI (cF op op)))) μ2) : Ok l K d 8 [vR 0 0 0] μ P := by
  refine ok_go 1 (by decide +kernel) [some (vR 0 0 0)] rfl (Nat.le_of_ble_eq_true rfl) ?_
  have hd2 : 1 ≤ d := by omega
  have e4 : ∀ v, up μ 0 0 0 4 v 0 0 0 4 = v := fun v => up_self _ _ _ _ _ _
  refine go_blk [(.aload_n 0, 0, 0, 0), (.getfield 26, 0, 4, 0), (.iconst (-1), 0, 0, 0), (.if_icmp .ne 11, 16, 0, 0)] (by decide +kernel) ?_
  simp only [e_al_0, e_gf_0_4, e_ic_m1, e_icmp_ne, rd_0_4, e_nil, nol_n, nol_I, nol_R, rsum_0, rsum_I, rsum_R, ps_s, ps_n, true_and, and_true, Nat.reduceAdd, Nat.reduceLeDiff, hd2, e4]
  refine ⟨fun c5 => ?_, fun c5 => ?_⟩
  · have hw : μ 0 0 0 4 = nI (cF op op) := by
      rcases hW with w | w
      · exact absurd w c5
      · exact w
    refine go_blk [(.aload_n 0, 0, 0, 0), (.getfield 26, 0, 4, 0), (.ireturn, 0, 0, 0)] (by decide +kernel) ?_
    simp only [e_al_0, e_gf_0_4, e_iret0, rd_0_4, e_nil, nol_n, nol_I, nol_R, rsum_0, rsum_I, rsum_R, ps_s, ps_n, true_and, and_true, Nat.reduceAdd, Nat.reduceLeDiff, hd2, e4, hw]
    exact h μ hw hC (Off0.rf μ)
  · refine go_blk [(.aload_n 0, 0, 0, 0), (.aload_n 0, 0, 0, 0), (.invokevirtual 59, 11, 0, 0)] (by decide +kernel) ?_
    simp only [e_al_0, e_iv_0_0, e_nil, nol_n, nol_I, nol_R, rsum_0, rsum_I, rsum_R, ps_s, ps_n, true_and, and_true, Nat.reduceAdd, Nat.reduceLeDiff, hd2, e4]
    refine ok_findWatchers hC (by omega) ?_
    refine go_blk [(.putfield 26, 0, 4, 0)] (by decide +kernel) ?_
    simp only [e_pf_0_4, e_nil, nol_n, nol_I, nol_R, rsum_0, rsum_I, rsum_R, ps_s, ps_n, true_and, and_true, Nat.reduceAdd, Nat.reduceLeDiff, hd2, e4]
    refine go_blk [(.aload_n 0, 0, 0, 0), (.getfield 26, 0, 4, 0), (.ireturn, 0, 0, 0)] (by decide +kernel) ?_
    simp only [e_al_0, e_gf_0_4, e_iret0, rd_0_4, e_nil, nol_n, nol_I, nol_R, rsum_0, rsum_I, rsum_R, ps_s, ps_n, true_and, and_true, Nat.reduceAdd, Nat.reduceLeDiff, hd2, e4]
    exact h _ (up_self _ _ _ _ _ _) ⟨(up_ne (by omega)).trans hC.1, (up_ne (by omega)).trans hC.2.1, hC.2.2.1, hC.2.2.2.1, fun z => ⟨(up_ne (by omega)).trans (hC.2.2.2.2 z).1, fun c hc => (up_ne (by omega)).trans ((hC.2.2.2.2 z).2 c hc)⟩⟩ ((Off0.rf μ).up 0 0 4 _)
section
variable {l : Launch} {K : KK} {d n : Nat} {P : Option AV → Mm → Prop} {qs : List QI} {pc a b : Nat} {w : Int} {lv : LV} {st : List AV} {μ : Mm}
theorem q_aa {j : Int32} : xb l K d n P ((.aaload, 0, b, w) :: qs) pc lv (vI j :: vR 4 0 1 :: st) μ = (vp_in j 3 ∧ xb l K d n P qs (pc + 1) lv (vR 6 (2 + ix j) 0 :: st) μ) := by
  rw [e_aa, ai_4_1]
end
/-- one pea of a side is gone -/
def peaS (t : TS) (sd : Nat) : TS := tu t 8 sd (t 8 sd - 1)
theorem peaS_n (t : TS) (a : Nat) : peaS t a 0 1 = t 0 1 := tu_ne (by omega)
theorem peaS_inv {op : Nat} {t : TS} {a : Nat} (hI : TInv op t) : TInv op (peaS t a) := by
  obtain ⟨h1, h2, h3, h4⟩ := hI
  refine ⟨by rw [peaS_n]; exact h1, fun j hj => ?_, fun j hj => ?_, fun x y hx hy e => ?_⟩
  · rw [peaS_n] at hj
    unfold peaS
    rw [tu_ne (s' := 3) (by omega), tu_ne (s' := 4) (by omega), tu_ne (s' := 5) (by omega), tu_ne (s' := 6) (by omega), tu_ne (s' := 7) (by omega)]
    exact h2 j hj
  · unfold peaS
    by_cases q : j = a
    · subst q; rw [tu_self]; have := h3 j hj; omega
    · rw [tu_ne (by omega)]; exact h3 j hj
  · rw [peaS_n] at hx hy
    unfold peaS at e
    rw [tu_ne (by omega), tu_ne (by omega)] at e
    exact h4 x y hx hy e
/-- chance of a pair, where the first is of the side whose turn it is -/
def mch (op : Nat) (t : TS) (sd a b : Nat) : Nat := if a < t 0 1 ∧ t 4 a = sd then chS op t a b else 0
def trI (ch : Nat) (hv ms : Int32) : Int32 := nI ch * hv + (10 - nI ch) * ms
def stp (mx : Bool) (ch : Nat) (hv ms : Int32) (pr : Nat) (x : Int32 × Int32) : Int32 × Int32 :=
  if ch = 0 then x else if (if mx then trI ch hv ms ≤ x.1 else x.1 ≤ trI ch hv ms) then x else (trI ch hv ms, nI pr)
def mnF (f : Nat → Int32 × Int32 → Int32 × Int32) : Nat → Nat → Int32 × Int32 → Int32 × Int32
  | 0, _, x => x
  | r + 1, p, x => mnF f r (p + 1) (f p x)
/-- the mean, ten times as much for each turn left, and the first shot -/
def mnP (op fs : Nat) : Nat → TS → Nat → Int32 × Int32
  | 0, t, _ => (nI (std t fs) - nI (std t (1 - fs)), -1)
  | k + 1, t, sd => mnF (fun p x => stp (sd == fs) (mch op t sd (p / 6) (p % 6)) (mnP op fs k (fireS op t (p / 6) (p % 6) true).1 (1 - sd)).1 (if t 8 sd = 0 then 0 else (mnP op fs k (peaS t sd) (1 - sd)).1) p x) 36 0 (10 * (mnP op fs k t (1 - sd)).1, -1)
def OffS (k : Nat) (μ μ2 : Mm) : Prop := (∀ c i, ¬ c = 4 → ¬ (c = 6 ∧ 2 ≤ i ∧ i < 2 + k) → μ2 c i = μ c i) ∧ ∀ j, ¬ j = 4 → μ2 4 0 0 j = μ 4 0 0 j
theorem OffS.rf (k : Nat) (μ : Mm) : OffS k μ μ := ⟨fun _ _ _ _ => rfl, fun _ _ => rfl⟩
theorem OffS.tr {k : Nat} {a b c : Mm} (h : OffS k a b) (g : OffS k b c) : OffS k a c := ⟨fun x i h1 h2 => (g.1 x i h1 h2).trans (h.1 x i h1 h2), fun j hj => (g.2 j hj).trans (h.2 j hj)⟩
theorem OffS.le {k k' : Nat} {a b : Mm} (h : OffS k a b) (hk : k ≤ k') : OffS k' a b := ⟨fun x i h1 h2 => h.1 x i h1 (by omega), h.2⟩
theorem OffT.s {k i : Nat} {a b : Mm} (h : OffT i a b) (h2 : 2 ≤ i) (hk : i < 2 + k) : OffS k a b := ⟨fun c i' _ h3 => h c i' (by omega), fun j _ => by rw [h 4 0 (by omega)]⟩
/-- what mean does, k turns left -/
def MeanOk (l : Launch) (K : KK) (op fs k : Nat) : Prop := ∀ (d : Nat) (μ : Mm) (t : TS) (i sd : Nat) (P : Option AV → Mm → Prop), 4 + 2 * k ≤ d → i < 6 → (i < 2 ∨ 2 + k ≤ i) → TRep μ i t → TInv op t → CRep μ true op → μ 4 0 0 1 = nI fs → sd < 2 → (∀ μ2, OffS k μ μ2 → (1 ≤ k → μ2 4 0 0 4 = (mnP op fs k t sd).2) → P (some (vI (mnP op fs k t sd).1)) μ2) → Ok l K d 50 [vR 4 0 0, vR 6 i 0, vI (nI sd), vI (nI k)] μ P
theorem ok_miss {l : Launch} {K : KK} {d : Nat} {μ : Mm} {P : Option AV → Mm → Prop} {op fs k i sd : Nat} {t : TS} (hM : MeanOk l K op fs k) (hk : k < 3) (hd1 : 5 + 2 * k ≤ d) (hi : i < 6) (hik : i < 2 ∨ 2 + (k + 1) ≤ i) (hT : TRep μ i t) (hI : TInv op t) (hC : CRep μ true op) (h1 : μ 4 0 0 1 = nI fs) (hs : sd < 2) (h : ∀ μ2, OffS (k + 1) μ μ2 → P (some (vI (if t 8 sd = 0 then 0 else (mnP op fs k (peaS t sd) (1 - sd)).1))) μ2) : Ok l K d 51 [vR 4 0 0, vR 6 i 0, vI (nI sd), vI (nI (k + 1))] μ P := by
  refine ok_go 5 (by decide +kernel) [some (vR 4 0 0), some (vR 6 i 0), some (vI (nI sd)), some (vI (nI (k + 1))), none] rfl (Nat.le_of_ble_eq_true rfl) ?_
  have hd2 : 1 ≤ d := by omega
  have hv : vp_in (nI sd) 2 := vin hs (by omega)
  have hx : ix (nI sd) = sd := nI_ix (by omega)
  have p8 := hT.2.2 sd hs
  have l8 := hI.2.2.1 sd hs
  have e1 : nI (k + 1) - 1 = nI k := nI_pred k
  have hvk : vp_in (nI k) 3 := vin hk (by omega)
  obtain ⟨i2, hi2⟩ : ∃ i2, i2 = 2 + k := ⟨_, rfl⟩
  have hxk : 2 + ix (nI k) = i2 := by rw [nI_ix (by omega), hi2]
  have hk6 : i2 < 6 := by omega
  have es := sd_tab sd hs
  have q6 : (0 < nI (t 8 sd)) = (¬ t 8 sd = 0) := propext ((nI_ltI (a := 0) (by omega) (by omega)).trans (by omega))
  refine go_blk [(.aload_n 1, 0, 0, 0), (.getfield 68, 6, 7, 0), (.iload_n 2, 0, 0, 0), (.iaload, 0, 0, 0), (.ifCond .gt 5, 11, 0, 0)] (by decide +kernel) ?_
  simp only [e_al_1, e_gf_6_7, e_il_2, e_ia, e_if_gt, rd_6_7, ai_0_4, ai_1_7, ai_2_1, ai_2_2, ai_3_1, ai_4_1, ai_6_3, ai_6_4, ai_6_5, ai_6_6, ai_6_7, ai_6_8, ai_8_5, ai_8_6, ai_8_17, ai_8_21, ai_8_23, ai_8_24, ai_8_27, ai_8_28, ai_8_38, ai_8_39, ai_8_40, e_nil, nol_n, nol_I, nol_R, rsum_0, rsum_I, rsum_R, ps_s, ps_n, true_and, and_true, Nat.reduceAdd, Nat.reduceLeDiff, hi, hd2, hv, hx, p8, e1, hvk, hxk, hk6, es, q6]
  refine ⟨fun c6 => ?_, fun c6 => ?_⟩
  · rw [if_neg c6] at h
    have ps1 := sub1 (x := t 8 sd) (by omega)
    refine go_blk [(.aload_n 0, 0, 0, 0), (.getfield 11, 4, 0, 0), (.iload_n 3, 0, 0, 0), (.iconst 1, 0, 0, 0), (.isub, 0, 0, 0)] (by decide +kernel) ?_
    simp only [e_al_0, e_gf_4_0, e_il_3, e_ic_1, e_isub, rd_4_0, e_nil, nol_n, nol_I, nol_R, rsum_0, rsum_I, rsum_R, ps_s, ps_n, true_and, and_true, Nat.reduceAdd, Nat.reduceLeDiff, hi, hd2, hv, hx, p8, e1, hvk, hxk, hk6, es, q6, ps1]
    refine go_blk [(.aaload, 0, 0, 0)] (by decide +kernel) ?_
    simp only [q_aa, e_nil, nol_n, nol_I, nol_R, rsum_0, rsum_I, rsum_R, ps_s, ps_n, true_and, and_true, Nat.reduceAdd, Nat.reduceLeDiff, hi, hd2, hv, hx, p8, e1, hvk, hxk, hk6, es, q6, ps1]
    refine go_blk [(.astore 4, 0, 0, 0), (.aload 4, 0, 0, 0), (.aload_n 1, 0, 0, 0), (.invokevirtual 71, 59, 1, 6)] (by decide +kernel) ?_
    simp only [e_asw_4n, e_asw_4I, e_asw_4R, e_alw_4, e_al_1, e_iv_6_1, e_nil, nol_n, nol_I, nol_R, rsum_0, rsum_I, rsum_R, ps_s, ps_n, true_and, and_true, Nat.reduceAdd, Nat.reduceLeDiff, hi, hd2, hv, hx, p8, e1, hvk, hxk, hk6, es, q6, ps1]
    refine ok_copyFrom hk6 hi (by omega) hT hI (fun μ1 tT1 oO1 => ?_)
    have g8 := tT1.2.2 sd hs
    refine go_blk [(.aload 4, 0, 0, 0), (.getfield 68, 6, 7, 0), (.iload_n 2, 0, 0, 0), (.dup2, 0, 0, 0), (.iaload, 0, 0, 0), (.iconst 1, 0, 0, 0), (.isub, 0, 0, 0), (.iastore, 0, 0, 0)] (by decide +kernel) ?_
    simp only [e_alw_4, e_gf_6_7, e_il_2, e_dup2, e_ia, e_ic_1, e_isub, e_iast, rd_6_7, ai_0_4, ai_1_7, ai_2_1, ai_2_2, ai_3_1, ai_4_1, ai_6_3, ai_6_4, ai_6_5, ai_6_6, ai_6_7, ai_6_8, ai_8_5, ai_8_6, ai_8_17, ai_8_21, ai_8_23, ai_8_24, ai_8_27, ai_8_28, ai_8_38, ai_8_39, ai_8_40, e_nil, nol_n, nol_I, nol_R, rsum_0, rsum_I, rsum_R, ps_s, ps_n, true_and, and_true, Nat.reduceAdd, Nat.reduceLeDiff, hi, hd2, hv, hx, p8, e1, hvk, hxk, hk6, es, q6, ps1, g8]
    refine go_blk [(.aload_n 0, 0, 0, 0), (.aload 4, 0, 0, 0), (.iconst 1, 0, 0, 0), (.iload_n 2, 0, 0, 0), (.isub, 0, 0, 0), (.iload_n 3, 0, 0, 0), (.iconst 1, 0, 0, 0), (.isub, 0, 0, 0), (.invokevirtual 33, 50, 3, 4)] (by decide +kernel) ?_
    simp only [e_al_0, e_alw_4, e_ic_1, e_il_2, e_isub, e_il_3, e_iv_4_3, e_nil, nol_n, nol_I, nol_R, rsum_0, rsum_I, rsum_R, ps_s, ps_n, true_and, and_true, Nat.reduceAdd, Nat.reduceLeDiff, hi, hd2, hv, hx, p8, e1, hvk, hxk, hk6, es, q6, ps1, g8]
    have tT2 : TRep (up μ1 6 i2 8 sd (nI (t 8 sd - 1))) i2 (peaS t sd) := tT1.up (by omega) rfl
    have oO2 := oO1.up 8 sd (nI (t 8 sd - 1))
    refine hM _ _ _ _ _ _ (by omega) hk6 (Or.inr (by omega)) tT2 (peaS_inv hI) (hC.off (oO2 0 0 (by omega))) (by rw [oO2 4 0 (by omega)]; exact h1) (by omega) (fun μ2 oO3 _ => ?_)
    refine go_blk [(.ireturn, 0, 0, 0)] (by decide +kernel) ?_
    simp only [e_iret0, e_nil, nol_n, nol_I, nol_R, rsum_0, rsum_I, rsum_R, ps_s, ps_n, true_and, and_true, Nat.reduceAdd, Nat.reduceLeDiff, hi, hd2, hv, hx, p8, e1, hvk, hxk, hk6, es, q6, ps1, g8]
    exact h _ ((oO2.s (by omega) (by omega)).tr (oO3.le (by omega)))
  · have c6b : t 8 sd = 0 := Classical.not_not.mp c6
    rw [if_pos c6b] at h
    refine go_blk [(.iconst 0, 0, 0, 0), (.ireturn, 0, 0, 0)] (by decide +kernel) ?_
    simp only [e_ic_0, e_iret0, e_nil, nol_n, nol_I, nol_R, rsum_0, rsum_I, rsum_R, ps_s, ps_n, true_and, and_true, Nat.reduceAdd, Nat.reduceLeDiff, hi, hd2, hv, hx, p8, e1, hvk, hxk, hk6, es, q6]
    exact h μ (OffS.rf _ _)
theorem ok_hit {l : Launch} {K : KK} {d : Nat} {μ : Mm} {P : Option AV → Mm → Prop} {op fs k i a b : Nat} {t : TS} (hM : MeanOk l K op fs k) (hk : k < 3) (hd1 : 5 + 2 * k ≤ d) (hi : i < 6) (hik : i < 2 ∨ 2 + (k + 1) ≤ i) (hT : TRep μ i t) (hI : TInv op t) (hC : CRep μ true op) (h1 : μ 4 0 0 1 = nI fs) (hc : chS op t a b ≠ 0) (h : ∀ μ2, OffS (k + 1) μ μ2 → P (some (vI (mnP op fs k (fireS op t a b true).1 (1 - t 4 a)).1)) μ2) : Ok l K d 52 [vR 4 0 0, vR 6 i 0, vI (nI a), vI (nI b), vI (nI (k + 1))] μ P := by
  refine ok_go 6 (by decide +kernel) [some (vR 4 0 0), some (vR 6 i 0), some (vI (nI a)), some (vI (nI b)), some (vI (nI (k + 1))), none] rfl (Nat.le_of_ble_eq_true rfl) ?_
  have hd2 : 1 ≤ d := by omega
  obtain ⟨ca, cb, -, cs, -, cp, -⟩ := chS_pos hc
  have hn := hI.1
  have hv : vp_in (nI a) 6 := vin (by omega) (by omega)
  have hx : ix (nI a) = a := nI_ix (by omega)
  have a4 := (hT.row ca).2.1
  have b4 := (hI.2.1 a ca).2.1
  have e1 : nI (k + 1) - 1 = nI k := nI_pred k
  have hvk : vp_in (nI k) 3 := vin hk (by omega)
  obtain ⟨i2, hi2⟩ : ∃ i2, i2 = 2 + k := ⟨_, rfl⟩
  have hxk : 2 + ix (nI k) = i2 := by rw [nI_ix (by omega), hi2]
  have hk6 : i2 < 6 := by omega
  have es := sd_tab (t 4 a) b4
  refine go_blk [(.aload_n 0, 0, 0, 0), (.getfield 11, 4, 0, 0), (.iload 4, 0, 0, 0), (.iconst 1, 0, 0, 0), (.isub, 0, 0, 0)] (by decide +kernel) ?_
  simp only [e_al_0, e_gf_4_0, e_ilw_4, e_ic_1, e_isub, rd_4_0, e_nil, nol_n, nol_I, nol_R, rsum_0, rsum_I, rsum_R, ps_s, ps_n, true_and, and_true, Nat.reduceAdd, Nat.reduceLeDiff, hi, hd2, hv, hx, e1, hvk, hxk, hk6, es]
  refine go_blk [(.aaload, 0, 0, 0)] (by decide +kernel) ?_
  simp only [q_aa, e_nil, nol_n, nol_I, nol_R, rsum_0, rsum_I, rsum_R, ps_s, ps_n, true_and, and_true, Nat.reduceAdd, Nat.reduceLeDiff, hi, hd2, hv, hx, e1, hvk, hxk, hk6, es]
  refine go_blk [(.astore 5, 0, 0, 0), (.aload 5, 0, 0, 0), (.aload_n 1, 0, 0, 0), (.invokevirtual 71, 59, 1, 6)] (by decide +kernel) ?_
  simp only [e_asw_5n, e_asw_5I, e_asw_5R, e_alw_5, e_al_1, e_iv_6_1, e_nil, nol_n, nol_I, nol_R, rsum_0, rsum_I, rsum_R, ps_s, ps_n, true_and, and_true, Nat.reduceAdd, Nat.reduceLeDiff, hi, hd2, hv, hx, e1, hvk, hxk, hk6, es]
  refine ok_copyFrom hk6 hi (by omega) hT hI (fun μ1 tT1 oO1 => ?_)
  refine go_blk [(.aload 5, 0, 0, 0), (.iload_n 2, 0, 0, 0), (.iload_n 3, 0, 0, 0), (.iconst 1, 0, 0, 0), (.invokevirtual 75, 68, 3, 6)] (by decide +kernel) ?_
  simp only [e_alw_5, e_il_2, e_il_3, e_ic_1, e_iv_6_3, e_nil, nol_n, nol_I, nol_R, rsum_0, rsum_I, rsum_R, ps_s, ps_n, true_and, and_true, Nat.reduceAdd, Nat.reduceLeDiff, hi, hd2, hv, hx, e1, hvk, hxk, hk6, es]
  refine ok_fire (hit := true) hk6 tT1 hI (hC.off (oO1 0 0 (by omega))) ca cb cs cp (by omega) (fun μ2 tT2 oO2 => ?_)
  obtain ⟨iI, iN, -⟩ := fire_inv (a := a) (hit := true) hI cb cs
  have oO3 := oO1.tr oO2
  have a42 : μ2 6 i 4 a = nI (t 4 a) := by rw [oO3 6 i (by omega)]; exact a4
  refine go_blk [(.pop, 0, 0, 0), (.aload_n 0, 0, 0, 0), (.aload 5, 0, 0, 0), (.iconst 1, 0, 0, 0), (.aload_n 1, 0, 0, 0), (.getfield 57, 6, 3, 0), (.iload_n 2, 0, 0, 0), (.iaload, 0, 0, 0), (.isub, 0, 0, 0), (.iload 4, 0, 0, 0), (.iconst 1, 0, 0, 0), (.isub, 0, 0, 0), (.invokevirtual 33, 50, 3, 4)] (by decide +kernel) ?_
  simp only [e_pop, e_al_0, e_alw_5, e_ic_1, e_al_1, e_gf_6_3, e_il_2, e_ia, e_isub, e_ilw_4, e_iv_4_3, rd_6_3, ai_0_4, ai_1_7, ai_2_1, ai_2_2, ai_3_1, ai_4_1, ai_6_3, ai_6_4, ai_6_5, ai_6_6, ai_6_7, ai_6_8, ai_8_5, ai_8_6, ai_8_17, ai_8_21, ai_8_23, ai_8_24, ai_8_27, ai_8_28, ai_8_38, ai_8_39, ai_8_40, e_nil, nol_n, nol_I, nol_R, rsum_0, rsum_I, rsum_R, ps_s, ps_n, true_and, and_true, Nat.reduceAdd, Nat.reduceLeDiff, hi, hd2, hv, hx, e1, hvk, hxk, hk6, es, a42]
  refine hM _ _ _ _ _ _ (by omega) hk6 (Or.inr (by omega)) tT2 iI (hC.off (oO3 0 0 (by omega))) (by rw [oO3 4 0 (by omega)]; exact h1) (by omega) (fun μ3 oO4 _ => ?_)
  refine go_blk [(.ireturn, 0, 0, 0)] (by decide +kernel) ?_
  simp only [e_iret0, e_nil, nol_n, nol_I, nol_R, rsum_0, rsum_I, rsum_R, ps_s, ps_n, true_and, and_true, Nat.reduceAdd, Nat.reduceLeDiff, hi, hd2, hv, hx, e1, hvk, hxk, hk6, es, a42]
  exact h _ ((oO3.s (by omega) (by omega)).tr (oO4.le (by omega)))
