def hvV (op fs k : Nat) (t : TS) (sd a b : Nat) : Int32 := (mnP op fs k (fireS op t a b true).1 (1 - sd)).1
def msV (op fs k : Nat) (t : TS) (sd : Nat) : Int32 := if t 8 sd = 0 then 0 else (mnP op fs k (peaS t sd) (1 - sd)).1
def gP (op fs k : Nat) (t : TS) (sd a b : Nat) (x : Int32 × Int32) : Int32 × Int32 := stp (sd == fs) (mch op t sd a b) (hvV op fs k t sd a b) (msV op fs k t sd) (6 * a + b) x
theorem mnF_list (f : Nat → Int32 × Int32 → Int32 × Int32) : ∀ r p x, mnF f r p x = (List.range' p r).foldl (fun x q => f q x) x
  | 0, _, _ => rfl
  | r + 1, p, x => by
    rw [List.range'_succ, List.foldl_cons]
    exact mnF_list f r (p + 1) _
theorem fold_skip {f : Int32 × Int32 → Nat × Nat → Int32 × Int32} {ok : Nat × Nat → Bool} (h : ∀ q x, ok q = false → f x q = x) : ∀ (L : List (Nat × Nat)) x, L.foldl f x = (L.filter ok).foldl f x
  | [], _ => rfl
  | q :: L, x => by
    rw [List.foldl_cons, List.filter_cons]
    cases e : ok q
    · rw [h q x e]; exact fold_skip h L x
    · rw [if_pos rfl, List.foldl_cons]; exact fold_skip h L _
theorem fold_map {g : Int32 × Int32 → Nat × Nat → Int32 × Int32} {f : Nat → Nat × Nat} (F : Nat → Int32 × Int32 → Int32 × Int32) (hF : ∀ q x, F q x = g x (f q)) : ∀ (L : List Nat) x, L.foldl (fun x q => F q x) x = (L.map f).foldl g x
  | [], _ => rfl
  | q :: L, x => by
    rw [List.foldl_cons, List.map_cons, List.foldl_cons, hF q x]
    exact fold_map F hF L _
theorem pr_tb : ∀ n, n < 7 → ((List.range' 0 36).map (fun p => (p / 6, p % 6))).filter (fun q => decide (q.1 < n) && decide (q.2 < n)) = (List.range' 0 (n * n)).map (fun k => (k / n, k % n)) := by decide +kernel
theorem chS_out {op : Nat} {t : TS} {a b : Nat} (h : ¬ b < t 0 1) : chS op t a b = 0 := by
  rcases Nat.decEq (chS op t a b) 0 with z | z
  · exact absurd (chS_pos z).2.1 h
  · exact z
theorem gP_out {op fs k sd a b : Nat} {t : TS} {x : Int32 × Int32} (h : ¬ (a < t 0 1 ∧ b < t 0 1)) : gP op fs k t sd a b x = x := by
  have z : mch op t sd a b = 0 := by
    unfold mch
    split
    · rename_i q
      exact chS_out (fun z => h ⟨q.1, z⟩)
    · rfl
  unfold gP
  rw [z]
  exact if_pos rfl
theorem mnP_36 (op fs k : Nat) (t : TS) (sd : Nat) (F : Nat → Int32 × Int32 → Int32 × Int32) (hF : ∀ q x, F q x = gP op fs k t sd (q / 6) (q % 6) x) (x0 : Int32 × Int32) (hn : t 0 1 ≤ 6) (R : Nat) (hR : R = 36) : mnF F R 0 x0 = mnF (fun q x => gP op fs k t sd (q / t 0 1) (q % t 0 1) x) (t 0 1 * t 0 1) 0 x0 := by
  rw [mnF_list, mnF_list]
  rw [fold_map (g := fun x ab => gP op fs k t sd ab.1 ab.2 x) (f := fun q => (q / 6, q % 6)) F hF, fold_skip (ok := fun q => decide (q.1 < t 0 1) && decide (q.2 < t 0 1)), hR, pr_tb (t 0 1) (by omega), ← fold_map (F := fun q x => gP op fs k t sd (q / t 0 1) (q % t 0 1) x)]
  · intro q x; rfl
  · intro q x hq
    exact gP_out (fun z => by rw [decide_eq_true z.1, decide_eq_true z.2] at hq; cases hq)
theorem mnP_n {op fs k sd : Nat} {t : TS} (hn : t 0 1 ≤ 6) : mnP op fs (k + 1) t sd = mnF (fun q x => gP op fs k t sd (q / t 0 1) (q % t 0 1) x) (t 0 1 * t 0 1) 0 (10 * (mnP op fs k t (1 - sd)).1, -1) := by
  obtain ⟨R, hR⟩ : ∃ R, R = 36 := ⟨_, rfl⟩
  rw [← mnP_36 op fs k t sd (fun p x => stp (sd == fs) (mch op t sd (p / 6) (p % 6)) (mnP op fs k (fireS op t (p / 6) (p % 6) true).1 (1 - sd)).1 (if t 8 sd = 0 then 0 else (mnP op fs k (peaS t sd) (1 - sd)).1) p x) (fun q x => by unfold gP; rw [show 6 * (q / 6) + q % 6 = q by omega]; rfl) _ hn R hR]
  subst hR
  rfl
theorem le_total32 (x y : Int32) : x ≤ y ∨ y ≤ x := by
  rw [Int32.le_iff_toInt_le, Int32.le_iff_toInt_le]; omega
theorem le_anti32 {x y : Int32} (h : x ≤ y) (g : y ≤ x) : x = y := by
  rw [Int32.le_iff_toInt_le] at h g
  exact Int32.toInt_inj.mp (by omega)
theorem stp_1 {mx : Bool} {ch pr : Nat} {hv ms : Int32} {x : Int32 × Int32} (h0 : ¬ ch = 0) : (stp mx ch hv ms pr x).1 = if mx = true then (if x.1 ≤ trI ch hv ms then trI ch hv ms else x.1) else (if x.1 ≤ trI ch hv ms then x.1 else trI ch hv ms) := by
  cases mx
  · rw [if_neg (by decide)]
    by_cases q : x.1 ≤ trI ch hv ms
    · rw [stp_f0 h0 q, if_pos q]
    · rw [stp_f1 h0 q, if_neg q]
  · rw [if_pos rfl]
    by_cases q : trI ch hv ms ≤ x.1
    · rw [stp_t0 h0 q]
      by_cases q2 : x.1 ≤ trI ch hv ms
      · rw [if_pos q2]; exact le_anti32 q2 q
      · rw [if_neg q2]
    · rw [stp_t1 h0 q]
      rcases le_total32 x.1 (trI ch hv ms) with z | z
      · rw [if_pos z]
      · exact absurd z q
theorem gP_1 {op fs k sd u a b : Nat} {t : TS} {x : Int32 × Int32} {hv ms : Int32} (hc : ¬ chS op t a b = 0) (e4 : t 4 a = sd) (hsd : sd = (fs + u) % 2) (hfs : fs < 2) (h1 : hv = hvV op fs k t sd a b) (h2 : ms = (mnP op fs k (peaS t sd) (1 - sd)).1) : (gP op fs k t sd a b x).1 = if u % 2 = 0 then (if x.1 ≤ nI (chS op t a b) * hv + (10 - nI (chS op t a b)) * ms then nI (chS op t a b) * hv + (10 - nI (chS op t a b)) * ms else x.1) else (if x.1 ≤ nI (chS op t a b) * hv + (10 - nI (chS op t a b)) * ms then x.1 else nI (chS op t a b) * hv + (10 - nI (chS op t a b)) * ms) := by
  obtain ⟨ca, -, -, -, -, cp, -⟩ := chS_pos hc
  have z : mch op t sd a b = chS op t a b := if_pos ⟨ca, e4⟩
  have z2 : msV op fs k t sd = ms := by
    unfold msV
    rw [if_neg (by rw [← e4]; omega)]
    exact h2.symm
  unfold gP
  rw [z, stp_1 hc, z2, ← h1]
  show (if (sd == fs) = true then (if x.1 ≤ trI _ hv ms then trI _ hv ms else x.1) else (if x.1 ≤ trI _ hv ms then x.1 else trI _ hv ms)) = _
  unfold trI
  by_cases hu : u % 2 = 0
  · rw [if_pos hu, if_pos (by rw [beq_iff_eq]; omega)]
  · rw [if_neg hu, if_neg (by rw [beq_iff_eq]; omega)]
theorem gP_0 {op fs k sd a b : Nat} {t : TS} {x : Int32 × Int32} (h : mch op t sd a b = 0) : gP op fs k t sd a b x = x := by
  unfold gP
  rw [h]
  exact if_pos rfl
theorem std_pea (t : TS) (sd fs : Nat) : std (peaS t sd) fs = std t fs := by
  unfold std
  rw [peaS_n]
  exact cntB_eq _ _ (fun i _ _ => by unfold stn peaS; rw [tu_ne (by omega), tu_ne (by omega)])
def OffA (lo : Nat) (μ μ2 : Mm) : Prop := ∀ c i s j, ¬ (c = 8 ∧ i = 0 ∧ s = 0 ∧ 6 ≤ j ∧ j ≤ 10) → ¬ (c = 8 ∧ i = 0 ∧ s = 24 ∧ 5 * lo ≤ j) → μ2 c i s j = μ c i s j
theorem offa_rf (lo : Nat) (μ : Mm) : OffA lo μ μ := fun _ _ _ _ _ _ => rfl
theorem offa_tr {lo : Nat} {a b c : Mm} (h : OffA lo a b) (g : OffA lo b c) : OffA lo a c := fun x i s j h1 h2 => (g x i s j h1 h2).trans (h x i s j h1 h2)
theorem offa_m {lo : Nat} {a b : Mm} (h : OffM a b) : OffA lo a b := fun c i s j h1 _ => h c i s j h1
theorem offa_v {lo lv : Nat} {a b : Mm} (h : OffV lv a b) (hl : lo ≤ lv) : OffA lo a b := fun c i s j _ h2 => h c i s j (by omega)
theorem offa_le {lo lo' : Nat} {a b : Mm} (h : OffA lo a b) (hl : lo' ≤ lo) : OffA lo' a b := fun c i s j h1 h2 => h c i s j h1 (by omega)
theorem sv_off {lo lv : Nat} {a b : Mm} {t : TS} (hS : SvR a lv t) (h : OffA lo a b) (hl : lv < lo) : SvR b lv t := by
  obtain ⟨s0, s1, s2, s3, s4⟩ := hS
  exact ⟨(h 8 0 24 _ (by omega) (by omega)).trans s0, (h 8 0 24 _ (by omega) (by omega)).trans s1, (h 8 0 24 _ (by omega) (by omega)).trans s2, (h 8 0 24 _ (by omega) (by omega)).trans s3, (h 8 0 24 _ (by omega) (by omega)).trans s4⟩
theorem mr_v {lv : Nat} {a b : Mm} {t : TS} (hM : MRep a t) (h : OffV lv a b) : MRep b t := mr_off hM (fun s j hs => h 8 0 s j (by omega))
theorem k_div {k n : Nat} (h : k < n * n) : 0 < n ∧ k / n < n ∧ k % n < n := by
  have n0 : 0 < n := by
    rcases Nat.eq_zero_or_pos n with z | z
    · subst z; omega
    · exact z
  exact ⟨n0, Nat.div_lt_of_lt_mul h, Nat.mod_lt _ n0⟩
/-- what lastShot does -/
def LastOk (l : Launch) (K : KK) (op fs : Nat) : Prop := ∀ (d : Nat) (μ : Mm) (t : TS) (u : Nat) (P : Option AV → Mm → Prop), 6 ≤ d → u < 3 → TInv op t → MRep μ t → μ 8 0 0 2 = nI op → μ 8 0 0 24 = nI fs → (∀ μ2, MRep μ2 t → OffA (u + 1) μ μ2 → P (some (vI (mnP op fs 1 t ((fs + u) % 2)).1)) μ2) → Ok l K d 154 [vR 8 0 0, vI (nI u)] μ P
theorem lp_last1 {l : Launch} {K : KK} {d : Nat} {P : Option AV → Mm → Prop} {μ0 : Mm} {op fs u sd : Nat} {t : TS} {G : Nat → Int32 × Int32 → Int32 × Int32} (hop : op < 2 ^ 15) (hfs : fs < 2) (hu : u < 3) (hd1 : 6 ≤ d) (hI : TInv op t) (ho : μ0 8 0 0 2 = nI op) (h24 : μ0 8 0 0 24 = nI fs) (hsd : sd = (fs + u) % 2) (hS0 : SvR μ0 (u + 1) t) (hG : ∀ q x, G q x = gP op fs 0 t sd (q / t 0 1) (q % t 0 1) x) : ∀ (r k : Nat) (x : Int32 × Int32) (μ : Mm) (y4 y5 y6 y7 : Option AV), k + r = t 0 1 * t 0 1 → MRep μ t → OffM μ0 μ → (∀ μ2, MRep μ2 t → OffM μ0 μ2 → P (some (vI (mnF G r k x).1)) μ2) → Go l K d 154 17 [some (vR 8 0 0), some (vI (nI u)), some (vI x.1), some (vI (nI k)), y4, y5, y6, y7] [] μ P := by
  have hd2 : 1 ≤ d := by omega
  have hn := hI.1
  have nn : t 0 1 * t 0 1 ≤ 36 := Nat.mul_le_mul hn hn
  have eu : nI u + 1 = nI (u + 1) := nI_1 u
  intro r
  induction r with
  | zero =>
    intro k x μ y4 y5 y6 y7 hk hM hO h
    have m3 := hM.1.1
    have em := pk_mul (t 0 1) (t 0 1)
    refine go_blk [(.iload_n 3, 0, 0, 0), (.aload_n 0, 0, 0, 0), (.getfield 96, 8, 3, 0), (.aload_n 0, 0, 0, 0), (.getfield 96, 8, 3, 0), (.imul, 0, 0, 0), (.if_icmp .ge 98, 125, 0, 0)] (by decide +kernel) ?_
    simp only [e_il_3, e_al_0, e_gf_8_3, e_imul, e_icmp_ge, rd_8_3, e_nil, nol_n, nol_I, nol_R, rsum_0, rsum_I, rsum_R, ps_s, ps_n, true_and, and_true, Nat.reduceAdd, Nat.reduceLeDiff, m3, em]
    refine ⟨fun c27 => ?_, fun c27 => ?_⟩
    · refine go_blk [(.iload_n 2, 0, 0, 0), (.ireturn, 0, 0, 0)] (by decide +kernel) ?_
      simp only [e_il_2, e_iret0, e_nil, nol_n, nol_I, nol_R, rsum_0, rsum_I, rsum_R, ps_s, ps_n, true_and, and_true, Nat.reduceAdd, Nat.reduceLeDiff, m3, em]
      exact h μ hM hO
    · exact absurd (nI_le (by omega) (by omega)) c27
  | succ r ih =>
    intro k x μ y4 y5 y6 y7 hk hM hO h
    have m3 := hM.1.1
    have em := pk_mul (t 0 1) (t 0 1)
    obtain ⟨n0, ka, kb⟩ := k_div (k := k) (n := t 0 1) (by omega)
    have ea : nI k / nI (t 0 1) = nI (k / t 0 1) := pk_div (by omega) n0 (by omega)
    have eb : nI k - nI (k / t 0 1) * nI (t 0 1) = nI (k % t 0 1) := by rw [← ea]; exact pk_rem (by omega) n0 (by omega)
    have nz : (nI (t 0 1) = 0) = False := eq_false (nI_ne0 n0 (by omega))
    have uu : mnF G (r + 1) k x = mnF G r (k + 1) (G k x) := rfl
    rw [uu, hG] at h
    generalize k / t 0 1 = a at *
    generalize k % t 0 1 = b at *
    have cl := chS_le op t a b
    have e72 : (nI (chS op t a b) ≤ 0) = (chS op t a b = 0) := le0 (by omega)
    have ho1 : μ 8 0 0 2 = nI op := (hO 8 0 0 2 (by omega)).trans ho
    have h241 : μ 8 0 0 24 = nI fs := (hO 8 0 0 24 (by omega)).trans h24
    refine go_blk [(.iload_n 3, 0, 0, 0), (.aload_n 0, 0, 0, 0), (.getfield 96, 8, 3, 0), (.aload_n 0, 0, 0, 0), (.getfield 96, 8, 3, 0), (.imul, 0, 0, 0), (.if_icmp .ge 98, 125, 0, 0)] (by decide +kernel) ?_
    simp only [e_il_3, e_al_0, e_gf_8_3, e_imul, e_icmp_ge, rd_8_3, e_nil, nol_n, nol_I, nol_R, rsum_0, rsum_I, rsum_R, ps_s, ps_n, true_and, and_true, Nat.reduceAdd, Nat.reduceLeDiff, hd2, m3, em, ea, eb, nz, eu, e72, bi_0, true_implies, false_implies, not_true_eq_false, not_false_eq_true]
    refine ⟨fun c27 => ?_, fun c27 => ?_⟩
    · exact absurd c27 (nI_ge (by omega) (by omega))
    · refine go_blk [(.iload_n 3, 0, 0, 0), (.aload_n 0, 0, 0, 0), (.getfield 96, 8, 3, 0), (.idiv, 0, 0, 0), (.istore 4, 0, 0, 0), (.iload_n 3, 0, 0, 0), (.aload_n 0, 0, 0, 0), (.getfield 96, 8, 3, 0), (.irem, 0, 0, 0), (.istore 5, 0, 0, 0), (.aload_n 0, 0, 0, 0), (.iload 4, 0, 0, 0), (.iload_n 1, 0, 0, 0), (.invokevirtual 205, 151, 2, 8)] (by decide +kernel) ?_
      simp only [e_il_3, e_al_0, e_gf_8_3, e_idiv, e_isw_4n, e_isw_4I, e_isw_4R, e_irem, e_isw_5n, e_isw_5I, e_isw_5R, e_ilw_4, e_il_1, e_iv_8_2, rd_8_3, e_nil, nol_n, nol_I, nol_R, rsum_0, rsum_I, rsum_R, ps_s, ps_n, true_and, and_true, Nat.reduceAdd, Nat.reduceLeDiff, hd2, m3, em, ea, eb, nz, eu, e72, bi_0, true_implies, false_implies, not_true_eq_false, not_false_eq_true]
      refine okm_turn hI hM ka hfs hu h241 ?_
      refine go_blk [(.ifCond .eq 14, 67, 0, 0)] (by decide +kernel) ?_
      simp only [e_if_eq, e_nil, nol_n, nol_I, nol_R, rsum_0, rsum_I, rsum_R, ps_s, ps_n, true_and, and_true, Nat.reduceAdd, Nat.reduceLeDiff, hd2, m3, em, ea, eb, nz, eu, e72, bi_0, true_implies, false_implies, not_true_eq_false, not_false_eq_true]
      refine ⟨fun c53 => ?_, fun c53 => ?_⟩
      · have z : mch op t sd a b = 0 := if_neg (fun q => by have := of_decide_eq_false c53; rw [← hsd] at this; exact this q.2)
        refine go_blk [(.iconst 0, 0, 0, 0), (.istore 6, 0, 0, 0), (.iload 6, 0, 0, 0), (.ifCond .le 47, 119, 0, 0)] (by decide +kernel) ?_
        simp only [e_ic_0, e_isw_6n, e_isw_6I, e_isw_6R, e_ilw_6, e_if_le, e_nil, (show ((0 : Int32) ≤ 0) = True by decide), true_implies, false_implies, not_true_eq_false, not_false_eq_true, nol_n, nol_I, nol_R, rsum_0, rsum_I, rsum_R, ps_s, ps_n, true_and, and_true, Nat.reduceAdd, Nat.reduceLeDiff, hd2, m3, em, ea, eb, nz, eu, e72, bi_0, true_implies, false_implies, not_true_eq_false, not_false_eq_true]
        refine go_blk [(.iinc 3 1, 0, 0, 0), (.goto (-105), 17, 0, 0)] (by decide +kernel) ?_
        simp only [e_inc_3_1n, e_inc_3_1I, e_inc_3_1R, e_goto, e_nil, nol_n, nol_I, nol_R, rsum_0, rsum_I, rsum_R, ps_s, ps_n, true_and, and_true, Nat.reduceAdd, Nat.reduceLeDiff, hd2, m3, em, ea, eb, nz, eu, e72, bi_0, true_implies, false_implies, not_true_eq_false, not_false_eq_true]
        rw [nI_1]
        rw [gP_0 z] at h
        exact ih (k + 1) x μ _ _ _ _ (by omega) hM hO h
      · have e4 : t 4 a = sd := by rw [hsd]; exact of_decide_eq_true (eq_true_of_ne_false c53)
        refine go_blk [(.aload_n 0, 0, 0, 0), (.iload 4, 0, 0, 0), (.iload 5, 0, 0, 0), (.invokevirtual 161, 132, 2, 8)] (by decide +kernel) ?_
        simp only [e_al_0, e_ilw_4, e_ilw_5, e_iv_8_2, e_nil, nol_n, nol_I, nol_R, rsum_0, rsum_I, rsum_R, ps_s, ps_n, true_and, and_true, Nat.reduceAdd, Nat.reduceLeDiff, hd2, m3, em, ea, eb, nz, eu, e72, bi_0, true_implies, false_implies, not_true_eq_false, not_false_eq_true]
        refine okm_tenths hI hM ho1 hop ka kb (by omega) ?_
        refine go_blk [(.goto 4, 68, 0, 0), (.istore 6, 0, 0, 0), (.iload 6, 0, 0, 0), (.ifCond .le 47, 119, 0, 0)] (by decide +kernel) ?_
        simp only [e_goto, e_isw_6n, e_isw_6I, e_isw_6R, e_ilw_6, e_if_le, e_nil, nol_n, nol_I, nol_R, rsum_0, rsum_I, rsum_R, ps_s, ps_n, true_and, and_true, Nat.reduceAdd, Nat.reduceLeDiff, hd2, m3, em, ea, eb, nz, eu, e72, bi_0, true_implies, false_implies, not_true_eq_false, not_false_eq_true]
        refine ⟨fun c72 => ?_, fun c72 => ?_⟩
        · have z : mch op t sd a b = 0 := by unfold mch; rw [c72]; exact ite_self 0
          refine go_blk [(.iinc 3 1, 0, 0, 0), (.goto (-105), 17, 0, 0)] (by decide +kernel) ?_
          simp only [e_inc_3_1n, e_inc_3_1I, e_inc_3_1R, e_goto, e_nil, nol_n, nol_I, nol_R, rsum_0, rsum_I, rsum_R, ps_s, ps_n, true_and, and_true, Nat.reduceAdd, Nat.reduceLeDiff, hd2, m3, em, ea, eb, nz, eu, e72, bi_0, true_implies, false_implies, not_true_eq_false, not_false_eq_true]
          rw [nI_1]
          rw [gP_0 z] at h
          exact ih (k + 1) x μ _ _ _ _ (by omega) hM hO h
        · refine go_blk [(.aload_n 0, 0, 0, 0), (.iload 4, 0, 0, 0), (.iload 5, 0, 0, 0), (.iconst 1, 0, 0, 0), (.invokevirtual 208, 153, 3, 8)] (by decide +kernel) ?_
          simp only [e_al_0, e_ilw_4, e_ilw_5, e_ic_1, e_iv_8_3, e_nil, nol_n, nol_I, nol_R, rsum_0, rsum_I, rsum_R, ps_s, ps_n, true_and, and_true, Nat.reduceAdd, Nat.reduceLeDiff, hd2, m3, em, ea, eb, nz, eu, e72, bi_0, true_implies, false_implies, not_true_eq_false, not_false_eq_true]
          refine okm_shootThen (hit := true) hI hM ho1 hop c72 (by omega) (fun μ1 fM fO => ?_)
          obtain ⟨ca, cb, -, cs, -, cp, -⟩ := chS_pos c72
          obtain ⟨iI, iN, i35⟩ := fire_inv (a := a) (hit := true) hI cb cs
          have h242 : μ1 8 0 0 24 = nI fs := (fO 8 0 0 24 (by omega)).trans h241
          refine go_blk [(.aload_n 0, 0, 0, 0), (.invokevirtual 202, 150, 0, 8)] (by decide +kernel) ?_
          simp only [e_al_0, e_iv_8_0, e_nil, nol_n, nol_I, nol_R, rsum_0, rsum_I, rsum_R, ps_s, ps_n, true_and, and_true, Nat.reduceAdd, Nat.reduceLeDiff, hd2, m3, em, ea, eb, nz, eu, e72, bi_0, true_implies, false_implies, not_true_eq_false, not_false_eq_true]
          refine okm_ahead iI fM hfs h242 (by omega) ?_
          refine go_blk [(.istore 7, 0, 0, 0), (.aload_n 0, 0, 0, 0), (.iload_n 1, 0, 0, 0), (.iconst 1, 0, 0, 0), (.iadd, 0, 0, 0), (.invokevirtual 212, 149, 1, 8)] (by decide +kernel) ?_
          simp only [e_isw_7n, e_isw_7I, e_isw_7R, e_al_0, e_il_1, e_ic_1, e_iadd, e_iv_8_1, e_nil, nol_n, nol_I, nol_R, rsum_0, rsum_I, rsum_R, ps_s, ps_n, true_and, and_true, Nat.reduceAdd, Nat.reduceLeDiff, hd2, m3, em, ea, eb, nz, eu, e72, bi_0, true_implies, false_implies, not_true_eq_false, not_false_eq_true]
          refine okm_load (lv := u + 1) (t := t) (by omega) fM iN.symm (fun j => ⟨(i35 j).1.symm, (i35 j).2.1.symm⟩) (sv_off (lo := 4) hS0 (offa_m (offm_tr hO fO)) (by omega)) (fun μ2 lM lO => ?_)
          have h243 : μ2 8 0 0 24 = nI fs := (lO 8 0 0 24 (by omega)).trans h242
          refine go_blk [(.iload_n 1, 0, 0, 0), (.iload_n 2, 0, 0, 0), (.iload 6, 0, 0, 0), (.iload 7, 0, 0, 0), (.imul, 0, 0, 0), (.bipush 10, 0, 0, 0), (.iload 6, 0, 0, 0), (.isub, 0, 0, 0), (.aload_n 0, 0, 0, 0), (.invokevirtual 202, 150, 0, 8)] (by decide +kernel) ?_
          simp only [e_il_1, e_il_2, e_ilw_6, e_ilw_7, e_imul, e_bp_10, e_isub, e_al_0, e_iv_8_0, e_nil, nol_n, nol_I, nol_R, rsum_0, rsum_I, rsum_R, ps_s, ps_n, true_and, and_true, Nat.reduceAdd, Nat.reduceLeDiff, hd2, m3, em, ea, eb, nz, eu, e72, bi_0, true_implies, false_implies, not_true_eq_false, not_false_eq_true]
          refine okm_ahead hI lM hfs h243 (by omega) ?_
          refine go_blk [(.imul, 0, 0, 0), (.iadd, 0, 0, 0), (.invokestatic 215, 152, 3, 0)] (by decide +kernel) ?_
          simp only [e_imul, e_iadd, e_ivs_3, e_nil, Nat.reduceLT, nol_n, nol_I, nol_R, rsum_0, rsum_I, rsum_R, ps_s, ps_n, true_and, and_true, Nat.reduceAdd, Nat.reduceLeDiff, hd2, m3, em, ea, eb, nz, eu, e72, bi_0, true_implies, false_implies, not_true_eq_false, not_false_eq_true]
          refine okm_better (u := u) (by omega) ?_
          have eg := gP_1 (op := op) (fs := fs) (k := 0) (u := u) (x := x) (hv := nI (std (fireS op t a b true).1 fs) - nI (std (fireS op t a b true).1 (1 - fs))) (ms := nI (std t fs) - nI (std t (1 - fs))) c72 e4 hsd hfs rfl (by show _ = nI (std (peaS t sd) fs) - nI (std (peaS t sd) (1 - fs)); rw [std_pea, std_pea])
          rw [← eg]
          refine go_blk [(.istore_n 2, 0, 0, 0), (.iinc 3 1, 0, 0, 0), (.goto (-105), 17, 0, 0)] (by decide +kernel) ?_
          simp only [e_is_2n, e_is_2I, e_is_2R, e_inc_3_1n, e_inc_3_1I, e_inc_3_1R, e_goto, e_nil, nol_n, nol_I, nol_R, rsum_0, rsum_I, rsum_R, ps_s, ps_n, true_and, and_true, Nat.reduceAdd, Nat.reduceLeDiff, hd2, m3, em, ea, eb, nz, eu, e72, bi_0, true_implies, false_implies, not_true_eq_false, not_false_eq_true]
          rw [nI_1]
          exact ih (k + 1) (gP op fs 0 t sd a b x) μ2 _ _ _ _ (by omega) lM (offm_tr hO (offm_tr fO lO)) h
theorem last_ok {l : Launch} {K : KK} {op fs : Nat} (hop : op < 2 ^ 15) (hfs : fs < 2) : LastOk l K op fs := by
  intro d μ t u P hd1 hu hI hM ho h24 h
  refine ok_go 8 (by decide +kernel) [some (vR 8 0 0), some (vI (nI u)), none, none, none, none, none, none] rfl (Nat.le_of_ble_eq_true rfl) ?_
  have hd2 : 1 ≤ d := by omega
  have eu : nI u + 1 = nI (u + 1) := nI_1 u
  rw [mnP_n hI.1] at h
  refine go_blk [(.aload_n 0, 0, 0, 0), (.iload_n 1, 0, 0, 0), (.iconst 1, 0, 0, 0), (.iadd, 0, 0, 0), (.invokevirtual 199, 148, 1, 8)] (by decide +kernel) ?_
  simp only [e_al_0, e_il_1, e_ic_1, e_iadd, e_iv_8_1, e_nil, nol_n, nol_I, nol_R, rsum_0, rsum_I, rsum_R, ps_s, ps_n, true_and, and_true, Nat.reduceAdd, Nat.reduceLeDiff, hd2, eu]
  refine okm_save (lv := u + 1) (by omega) hM (fun μ1 sS sO => ?_)
  have sM := mr_v hM sO
  have h241 : μ1 8 0 0 24 = nI fs := (sO 8 0 0 24 (by omega)).trans h24
  refine go_blk [(.bipush 10, 0, 0, 0), (.aload_n 0, 0, 0, 0), (.invokevirtual 202, 150, 0, 8)] (by decide +kernel) ?_
  simp only [e_bp_10, e_al_0, e_iv_8_0, e_nil, nol_n, nol_I, nol_R, rsum_0, rsum_I, rsum_R, ps_s, ps_n, true_and, and_true, Nat.reduceAdd, Nat.reduceLeDiff, hd2, eu]
  refine okm_ahead hI sM hfs h241 (by omega) ?_
  refine go_blk [(.imul, 0, 0, 0), (.istore_n 2, 0, 0, 0), (.iconst 0, 0, 0, 0), (.istore_n 3, 0, 0, 0)] (by decide +kernel) ?_
  simp only [e_imul, e_is_2n, e_is_2I, e_is_2R, e_ic_0, e_is_3n, e_is_3I, e_is_3R, e_nil, nol_n, nol_I, nol_R, rsum_0, rsum_I, rsum_R, ps_s, ps_n, true_and, and_true, Nat.reduceAdd, Nat.reduceLeDiff, hd2, eu]
  exact lp_last1 hop hfs hu hd1 hI ((sO 8 0 0 2 (by omega)).trans ho) h241 rfl sS (fun _ _ => rfl) (t 0 1 * t 0 1) 0 (10 * (nI (std t fs) - nI (std t (1 - fs))), -1) μ1 none none none none (by omega) sM (offm_rf _) (fun μ2 a b => h μ2 a (offa_tr (offa_v sO (by omega)) (offa_m b)))
