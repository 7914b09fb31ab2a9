def tu (t : TS) (s j v : Nat) : TS := fun s' j' => if s' = s ∧ j' = j then v else t s' j'
theorem tu_self (t : TS) (s j v : Nat) : tu t s j v s j = v := by simp [tu]
theorem tu_ne {t : TS} {s j v s' j' : Nat} (h : ¬ (s' = s ∧ j' = j)) : tu t s j v s' j' = t s' j' := by simp [tu, h]
def OffT (i : Nat) (μ μ' : Mm) : Prop := ∀ c i', ¬ (c = 6 ∧ i' = i) → μ' c i' = μ c i'
theorem OffT.rf (i : Nat) (μ : Mm) : OffT i μ μ := fun _ _ _ => rfl
theorem OffT.up {i : Nat} {μ μ' : Mm} (h : OffT i μ μ') (s j : Nat) (v : Int32) : OffT i μ (up μ' 6 i s j v) := by
  intro c i' hc
  rw [← h c i' hc]
  funext s' j'
  exact up_ne fun q => hc ⟨q.1, q.2.1⟩
theorem OffT.tr {i : Nat} {μ μ' μ2 : Mm} (h : OffT i μ μ') (h2 : OffT i μ' μ2) : OffT i μ μ2 := fun c i' hc => (h2 c i' hc).trans (h c i' hc)
theorem CRep.off {μ μ' : Mm} {b : Bool} {op : Nat} (h : CRep μ b op) (e : μ' 0 0 = μ 0 0) : CRep μ' b op := by
  unfold CRep at *
  rw [e]
  exact h
theorem TRep.up {μ : Mm} {i : Nat} {t : TS} (h : TRep μ i t) {s j v : Nat} {x : Int32} (hs : 3 ≤ s) (hx : x = nI v) : TRep (up μ 6 i s j x) i (tu t s j v) := by
  subst hx
  have e0 : tu t s j v 0 1 = t 0 1 := tu_ne (by omega)
  refine ⟨?_, fun s' h1 h2 j' hj => ?_, fun j' hj => ?_⟩
  · rw [e0, up_ne (by omega)]; exact h.1
  · rw [e0] at hj
    by_cases q : s' = s ∧ j' = j
    · obtain ⟨rfl, rfl⟩ := q
      rw [up_self, tu_self]
    · rw [tu_ne q, up_ne (fun z => q ⟨z.2.2.1, z.2.2.2⟩)]
      exact h.2.1 s' h1 h2 j' hj
  · by_cases q : 8 = s ∧ j' = j
    · obtain ⟨rfl, rfl⟩ := q
      rw [up_self, tu_self]
    · rw [tu_ne q, up_ne (fun z => q ⟨z.2.2.1, z.2.2.2⟩)]
      exact h.2.2 j' hj
/-- one is hit -/
def stkT (t : TS) (b : Nat) : TS := if t 3 b = 2 then tu t 4 b (1 - t 4 b) else tu (tu t 6 b (t 6 b + 1)) 7 b (if hf (t 3 b) ≤ t 6 b + 1 then 0 else 1)
def stkN (t : TS) (b : Nat) : Nat := if t 3 b = 2 then 1 else if hf (t 3 b) ≤ t 6 b + 1 then 1 else 0
theorem hf_tab : ∀ k, k < 5 → ∀ h, h < 3 → (kv 0 k ≤ nI (h + 1)) = (hf k ≤ h + 1 ∨ k = 2) := by decide +kernel
theorem sd_tab : ∀ s, s < 2 → (1 : Int32) - nI s = nI (1 - s) := by decide +kernel
theorem nar01 : vp_nar .boolean 0 = nI 0 ∧ vp_nar .boolean 1 = nI 1 := by decide +kernel
def eN (w : Nat) : Int32 := if w = 99 then -1 else nI w
def wF (t : TS) (c : Nat) : Nat → Nat → Nat
  | 0, _ => 99
  | k + 1, j => if t 5 j = c then j else wF t c k (j + 1)
/-- who is there; 99: nobody -/
def whoN (t : TS) (c : Nat) : Nat := wF t c (t 0 1) 0
theorem whoF_eN (t : TS) (c : Nat) : ∀ k j, j + k < 99 → whoF t c k j = eN (wF t c k j)
  | 0, j, _ => by simp [whoF, wF, eN]
  | k + 1, j, h => by
    unfold whoF wF
    by_cases e : t 5 j = c
    · rw [if_pos e, if_pos e, eN, if_neg (by omega)]
    · rw [if_neg e, if_neg e]; exact whoF_eN t c k (j + 1) (by omega)
theorem wF_sp (t : TS) (c : Nat) : ∀ k j, j + k < 99 → (wF t c k j = 99 ∧ ∀ i, j ≤ i → i < j + k → t 5 i ≠ c) ∨ (j ≤ wF t c k j ∧ wF t c k j < j + k ∧ t 5 (wF t c k j) = c)
  | 0, j, _ => Or.inl ⟨rfl, fun i h1 h2 => by omega⟩
  | k + 1, j, h => by
    unfold wF
    by_cases e : t 5 j = c
    · rw [if_pos e]; exact Or.inr ⟨by omega, by omega, e⟩
    · rw [if_neg e]
      rcases wF_sp t c k (j + 1) (by omega) with ⟨h1, h2⟩ | ⟨h1, h2, h3⟩
      · refine Or.inl ⟨h1, fun i g1 g2 => ?_⟩
        by_cases q : i = j
        · rw [q]; exact e
        · exact h2 i (by omega) (by omega)
      · exact Or.inr ⟨by omega, by omega, h3⟩
theorem whoN_sp {t : TS} (hn : t 0 1 ≤ 6) (c : Nat) : (whoN t c = 99 ∧ ∀ i, i < t 0 1 → t 5 i ≠ c) ∨ (whoN t c < t 0 1 ∧ t 5 (whoN t c) = c) := by
  rcases wF_sp t c (t 0 1) 0 (by omega) with ⟨h1, h2⟩ | ⟨h1, h2, h3⟩
  · exact Or.inl ⟨h1, fun i hi => h2 i (by omega) (by omega)⟩
  · exact Or.inr ⟨by unfold whoN; omega, h3⟩
theorem who_eN {t : TS} (hn : t 0 1 ≤ 6) (c : Nat) : who t c = eN (whoN t c) := whoF_eN t c (t 0 1) 0 (by omega)
theorem has_eN {t : TS} (hn : t 0 1 ≤ 6) {w : Nat} (hw : w = 99 ∨ w < t 0 1) : hasI (t 0 1) (eN w) = decide (w ≠ 99) := by
  rcases hw with rfl | h
  · rw [show eN 99 = -1 from rfl, hasI_m1]; rfl
  · rw [eN, if_neg (by omega), hasI_nI hn (by omega)]
    have : w ≠ 99 := by omega
    simp [h, this]
/-- directions: 0, 1, 2 stand for -1, 0, 1 -/
def dI (u : Nat) : Int32 := nI u - 1
def rayN (c u v s : Nat) : Nat := if 1 ≤ c / 5 + s * u + 1 - s ∧ c / 5 + s * u < 3 + s ∧ s ≤ c / 5 + s * u ∧ s ≤ c % 5 + s * v ∧ c % 5 + s * v < 5 + s then (c / 5 + s * u - s) * 5 + (c % 5 + s * v - s) else 99
def rayOk (c u v s : Nat) : Bool := (decide (¬ rwI (nI c) + nI s * dI u < 0 ∧ ¬ 3 ≤ rwI (nI c) + nI s * dI u ∧ ¬ clI (nI c) + nI s * dI v < 0 ∧ ¬ 5 ≤ clI (nI c) + nI s * dI v) == decide (rayN c u v s ≠ 99)) && (decide (rayN c u v s = 99) || (decide ((rwI (nI c) + nI s * dI u) * 5 + (clI (nI c) + nI s * dI v) = nI (rayN c u v s)) && decide (rayN c u v s < 15)))
theorem ray_tb : ∀ c, c < 15 → ∀ u, u < 3 → ∀ v, v < 3 → ∀ s, s < 5 → rayOk c u v s = true := by decide +kernel
theorem ray_tab (c : Nat) (hc : c < 15) (u : Nat) (hu : u < 3) (v : Nat) (hv : v < 3) (s : Nat) (hs : s < 5) : (decide (¬ rwI (nI c) + nI s * dI u < 0 ∧ ¬ 3 ≤ rwI (nI c) + nI s * dI u ∧ ¬ clI (nI c) + nI s * dI v < 0 ∧ ¬ 5 ≤ clI (nI c) + nI s * dI v) = decide (rayN c u v s ≠ 99)) ∧ (rayN c u v s ≠ 99 → (rwI (nI c) + nI s * dI u) * 5 + (clI (nI c) + nI s * dI v) = nI (rayN c u v s) ∧ rayN c u v s < 15) := by
  have h := ray_tb c hc u hu v hv s hs
  unfold rayOk at h
  rw [Bool.and_eq_true, beq_iff_eq, Bool.or_eq_true, decide_eq_true_eq, Bool.and_eq_true, decide_eq_true_eq, decide_eq_true_eq] at h
  exact ⟨h.1, fun z => h.2.resolve_left z⟩
/-- the first that stands behind a cell; 99: none -/
def fbF (op : Nat) (t : TS) (c u v : Nat) : Nat → Nat → Nat
  | 0, _ => 99
  | k + 1, s => if rayN c u v s = 99 then 99 else if !op.testBit (rayN c u v s) then 99 else if whoN t (rayN c u v s) ≠ 99 ∧ stn t (whoN t (rayN c u v s)) = true then whoN t (rayN c u v s) else fbF op t c u v k (s + 1)
def fbS (op : Nat) (t : TS) (c u v : Nat) : Nat := fbF op t c u v 4 1
theorem lp_fb {l : Launch} {K : KK} {d : Nat} {μ : Mm} {P : Option AV → Mm → Prop} {i : Nat} (hi : i < 6) {t : TS} {op c u v : Nat} (hT : TRep μ i t) (hI : TInv op t) (ho : μ 0 0 0 1 = nI op) (hop : op < 2 ^ 15) (hc : c < 15) (hu : u < 3) (hv0 : v < 3) (hd1 : 1 ≤ d) : ∀ (r s : Nat) (y5 y6 y7 y8 : Option AV), s + r = 5 → nol y5 = true → nol y6 = true → nol y7 = true → P (some (vI (eN (fbF op t c u v r s)))) μ → Go l K d 72 3 [some (vR 6 i 0), some (vI (nI c)), some (vI (dI u)), some (vI (dI v)), some (vI (nI s)), y5, y6, y7, y8] [] μ P := by
  have hn := hI.1
  intro r
  induction r with
  | zero =>
    intro s y5 y6 y7 y8 hs n5 n6 n7 h
    have e5 : s = 5 := by omega
    subst e5
    refine go_blk [(.iload 4, 0, 0, 0), (.iconst 5, 0, 0, 0), (.if_icmp .ge 94, 100, 0, 0)] (by decide +kernel) ?_
    simp only [e_ilw_4, e_ic_5, e_icmp_ge, e_nil, nol_n, nol_I, nol_R, rsum_0, rsum_I, rsum_R, ps_s, ps_n, true_and, and_true, Nat.reduceAdd, Nat.reduceLeDiff]
    refine ⟨fun c6 => ?_, fun c6 => ?_⟩
    · refine go_blk [(.iconst (-1), 0, 0, 0), (.ireturn, 0, 0, 0)] (by decide +kernel) ?_
      simp only [e_ic_m1, e_iret0, e_nil, nol_n, nol_I, nol_R, rsum_0, rsum_I, rsum_R, ps_s, ps_n, true_and, and_true, Nat.reduceAdd, Nat.reduceLeDiff]
      exact h
    · exact absurd (by decide) c6
  | succ r ih =>
    intro s y5 y6 y7 y8 hs n5 n6 n7 h
    obtain ⟨g1, g2⟩ := ray_tab c hc u hu v hv0 s (by omega)
    unfold fbF at h
    by_cases hr : rayN c u v s = 99
    · rw [if_pos hr] at h
      have g3 : decide (rayN c u v s ≠ 99) = false := by simp [hr]
      refine go_blk [(.iload 4, 0, 0, 0), (.iconst 5, 0, 0, 0), (.if_icmp .ge 94, 100, 0, 0)] (by decide +kernel) ?_
      simp only [e_ilw_4, e_ic_5, e_icmp_ge, e_nil, nol_n, nol_I, nol_R, rsum_0, rsum_I, rsum_R, ps_s, ps_n, true_and, and_true, Nat.reduceAdd, Nat.reduceLeDiff, hi, hd1, bi_0, g1, g3, true_implies, false_implies, not_true_eq_false, not_false_eq_true]
      refine ⟨fun c6 => ?_, fun c6 => ?_⟩
      · exact absurd c6 (nI_ge (b := 5) (by omega) (by omega))
      · refine go_blk [(.iload_n 1, 0, 0, 0), (.invokestatic 121, 21, 1, 0)] (by decide +kernel) ?_
        simp only [e_il_1, e_ivs_1, e_nil, Nat.reduceLT, nol_n, nol_I, nol_R, rsum_0, rsum_I, rsum_R, ps_s, ps_n, true_and, and_true, Nat.reduceAdd, Nat.reduceLeDiff, hi, hd1, bi_0, g1, g3, true_implies, false_implies, not_true_eq_false, not_false_eq_true]
        refine ok_rowOf ?_
        refine go_blk [(.iload 4, 0, 0, 0), (.iload_n 2, 0, 0, 0), (.imul, 0, 0, 0), (.iadd, 0, 0, 0), (.istore 5, 0, 0, 0), (.iload_n 1, 0, 0, 0), (.invokestatic 124, 22, 1, 0)] (by decide +kernel) ?_
        simp only [e_ilw_4, e_il_2, e_imul, e_iadd, e_isw_5n, e_isw_5I, e_isw_5R, e_il_1, e_ivs_1, e_nil, Nat.reduceLT, nol_n, nol_I, nol_R, rsum_0, rsum_I, rsum_R, ps_s, ps_n, true_and, and_true, Nat.reduceAdd, Nat.reduceLeDiff, hi, hd1, bi_0, g1, g3, true_implies, false_implies, not_true_eq_false, not_false_eq_true]
        refine ok_columnOf ?_
        refine go_blk [(.iload 4, 0, 0, 0), (.iload_n 3, 0, 0, 0), (.imul, 0, 0, 0), (.iadd, 0, 0, 0), (.istore 6, 0, 0, 0), (.iload 5, 0, 0, 0), (.iconst 5, 0, 0, 0), (.imul, 0, 0, 0), (.iload 6, 0, 0, 0), (.iadd, 0, 0, 0), (.istore 7, 0, 0, 0), (.iload 5, 0, 0, 0), (.iload 6, 0, 0, 0), (.invokestatic 127, 23, 2, 0)] (by decide +kernel) ?_
        simp only [e_ilw_4, e_il_3, e_imul, e_iadd, e_isw_6n, e_isw_6I, e_isw_6R, e_ilw_5, e_ic_5, e_ilw_6, e_isw_7n, e_isw_7I, e_isw_7R, e_ivs_2, e_nil, Nat.reduceLT, nol_n, nol_I, nol_R, rsum_0, rsum_I, rsum_R, ps_s, ps_n, true_and, and_true, Nat.reduceAdd, Nat.reduceLeDiff, hi, hd1, bi_0, g1, g3, true_implies, false_implies, not_true_eq_false, not_false_eq_true]
        refine ok_isInside ?_
        refine go_blk [(.ifCond .eq 15, 62, 0, 0)] (by decide +kernel) ?_
        simp only [e_if_eq, e_nil, nol_n, nol_I, nol_R, rsum_0, rsum_I, rsum_R, ps_s, ps_n, true_and, and_true, Nat.reduceAdd, Nat.reduceLeDiff, hi, hd1, bi_0, g1, g3, true_implies, false_implies, not_true_eq_false, not_false_eq_true]
        refine go_blk [(.iconst (-1), 0, 0, 0), (.ireturn, 0, 0, 0)] (by decide +kernel) ?_
        simp only [e_ic_m1, e_iret0, e_nil, nol_n, nol_I, nol_R, rsum_0, rsum_I, rsum_R, ps_s, ps_n, true_and, and_true, Nat.reduceAdd, Nat.reduceLeDiff, hi, hd1, bi_0, g1, g3, true_implies, false_implies, not_true_eq_false, not_false_eq_true]
        exact h
    · rw [if_neg hr] at h
      obtain ⟨g4, g5⟩ := g2 hr
      have g3 : decide (rayN c u v s ≠ 99) = true := by simp [hr]
      generalize hy : rayN c u v s = y at *
      cases hob : op.testBit y with
      | false =>
        rw [hob] at h
        simp only [Bool.not_false, if_true] at h
        refine go_blk [(.iload 4, 0, 0, 0), (.iconst 5, 0, 0, 0), (.if_icmp .ge 94, 100, 0, 0)] (by decide +kernel) ?_
        simp only [e_ilw_4, e_ic_5, e_icmp_ge, e_nil, nol_n, nol_I, nol_R, rsum_0, rsum_I, rsum_R, ps_s, ps_n, true_and, and_true, Nat.reduceAdd, Nat.reduceLeDiff, hi, hd1, bi_0, g1, g3, g4, hob, Bool.true_eq_false, true_implies, false_implies, not_true_eq_false, not_false_eq_true]
        refine ⟨fun c6 => ?_, fun c6 => ?_⟩
        · exact absurd c6 (nI_ge (b := 5) (by omega) (by omega))
        · refine go_blk [(.iload_n 1, 0, 0, 0), (.invokestatic 121, 21, 1, 0)] (by decide +kernel) ?_
          simp only [e_il_1, e_ivs_1, e_nil, Nat.reduceLT, nol_n, nol_I, nol_R, rsum_0, rsum_I, rsum_R, ps_s, ps_n, true_and, and_true, Nat.reduceAdd, Nat.reduceLeDiff, hi, hd1, bi_0, g1, g3, g4, hob, Bool.true_eq_false, true_implies, false_implies, not_true_eq_false, not_false_eq_true]
          refine ok_rowOf ?_
          refine go_blk [(.iload 4, 0, 0, 0), (.iload_n 2, 0, 0, 0), (.imul, 0, 0, 0), (.iadd, 0, 0, 0), (.istore 5, 0, 0, 0), (.iload_n 1, 0, 0, 0), (.invokestatic 124, 22, 1, 0)] (by decide +kernel) ?_
          simp only [e_ilw_4, e_il_2, e_imul, e_iadd, e_isw_5n, e_isw_5I, e_isw_5R, e_il_1, e_ivs_1, e_nil, Nat.reduceLT, nol_n, nol_I, nol_R, rsum_0, rsum_I, rsum_R, ps_s, ps_n, true_and, and_true, Nat.reduceAdd, Nat.reduceLeDiff, hi, hd1, bi_0, g1, g3, g4, hob, Bool.true_eq_false, true_implies, false_implies, not_true_eq_false, not_false_eq_true]
          refine ok_columnOf ?_
          refine go_blk [(.iload 4, 0, 0, 0), (.iload_n 3, 0, 0, 0), (.imul, 0, 0, 0), (.iadd, 0, 0, 0), (.istore 6, 0, 0, 0), (.iload 5, 0, 0, 0), (.iconst 5, 0, 0, 0), (.imul, 0, 0, 0), (.iload 6, 0, 0, 0), (.iadd, 0, 0, 0), (.istore 7, 0, 0, 0), (.iload 5, 0, 0, 0), (.iload 6, 0, 0, 0), (.invokestatic 127, 23, 2, 0)] (by decide +kernel) ?_
          simp only [e_ilw_4, e_il_3, e_imul, e_iadd, e_isw_6n, e_isw_6I, e_isw_6R, e_ilw_5, e_ic_5, e_ilw_6, e_isw_7n, e_isw_7I, e_isw_7R, e_ivs_2, e_nil, Nat.reduceLT, nol_n, nol_I, nol_R, rsum_0, rsum_I, rsum_R, ps_s, ps_n, true_and, and_true, Nat.reduceAdd, Nat.reduceLeDiff, hi, hd1, bi_0, g1, g3, g4, hob, Bool.true_eq_false, true_implies, false_implies, not_true_eq_false, not_false_eq_true]
          refine ok_isInside ?_
          refine go_blk [(.ifCond .eq 15, 62, 0, 0)] (by decide +kernel) ?_
          simp only [e_if_eq, e_nil, nol_n, nol_I, nol_R, rsum_0, rsum_I, rsum_R, ps_s, ps_n, true_and, and_true, Nat.reduceAdd, Nat.reduceLeDiff, hi, hd1, bi_0, g1, g3, g4, hob, Bool.true_eq_false, true_implies, false_implies, not_true_eq_false, not_false_eq_true]
          refine go_blk [(.aload_n 0, 0, 0, 0), (.getfield 35, 6, 0, 0), (.iload 7, 0, 0, 0), (.invokevirtual 56, 3, 1, 0)] (by decide +kernel) ?_
          simp only [e_al_0, e_gf_6_0, e_ilw_7, e_iv_0_1, rd_6_0, e_nil, nol_n, nol_I, nol_R, rsum_0, rsum_I, rsum_R, ps_s, ps_n, true_and, and_true, Nat.reduceAdd, Nat.reduceLeDiff, hi, hd1, bi_0, g1, g3, g4, hob, Bool.true_eq_false, true_implies, false_implies, not_true_eq_false, not_false_eq_true]
          refine ok_isOpen ho hop g5 ?_
          refine go_blk [(.ifCond .ne 5, 64, 0, 0)] (by decide +kernel) ?_
          simp only [e_if_ne, e_nil, nol_n, nol_I, nol_R, rsum_0, rsum_I, rsum_R, ps_s, ps_n, true_and, and_true, Nat.reduceAdd, Nat.reduceLeDiff, hi, hd1, bi_0, g1, g3, g4, hob, Bool.true_eq_false, true_implies, false_implies, not_true_eq_false, not_false_eq_true]
          refine go_blk [(.iconst (-1), 0, 0, 0), (.ireturn, 0, 0, 0)] (by decide +kernel) ?_
          simp only [e_ic_m1, e_iret0, e_nil, nol_n, nol_I, nol_R, rsum_0, rsum_I, rsum_R, ps_s, ps_n, true_and, and_true, Nat.reduceAdd, Nat.reduceLeDiff, hi, hd1, bi_0, g1, g3, g4, hob, Bool.true_eq_false, true_implies, false_implies, not_true_eq_false, not_false_eq_true]
          exact h
      | true =>
        rw [hob] at h
        simp only [Bool.not_true, Bool.false_eq_true, if_false] at h
        have hw := who_eN hn y
        have hwr : whoN t y = 99 ∨ whoN t y < t 0 1 := by
          rcases whoN_sp hn y with q | q
          · exact Or.inl q.1
          · exact Or.inr q.1
        have hhas := has_eN hn hwr
        by_cases hw9 : whoN t y = 99
        · rw [if_neg (by simp [hw9])] at h
          have hh2 : decide (whoN t y ≠ 99) = false := by simp [hw9]
          refine go_blk [(.iload 4, 0, 0, 0), (.iconst 5, 0, 0, 0), (.if_icmp .ge 94, 100, 0, 0)] (by decide +kernel) ?_
          simp only [e_ilw_4, e_ic_5, e_icmp_ge, e_nil, nol_n, nol_I, nol_R, rsum_0, rsum_I, rsum_R, ps_s, ps_n, true_and, and_true, Nat.reduceAdd, Nat.reduceLeDiff, hi, hd1, bi_0, g1, g3, g4, hob, hw, hhas, hh2, Bool.true_eq_false, true_implies, false_implies, not_true_eq_false, not_false_eq_true]
          refine ⟨fun c6 => ?_, fun c6 => ?_⟩
          · exact absurd c6 (nI_ge (b := 5) (by omega) (by omega))
          · refine go_blk [(.iload_n 1, 0, 0, 0), (.invokestatic 121, 21, 1, 0)] (by decide +kernel) ?_
            simp only [e_il_1, e_ivs_1, e_nil, Nat.reduceLT, nol_n, nol_I, nol_R, rsum_0, rsum_I, rsum_R, ps_s, ps_n, true_and, and_true, Nat.reduceAdd, Nat.reduceLeDiff, hi, hd1, bi_0, g1, g3, g4, hob, hw, hhas, hh2, Bool.true_eq_false, true_implies, false_implies, not_true_eq_false, not_false_eq_true]
            refine ok_rowOf ?_
            refine go_blk [(.iload 4, 0, 0, 0), (.iload_n 2, 0, 0, 0), (.imul, 0, 0, 0), (.iadd, 0, 0, 0), (.istore 5, 0, 0, 0), (.iload_n 1, 0, 0, 0), (.invokestatic 124, 22, 1, 0)] (by decide +kernel) ?_
            simp only [e_ilw_4, e_il_2, e_imul, e_iadd, e_isw_5n, e_isw_5I, e_isw_5R, e_il_1, e_ivs_1, e_nil, Nat.reduceLT, nol_n, nol_I, nol_R, rsum_0, rsum_I, rsum_R, ps_s, ps_n, true_and, and_true, Nat.reduceAdd, Nat.reduceLeDiff, hi, hd1, bi_0, g1, g3, g4, hob, hw, hhas, hh2, Bool.true_eq_false, true_implies, false_implies, not_true_eq_false, not_false_eq_true]
            refine ok_columnOf ?_
            refine go_blk [(.iload 4, 0, 0, 0), (.iload_n 3, 0, 0, 0), (.imul, 0, 0, 0), (.iadd, 0, 0, 0), (.istore 6, 0, 0, 0), (.iload 5, 0, 0, 0), (.iconst 5, 0, 0, 0), (.imul, 0, 0, 0), (.iload 6, 0, 0, 0), (.iadd, 0, 0, 0), (.istore 7, 0, 0, 0), (.iload 5, 0, 0, 0), (.iload 6, 0, 0, 0), (.invokestatic 127, 23, 2, 0)] (by decide +kernel) ?_
            simp only [e_ilw_4, e_il_3, e_imul, e_iadd, e_isw_6n, e_isw_6I, e_isw_6R, e_ilw_5, e_ic_5, e_ilw_6, e_isw_7n, e_isw_7I, e_isw_7R, e_ivs_2, e_nil, Nat.reduceLT, nol_n, nol_I, nol_R, rsum_0, rsum_I, rsum_R, ps_s, ps_n, true_and, and_true, Nat.reduceAdd, Nat.reduceLeDiff, hi, hd1, bi_0, g1, g3, g4, hob, hw, hhas, hh2, Bool.true_eq_false, true_implies, false_implies, not_true_eq_false, not_false_eq_true]
            refine ok_isInside ?_
            refine go_blk [(.ifCond .eq 15, 62, 0, 0)] (by decide +kernel) ?_
            simp only [e_if_eq, e_nil, nol_n, nol_I, nol_R, rsum_0, rsum_I, rsum_R, ps_s, ps_n, true_and, and_true, Nat.reduceAdd, Nat.reduceLeDiff, hi, hd1, bi_0, g1, g3, g4, hob, hw, hhas, hh2, Bool.true_eq_false, true_implies, false_implies, not_true_eq_false, not_false_eq_true]
            refine go_blk [(.aload_n 0, 0, 0, 0), (.getfield 35, 6, 0, 0), (.iload 7, 0, 0, 0), (.invokevirtual 56, 3, 1, 0)] (by decide +kernel) ?_
            simp only [e_al_0, e_gf_6_0, e_ilw_7, e_iv_0_1, rd_6_0, e_nil, nol_n, nol_I, nol_R, rsum_0, rsum_I, rsum_R, ps_s, ps_n, true_and, and_true, Nat.reduceAdd, Nat.reduceLeDiff, hi, hd1, bi_0, g1, g3, g4, hob, hw, hhas, hh2, Bool.true_eq_false, true_implies, false_implies, not_true_eq_false, not_false_eq_true]
            refine ok_isOpen ho hop g5 ?_
            refine go_blk [(.ifCond .ne 5, 64, 0, 0)] (by decide +kernel) ?_
            simp only [e_if_ne, e_nil, nol_n, nol_I, nol_R, rsum_0, rsum_I, rsum_R, ps_s, ps_n, true_and, and_true, Nat.reduceAdd, Nat.reduceLeDiff, hi, hd1, bi_0, g1, g3, g4, hob, hw, hhas, hh2, Bool.true_eq_false, true_implies, false_implies, not_true_eq_false, not_false_eq_true]
            refine go_blk [(.aload_n 0, 0, 0, 0), (.iload 7, 0, 0, 0), (.invokevirtual 61, 62, 1, 6)] (by decide +kernel) ?_
            simp only [e_al_0, e_ilw_7, e_iv_6_1, e_nil, nol_n, nol_I, nol_R, rsum_0, rsum_I, rsum_R, ps_s, ps_n, true_and, and_true, Nat.reduceAdd, Nat.reduceLeDiff, hi, hd1, bi_0, g1, g3, g4, hob, hw, hhas, hh2, Bool.true_eq_false, true_implies, false_implies, not_true_eq_false, not_false_eq_true]
            refine ok_whoIsAt hi hT hn (by omega) (fun j hj => (hI.2.1 j hj).2.2.1) ?_
            refine go_blk [(.istore 8, 0, 0, 0), (.aload_n 0, 0, 0, 0), (.iload 8, 0, 0, 0), (.invokevirtual 39, 60, 1, 6)] (by decide +kernel) ?_
            simp only [e_isw_8n, e_isw_8I, e_isw_8R, e_al_0, e_ilw_8, e_iv_6_1, e_nil, nol_n, nol_I, nol_R, rsum_0, rsum_I, rsum_R, ps_s, ps_n, true_and, and_true, Nat.reduceAdd, Nat.reduceLeDiff, hi, hd1, bi_0, g1, g3, g4, hob, hw, hhas, hh2, Bool.true_eq_false, true_implies, false_implies, not_true_eq_false, not_false_eq_true]
            refine ok_has hi hT.1 ?_
            refine go_blk [(.ifCond .eq 16, 94, 0, 0)] (by decide +kernel) ?_
            simp only [e_if_eq, e_nil, nol_n, nol_I, nol_R, rsum_0, rsum_I, rsum_R, ps_s, ps_n, true_and, and_true, Nat.reduceAdd, Nat.reduceLeDiff, hi, hd1, bi_0, g1, g3, g4, hob, hw, hhas, hh2, Bool.true_eq_false, true_implies, false_implies, not_true_eq_false, not_false_eq_true]
            refine go_blk [(.iinc 4 1, 0, 0, 0), (.goto (-94), 3, 0, 0)] (by decide +kernel) ?_
            simp only [e_inc_4_1n, e_inc_4_1I, e_inc_4_1R, e_goto, e_nil, nol_n, nol_I, nol_R, rsum_0, rsum_I, rsum_R, ps_s, ps_n, true_and, and_true, Nat.reduceAdd, Nat.reduceLeDiff, hi, hd1, bi_0, g1, g3, g4, hob, hw, hhas, hh2, Bool.true_eq_false, true_implies, false_implies, not_true_eq_false, not_false_eq_true]
            rw [nI_1]
            exact ih (s + 1) _ _ _ _ (by omega) rfl rfl rfl h
        · have hwn : whoN t y < t 0 1 := by omega
          have hh2 : decide (whoN t y ≠ 99) = true := by simp [hw9]
          have heN : eN (whoN t y) = nI (whoN t y) := by rw [eN, if_neg hw9]
          have hvw : vp_in (nI (whoN t y)) 6 := vin (by omega) (by omega)
          have hxw : ix (nI (whoN t y)) = whoN t y := nI_ix (by omega)
          have k7 := (hT.row hwn).2.2.2.2
          have e7 := (b2 _ (hI.2.1 _ hwn).2.2.2.2.1).1
          rw [heN] at hhas hw
          refine go_blk [(.iload 4, 0, 0, 0), (.iconst 5, 0, 0, 0), (.if_icmp .ge 94, 100, 0, 0)] (by decide +kernel) ?_
          simp only [e_ilw_4, e_ic_5, e_icmp_ge, e_nil, nol_n, nol_I, nol_R, rsum_0, rsum_I, rsum_R, ps_s, ps_n, true_and, and_true, Nat.reduceAdd, Nat.reduceLeDiff, hi, hd1, bi_0, g1, g3, g4, hob, hw, hhas, hh2, Bool.true_eq_false, hvw, hxw, k7, e7, true_implies, false_implies, not_true_eq_false, not_false_eq_true]
          refine ⟨fun c6 => ?_, fun c6 => ?_⟩
          · exact absurd c6 (nI_ge (b := 5) (by omega) (by omega))
          · refine go_blk [(.iload_n 1, 0, 0, 0), (.invokestatic 121, 21, 1, 0)] (by decide +kernel) ?_
            simp only [e_il_1, e_ivs_1, e_nil, Nat.reduceLT, nol_n, nol_I, nol_R, rsum_0, rsum_I, rsum_R, ps_s, ps_n, true_and, and_true, Nat.reduceAdd, Nat.reduceLeDiff, hi, hd1, bi_0, g1, g3, g4, hob, hw, hhas, hh2, Bool.true_eq_false, hvw, hxw, k7, e7, true_implies, false_implies, not_true_eq_false, not_false_eq_true]
            refine ok_rowOf ?_
            refine go_blk [(.iload 4, 0, 0, 0), (.iload_n 2, 0, 0, 0), (.imul, 0, 0, 0), (.iadd, 0, 0, 0), (.istore 5, 0, 0, 0), (.iload_n 1, 0, 0, 0), (.invokestatic 124, 22, 1, 0)] (by decide +kernel) ?_
            simp only [e_ilw_4, e_il_2, e_imul, e_iadd, e_isw_5n, e_isw_5I, e_isw_5R, e_il_1, e_ivs_1, e_nil, Nat.reduceLT, nol_n, nol_I, nol_R, rsum_0, rsum_I, rsum_R, ps_s, ps_n, true_and, and_true, Nat.reduceAdd, Nat.reduceLeDiff, hi, hd1, bi_0, g1, g3, g4, hob, hw, hhas, hh2, Bool.true_eq_false, hvw, hxw, k7, e7, true_implies, false_implies, not_true_eq_false, not_false_eq_true]
            refine ok_columnOf ?_
            refine go_blk [(.iload 4, 0, 0, 0), (.iload_n 3, 0, 0, 0), (.imul, 0, 0, 0), (.iadd, 0, 0, 0), (.istore 6, 0, 0, 0), (.iload 5, 0, 0, 0), (.iconst 5, 0, 0, 0), (.imul, 0, 0, 0), (.iload 6, 0, 0, 0), (.iadd, 0, 0, 0), (.istore 7, 0, 0, 0), (.iload 5, 0, 0, 0), (.iload 6, 0, 0, 0), (.invokestatic 127, 23, 2, 0)] (by decide +kernel) ?_
            simp only [e_ilw_4, e_il_3, e_imul, e_iadd, e_isw_6n, e_isw_6I, e_isw_6R, e_ilw_5, e_ic_5, e_ilw_6, e_isw_7n, e_isw_7I, e_isw_7R, e_ivs_2, e_nil, Nat.reduceLT, nol_n, nol_I, nol_R, rsum_0, rsum_I, rsum_R, ps_s, ps_n, true_and, and_true, Nat.reduceAdd, Nat.reduceLeDiff, hi, hd1, bi_0, g1, g3, g4, hob, hw, hhas, hh2, Bool.true_eq_false, hvw, hxw, k7, e7, true_implies, false_implies, not_true_eq_false, not_false_eq_true]
            refine ok_isInside ?_
            refine go_blk [(.ifCond .eq 15, 62, 0, 0)] (by decide +kernel) ?_
            simp only [e_if_eq, e_nil, nol_n, nol_I, nol_R, rsum_0, rsum_I, rsum_R, ps_s, ps_n, true_and, and_true, Nat.reduceAdd, Nat.reduceLeDiff, hi, hd1, bi_0, g1, g3, g4, hob, hw, hhas, hh2, Bool.true_eq_false, hvw, hxw, k7, e7, true_implies, false_implies, not_true_eq_false, not_false_eq_true]
            refine go_blk [(.aload_n 0, 0, 0, 0), (.getfield 35, 6, 0, 0), (.iload 7, 0, 0, 0), (.invokevirtual 56, 3, 1, 0)] (by decide +kernel) ?_
            simp only [e_al_0, e_gf_6_0, e_ilw_7, e_iv_0_1, rd_6_0, e_nil, nol_n, nol_I, nol_R, rsum_0, rsum_I, rsum_R, ps_s, ps_n, true_and, and_true, Nat.reduceAdd, Nat.reduceLeDiff, hi, hd1, bi_0, g1, g3, g4, hob, hw, hhas, hh2, Bool.true_eq_false, hvw, hxw, k7, e7, true_implies, false_implies, not_true_eq_false, not_false_eq_true]
            refine ok_isOpen ho hop g5 ?_
            refine go_blk [(.ifCond .ne 5, 64, 0, 0)] (by decide +kernel) ?_
            simp only [e_if_ne, e_nil, nol_n, nol_I, nol_R, rsum_0, rsum_I, rsum_R, ps_s, ps_n, true_and, and_true, Nat.reduceAdd, Nat.reduceLeDiff, hi, hd1, bi_0, g1, g3, g4, hob, hw, hhas, hh2, Bool.true_eq_false, hvw, hxw, k7, e7, true_implies, false_implies, not_true_eq_false, not_false_eq_true]
            refine go_blk [(.aload_n 0, 0, 0, 0), (.iload 7, 0, 0, 0), (.invokevirtual 61, 62, 1, 6)] (by decide +kernel) ?_
            simp only [e_al_0, e_ilw_7, e_iv_6_1, e_nil, nol_n, nol_I, nol_R, rsum_0, rsum_I, rsum_R, ps_s, ps_n, true_and, and_true, Nat.reduceAdd, Nat.reduceLeDiff, hi, hd1, bi_0, g1, g3, g4, hob, hw, hhas, hh2, Bool.true_eq_false, hvw, hxw, k7, e7, true_implies, false_implies, not_true_eq_false, not_false_eq_true]
            refine ok_whoIsAt hi hT hn (by omega) (fun j hj => (hI.2.1 j hj).2.2.1) ?_
            refine go_blk [(.istore 8, 0, 0, 0), (.aload_n 0, 0, 0, 0), (.iload 8, 0, 0, 0), (.invokevirtual 39, 60, 1, 6)] (by decide +kernel) ?_
            simp only [e_isw_8n, e_isw_8I, e_isw_8R, e_al_0, e_ilw_8, e_iv_6_1, e_nil, nol_n, nol_I, nol_R, rsum_0, rsum_I, rsum_R, ps_s, ps_n, true_and, and_true, Nat.reduceAdd, Nat.reduceLeDiff, hi, hd1, bi_0, g1, g3, g4, hob, hw, hhas, hh2, Bool.true_eq_false, hvw, hxw, k7, e7, true_implies, false_implies, not_true_eq_false, not_false_eq_true]
            refine ok_has hi hT.1 ?_
            refine go_blk [(.ifCond .eq 16, 94, 0, 0)] (by decide +kernel) ?_
            simp only [e_if_eq, e_nil, nol_n, nol_I, nol_R, rsum_0, rsum_I, rsum_R, ps_s, ps_n, true_and, and_true, Nat.reduceAdd, Nat.reduceLeDiff, hi, hd1, bi_0, g1, g3, g4, hob, hw, hhas, hh2, Bool.true_eq_false, hvw, hxw, k7, e7, true_implies, false_implies, not_true_eq_false, not_false_eq_true]
            refine go_blk [(.aload_n 0, 0, 0, 0), (.getfield 28, 6, 6, 0), (.iload 8, 0, 0, 0), (.baload, 1, 0, 0), (.ifCond .eq 6, 94, 0, 0)] (by decide +kernel) ?_
            simp only [e_al_0, e_gf_6_6, e_ilw_8, e_za, e_if_eq, rd_6_6, ai_0_4, ai_1_7, ai_2_1, ai_2_2, ai_3_1, ai_4_1, ai_6_3, ai_6_4, ai_6_5, ai_6_6, ai_6_7, ai_6_8, ai_8_5, ai_8_6, ai_8_17, ai_8_21, ai_8_23, ai_8_24, ai_8_27, ai_8_28, ai_8_38, ai_8_39, ai_8_40, e_nil, nol_n, nol_I, nol_R, rsum_0, rsum_I, rsum_R, ps_s, ps_n, true_and, and_true, Nat.reduceAdd, Nat.reduceLeDiff, hi, hd1, bi_0, g1, g3, g4, hob, hw, hhas, hh2, Bool.true_eq_false, hvw, hxw, k7, e7, true_implies, false_implies, not_true_eq_false, not_false_eq_true]
            refine ⟨fun c88 => ?_, fun c88 => ?_⟩
            · rw [if_neg (by simp [stn, c88])] at h
              refine go_blk [(.iinc 4 1, 0, 0, 0), (.goto (-94), 3, 0, 0)] (by decide +kernel) ?_
              simp only [e_inc_4_1n, e_inc_4_1I, e_inc_4_1R, e_goto, e_nil, nol_n, nol_I, nol_R, rsum_0, rsum_I, rsum_R, ps_s, ps_n, true_and, and_true, Nat.reduceAdd, Nat.reduceLeDiff, hi, hd1, bi_0, g1, g3, g4, hob, hw, hhas, hh2, Bool.true_eq_false, hvw, hxw, k7, e7, true_implies, false_implies, not_true_eq_false, not_false_eq_true]
              rw [nI_1]
              exact ih (s + 1) _ _ _ _ (by omega) rfl rfl rfl h
            · rw [if_pos ⟨hw9, by simp [stn, Classical.not_not.mp c88]⟩, heN] at h
              refine go_blk [(.iload 8, 0, 0, 0), (.ireturn, 0, 0, 0)] (by decide +kernel) ?_
              simp only [e_ilw_8, e_iret0, e_nil, nol_n, nol_I, nol_R, rsum_0, rsum_I, rsum_R, ps_s, ps_n, true_and, and_true, Nat.reduceAdd, Nat.reduceLeDiff, hi, hd1, bi_0, g1, g3, g4, hob, hw, hhas, hh2, Bool.true_eq_false, hvw, hxw, k7, e7, true_implies, false_implies, not_true_eq_false, not_false_eq_true]
              exact h
theorem ok_firstBehind {l : Launch} {K : KK} {d : Nat} {μ : Mm} {P : Option AV → Mm → Prop} {i : Nat} (hi : i < 6) {t : TS} {op c u v : Nat} (hT : TRep μ i t) (hI : TInv op t) (ho : μ 0 0 0 1 = nI op) (hop : op < 2 ^ 15) (hc : c < 15) (hu : u < 3) (hv0 : v < 3) (hd1 : 1 ≤ d) (h : P (some (vI (eN (fbS op t c u v)))) μ) : Ok l K d 72 [vR 6 i 0, vI (nI c), vI (dI u), vI (dI v)] μ P := by
  refine ok_go 9 (by decide +kernel) [some (vR 6 i 0), some (vI (nI c)), some (vI (dI u)), some (vI (dI v)), none, none, none, none, none] rfl (Nat.le_of_ble_eq_true rfl) ?_
  refine go_blk [(.iconst 1, 0, 0, 0), (.istore 4, 0, 0, 0)] (by decide +kernel) ?_
  simp only [e_ic_1, e_isw_4n, e_isw_4I, e_isw_4R, e_nil, nol_n, nol_I, nol_R, rsum_0, rsum_I, rsum_R, ps_s, ps_n, true_and, and_true, Nat.reduceAdd, Nat.reduceLeDiff]
  exact lp_fb hi hT hI ho hop hc hu hv0 hd1 4 1 none none none none rfl rfl rfl rfl h
