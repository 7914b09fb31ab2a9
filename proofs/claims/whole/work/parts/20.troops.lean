abbrev TS : Type := Nat → Nat → Nat
/-- soldiers and peas: t 0 1 how many; t 3 kinds, t 4 sides, t 5 cells, t 6 hits, t 7 stand, t 8 peas -/
def TRep (μ : Mm) (i : Nat) (t : TS) : Prop := μ 6 i 0 1 = nI (t 0 1) ∧ (∀ s, 3 ≤ s → s ≤ 7 → ∀ j, j < t 0 1 → μ 6 i s j = nI (t s j)) ∧ ∀ j, j < 2 → μ 6 i 8 j = nI (t 8 j)
/-- how often a kind must be hit -/
def hf (k : Nat) : Nat := if k = 1 then 2 else if k = 4 then 2 else 1
def TInv (op : Nat) (t : TS) : Prop := t 0 1 ≤ 6 ∧ (∀ j, j < t 0 1 → t 3 j < 5 ∧ t 4 j < 2 ∧ t 5 j < 15 ∧ t 6 j < 3 ∧ t 7 j < 2 ∧ op.testBit (t 5 j) = true ∧ (t 3 j = 2 → t 7 j = 1 ∧ t 6 j = 0) ∧ (t 3 j ≠ 2 → t 7 j = 1 → t 6 j < hf (t 3 j))) ∧ (∀ j, j < 2 → t 8 j < 10) ∧ ∀ a b, a < t 0 1 → b < t 0 1 → t 5 a = t 5 b → a = b
theorem TRep.row {μ : Mm} {i : Nat} {t : TS} (h : TRep μ i t) {j : Nat} (hj : j < t 0 1) : μ 6 i 3 j = nI (t 3 j) ∧ μ 6 i 4 j = nI (t 4 j) ∧ μ 6 i 5 j = nI (t 5 j) ∧ μ 6 i 6 j = nI (t 6 j) ∧ μ 6 i 7 j = nI (t 7 j) :=
  ⟨h.2.1 3 (by omega) (by omega) j hj, h.2.1 4 (by omega) (by omega) j hj, h.2.1 5 (by omega) (by omega) j hj, h.2.1 6 (by omega) (by omega) j hj, h.2.1 7 (by omega) (by omega) j hj⟩
def hasI (n : Nat) (x : Int32) : Bool := !decide (x < 0) && !decide (nI n ≤ x) && !decide (6 ≤ x)
theorem hasI_nI {n a : Nat} (hn : n ≤ 6) (ha : a < 2 ^ 31) : hasI n (nI a) = decide (a < n) := by
  have e1 : (nI a < 0) = False := eq_false (nI_pos ha)
  have e2 : (nI n ≤ nI a) = (n ≤ a) := propext (nI_leI (by omega) ha)
  have e3 : ((6 : Int32) ≤ nI a) = (6 ≤ a) := propext (nI_leI (a := 6) (by omega) ha)
  simp only [hasI, e1, e2, e3, decide_false, Bool.not_false, Bool.true_and]
  by_cases h : a < n
  · have h1 : ¬ n ≤ a := by omega
    have h2 : ¬ 6 ≤ a := by omega
    simp [h, h1, h2]
  · have h1 : n ≤ a := by omega
    simp [h, h1]
theorem hasI_m1 (n : Nat) : hasI n (-1) = false := by
  have : ((-1 : Int32) < 0) = True := by decide
  simp [hasI, this]
theorem hasI_of {n : Nat} {x : Int32} (hn : n ≤ 6) (h : hasI n x = true) : ∃ a, a < n ∧ x = nI a := by
  simp only [hasI, Bool.and_eq_true, Bool.not_eq_true', decide_eq_false_iff_not] at h
  obtain ⟨j, hj, rfl⟩ := nI_of h.1.1
  refine ⟨j, ?_, rfl⟩
  rcases Nat.lt_or_ge j n with q | q
  · exact q
  · exact absurd (nI_le q hj) h.1.2
def anyB (f : Nat → Bool) : Nat → Nat → Bool
  | 0, _ => false
  | k + 1, j => f j || anyB f k (j + 1)
def cntB (f : Nat → Bool) : Nat → Nat → Nat
  | 0, _ => 0
  | k + 1, j => (if f j then 1 else 0) + cntB f k (j + 1)
theorem cntB_le (f : Nat → Bool) : ∀ k j, cntB f k j ≤ k
  | 0, _ => Nat.le_refl _
  | k + 1, j => by have := cntB_le f k (j + 1); unfold cntB; split <;> omega
def stn (t : TS) (j : Nat) : Bool := t 7 j == 1
/-- who is there: the first one's number -/
def whoF (t : TS) (c : Nat) : Nat → Nat → Int32
  | 0, _ => -1
  | k + 1, j => if t 5 j = c then nI j else whoF t c k (j + 1)
def who (t : TS) (c : Nat) : Int32 := whoF t c (t 0 1) 0
def blk (op : Nat) (t : TS) (m : Nat) : Bool := anyB (fun j => stn t j && m.testBit (t 5 j)) (t 0 1) 0 || !(m &&& op == m)
def lsK (k : Nat) : Nat := if k = 3 then 1 else 2
/-- tenths by which a hits b; 0: it cannot shoot at it -/
def chS (op : Nat) (t : TS) (a b : Nat) : Nat := if decide (a < t 0 1) && decide (b < t 0 1) && stn t a && stn t b && (t 4 a != t 4 b) && decide (0 < t 8 (t 4 a)) && lne (t 5 a) (t 5 b) && !blk op t (btw (t 5 a) (t 5 b)) then max 1 (10 - (lsK (t 3 a) * dst (t 5 a) (t 5 b) + (if (bsd op).testBit (t 5 b) then 2 else 0))) else 0
theorem kv_tab : ∀ k, k < 5 → kv 1 k = nI (lsK k) := by decide +kernel
theorem ls_tab : ∀ k, k < 5 → ∀ e, e < 5 → mxI 1 (10 - (nI (lsK k) * nI e + 2)) = nI (max 1 (10 - (lsK k * e + 2))) ∧ mxI 1 (10 - nI (lsK k) * nI e) = nI (max 1 (10 - (lsK k * e + 0))) := by decide +kernel
theorem b2 : ∀ k, k < 2 → (nI k = 0) = (¬ k = 1) ∧ vp_nar .boolean (nI k) = nI k := by decide +kernel
theorem ok_isKind {l : Launch} {K : KK} {d : Nat} {μ : Mm} {P : Option AV → Mm → Prop} {x : Int32} (h : P (some (vI (bi (!decide (x < 0) && !decide (5 ≤ x))))) μ) : Ok l K d 100 [vI x] μ P := by
  refine ok_go 1 (by decide +kernel) [some (vI x)] rfl (Nat.le_of_ble_eq_true rfl) ?_
  refine go_blk [(.iload_n 0, 0, 0, 0), (.ifCond .lt 15, 16, 0, 0)] (by decide +kernel) ?_
  simp only [e_il_0, e_if_lt, e_nil, nol_n, nol_I, nol_R, rsum_0, rsum_I, rsum_R, ps_s, ps_n, true_and, and_true, Nat.reduceAdd, Nat.reduceLeDiff]
  refine ⟨fun c1 => ?_, fun c1 => ?_⟩
  · refine go_blk [(.iconst 0, 0, 0, 0), (.ireturn, 1, 0, 0)] (by decide +kernel) ?_
    simp only [e_ic_0, e_iret1, e_nil, nol_n, nol_I, nol_R, rsum_0, rsum_I, rsum_R, ps_s, ps_n, true_and, and_true, Nat.reduceAdd, Nat.reduceLeDiff]
    refine ⟨by decide, ?_⟩
    simp_all [bi]
  · refine go_blk [(.iload_n 0, 0, 0, 0), (.getstatic 171, 10, 0, 0), (.arraylength, 10, 0, 0), (.if_icmp .ge 7, 16, 0, 0)] (by decide +kernel) ?_
    simp only [e_il_0, e_stK, e_lnK, e_icmp_ge, e_nil, nol_n, nol_I, nol_R, rsum_0, rsum_I, rsum_R, ps_s, ps_n, true_and, and_true, Nat.reduceAdd, Nat.reduceLeDiff]
    refine ⟨fun c9 => ?_, fun c9 => ?_⟩
    · refine go_blk [(.iconst 0, 0, 0, 0), (.ireturn, 1, 0, 0)] (by decide +kernel) ?_
      simp only [e_ic_0, e_iret1, e_nil, nol_n, nol_I, nol_R, rsum_0, rsum_I, rsum_R, ps_s, ps_n, true_and, and_true, Nat.reduceAdd, Nat.reduceLeDiff]
      refine ⟨by decide, ?_⟩
      simp_all [bi]
    · refine go_blk [(.iconst 1, 0, 0, 0), (.goto 4, 17, 0, 0), (.ireturn, 1, 0, 0)] (by decide +kernel) ?_
      simp only [e_ic_1, e_goto, e_iret1, e_nil, nol_n, nol_I, nol_R, rsum_0, rsum_I, rsum_R, ps_s, ps_n, true_and, and_true, Nat.reduceAdd, Nat.reduceLeDiff]
      refine ⟨by decide, ?_⟩
      simp_all [bi]
theorem ok_isSide {l : Launch} {K : KK} {d : Nat} {μ : Mm} {P : Option AV → Mm → Prop} {x : Int32} (h : P (some (vI (bi (!decide (x < 0) && !decide (2 ≤ x))))) μ) : Ok l K d 101 [vI x] μ P := by
  refine ok_go 1 (by decide +kernel) [some (vI x)] rfl (Nat.le_of_ble_eq_true rfl) ?_
  refine go_blk [(.iload_n 0, 0, 0, 0), (.ifCond .lt 12, 13, 0, 0)] (by decide +kernel) ?_
  simp only [e_il_0, e_if_lt, e_nil, nol_n, nol_I, nol_R, rsum_0, rsum_I, rsum_R, ps_s, ps_n, true_and, and_true, Nat.reduceAdd, Nat.reduceLeDiff]
  refine ⟨fun c1 => ?_, fun c1 => ?_⟩
  · refine go_blk [(.iconst 0, 0, 0, 0), (.ireturn, 1, 0, 0)] (by decide +kernel) ?_
    simp only [e_ic_0, e_iret1, e_nil, nol_n, nol_I, nol_R, rsum_0, rsum_I, rsum_R, ps_s, ps_n, true_and, and_true, Nat.reduceAdd, Nat.reduceLeDiff]
    refine ⟨by decide, ?_⟩
    simp_all [bi]
  · refine go_blk [(.iload_n 0, 0, 0, 0), (.iconst 2, 0, 0, 0), (.if_icmp .ge 7, 13, 0, 0)] (by decide +kernel) ?_
    simp only [e_il_0, e_ic_2, e_icmp_ge, e_nil, nol_n, nol_I, nol_R, rsum_0, rsum_I, rsum_R, ps_s, ps_n, true_and, and_true, Nat.reduceAdd, Nat.reduceLeDiff]
    refine ⟨fun c6 => ?_, fun c6 => ?_⟩
    · refine go_blk [(.iconst 0, 0, 0, 0), (.ireturn, 1, 0, 0)] (by decide +kernel) ?_
      simp only [e_ic_0, e_iret1, e_nil, nol_n, nol_I, nol_R, rsum_0, rsum_I, rsum_R, ps_s, ps_n, true_and, and_true, Nat.reduceAdd, Nat.reduceLeDiff]
      refine ⟨by decide, ?_⟩
      simp_all [bi]
    · refine go_blk [(.iconst 1, 0, 0, 0), (.goto 4, 14, 0, 0), (.ireturn, 1, 0, 0)] (by decide +kernel) ?_
      simp only [e_ic_1, e_goto, e_iret1, e_nil, nol_n, nol_I, nol_R, rsum_0, rsum_I, rsum_R, ps_s, ps_n, true_and, and_true, Nat.reduceAdd, Nat.reduceLeDiff]
      refine ⟨by decide, ?_⟩
      simp_all [bi]
theorem ok_isA {l : Launch} {K : KK} {d : Nat} {μ : Mm} {P : Option AV → Mm → Prop} {a b : Nat} (ha : a < 5) (hb : b < 5) (h : P (some (vI (bi (decide (a = b) || decide (b = 0) || (decide (a = 4) && decide (b = 1)))))) μ) : Ok l K d 30 [vR 9 a 0, vR 9 b 0] μ P := by
  refine ok_go 2 (by decide +kernel) [some (vR 9 a 0), some (vR 9 b 0)] rfl (Nat.le_of_ble_eq_true rfl) ?_
  refine go_blk [(.aload_n 0, 0, 0, 0), (.aload_n 1, 0, 0, 0), (.if_acmp .eq 24, 26, 0, 0)] (by decide +kernel) ?_
  simp only [e_al_0, e_al_1, e_acmp_eq, e_nil, nol_n, nol_I, nol_R, rsum_0, rsum_I, rsum_R, ps_s, ps_n, true_and, and_true, Nat.reduceAdd, Nat.reduceLeDiff, ha, hb, (show (0 < 5) = True by decide), (show (1 < 5) = True by decide), (show (4 < 5) = True by decide)]
  refine ⟨fun c2 => ?_, fun c2 => ?_⟩
  · refine go_blk [(.iconst 1, 0, 0, 0), (.goto 4, 31, 0, 0), (.ireturn, 1, 0, 0)] (by decide +kernel) ?_
    simp only [e_ic_1, e_goto, e_iret1, e_nil, nol_n, nol_I, nol_R, rsum_0, rsum_I, rsum_R, ps_s, ps_n, true_and, and_true, Nat.reduceAdd, Nat.reduceLeDiff, ha, hb, (show (0 < 5) = True by decide), (show (1 < 5) = True by decide), (show (4 < 5) = True by decide)]
    refine ⟨by decide, ?_⟩
    simp_all [bi]
  · refine go_blk [(.aload_n 1, 0, 0, 0), (.getstatic 3, 9, 0, 0), (.if_acmp .eq 17, 26, 0, 0)] (by decide +kernel) ?_
    simp only [e_al_1, e_st_0, e_acmp_eq, e_nil, nol_n, nol_I, nol_R, rsum_0, rsum_I, rsum_R, ps_s, ps_n, true_and, and_true, Nat.reduceAdd, Nat.reduceLeDiff, ha, hb, (show (0 < 5) = True by decide), (show (1 < 5) = True by decide), (show (4 < 5) = True by decide)]
    refine ⟨fun c9 => ?_, fun c9 => ?_⟩
    · refine go_blk [(.iconst 1, 0, 0, 0), (.goto 4, 31, 0, 0), (.ireturn, 1, 0, 0)] (by decide +kernel) ?_
      simp only [e_ic_1, e_goto, e_iret1, e_nil, nol_n, nol_I, nol_R, rsum_0, rsum_I, rsum_R, ps_s, ps_n, true_and, and_true, Nat.reduceAdd, Nat.reduceLeDiff, ha, hb, (show (0 < 5) = True by decide), (show (1 < 5) = True by decide), (show (4 < 5) = True by decide)]
      refine ⟨by decide, ?_⟩
      simp_all [bi]
    · refine go_blk [(.aload_n 0, 0, 0, 0), (.getstatic 16, 9, 4, 0), (.if_acmp .ne 14, 30, 0, 0)] (by decide +kernel) ?_
      simp only [e_al_0, e_st_4, e_acmp_ne, e_nil, nol_n, nol_I, nol_R, rsum_0, rsum_I, rsum_R, ps_s, ps_n, true_and, and_true, Nat.reduceAdd, Nat.reduceLeDiff, ha, hb, (show (0 < 5) = True by decide), (show (1 < 5) = True by decide), (show (4 < 5) = True by decide)]
      refine ⟨fun c16 => ?_, fun c16 => ?_⟩
      · refine go_blk [(.iconst 0, 0, 0, 0), (.ireturn, 1, 0, 0)] (by decide +kernel) ?_
        simp only [e_ic_0, e_iret1, e_nil, nol_n, nol_I, nol_R, rsum_0, rsum_I, rsum_R, ps_s, ps_n, true_and, and_true, Nat.reduceAdd, Nat.reduceLeDiff, ha, hb, (show (0 < 5) = True by decide), (show (1 < 5) = True by decide), (show (4 < 5) = True by decide)]
        refine ⟨by decide, ?_⟩
        simp_all [bi]
      · refine go_blk [(.aload_n 1, 0, 0, 0), (.getstatic 7, 9, 1, 0), (.if_acmp .ne 7, 30, 0, 0)] (by decide +kernel) ?_
        simp only [e_al_1, e_st_1, e_acmp_ne, e_nil, nol_n, nol_I, nol_R, rsum_0, rsum_I, rsum_R, ps_s, ps_n, true_and, and_true, Nat.reduceAdd, Nat.reduceLeDiff, ha, hb, (show (0 < 5) = True by decide), (show (1 < 5) = True by decide), (show (4 < 5) = True by decide)]
        refine ⟨fun c23 => ?_, fun c23 => ?_⟩
        · refine go_blk [(.iconst 0, 0, 0, 0), (.ireturn, 1, 0, 0)] (by decide +kernel) ?_
          simp only [e_ic_0, e_iret1, e_nil, nol_n, nol_I, nol_R, rsum_0, rsum_I, rsum_R, ps_s, ps_n, true_and, and_true, Nat.reduceAdd, Nat.reduceLeDiff, ha, hb, (show (0 < 5) = True by decide), (show (1 < 5) = True by decide), (show (4 < 5) = True by decide)]
          refine ⟨by decide, ?_⟩
          simp_all [bi]
        · refine go_blk [(.iconst 1, 0, 0, 0), (.goto 4, 31, 0, 0), (.ireturn, 1, 0, 0)] (by decide +kernel) ?_
          simp only [e_ic_1, e_goto, e_iret1, e_nil, nol_n, nol_I, nol_R, rsum_0, rsum_I, rsum_R, ps_s, ps_n, true_and, and_true, Nat.reduceAdd, Nat.reduceLeDiff, ha, hb, (show (0 < 5) = True by decide), (show (1 < 5) = True by decide), (show (4 < 5) = True by decide)]
          refine ⟨by decide, ?_⟩
          simp_all [bi]
theorem ok_has {l : Launch} {K : KK} {d : Nat} {μ : Mm} {P : Option AV → Mm → Prop} {i : Nat} (hi : i < 6) {n : Nat} {x : Int32} (hn : μ 6 i 0 1 = nI n) (h : P (some (vI (bi (hasI n x)))) μ) : Ok l K d 60 [vR 6 i 0, vI x] μ P := by
  refine ok_go 2 (by decide +kernel) [some (vR 6 i 0), some (vI x)] rfl (Nat.le_of_ble_eq_true rfl) ?_
  refine go_blk [(.iload_n 1, 0, 0, 0), (.ifCond .lt 21, 22, 0, 0)] (by decide +kernel) ?_
  simp only [e_il_1, e_if_lt, e_nil, nol_n, nol_I, nol_R, rsum_0, rsum_I, rsum_R, ps_s, ps_n, true_and, and_true, Nat.reduceAdd, Nat.reduceLeDiff, hi, hn]
  refine ⟨fun c1 => ?_, fun c1 => ?_⟩
  · refine go_blk [(.iconst 0, 0, 0, 0), (.ireturn, 1, 0, 0)] (by decide +kernel) ?_
    simp only [e_ic_0, e_iret1, e_nil, nol_n, nol_I, nol_R, rsum_0, rsum_I, rsum_R, ps_s, ps_n, true_and, and_true, Nat.reduceAdd, Nat.reduceLeDiff, hi, hn]
    refine ⟨by decide, ?_⟩
    simp_all [hasI, bi]
  · refine go_blk [(.iload_n 1, 0, 0, 0), (.aload_n 0, 0, 0, 0), (.getfield 9, 6, 1, 0), (.if_icmp .ge 13, 22, 0, 0)] (by decide +kernel) ?_
    simp only [e_il_1, e_al_0, e_gf_6_1, e_icmp_ge, rd_6_1, e_nil, nol_n, nol_I, nol_R, rsum_0, rsum_I, rsum_R, ps_s, ps_n, true_and, and_true, Nat.reduceAdd, Nat.reduceLeDiff, hi, hn]
    refine ⟨fun c9 => ?_, fun c9 => ?_⟩
    · refine go_blk [(.iconst 0, 0, 0, 0), (.ireturn, 1, 0, 0)] (by decide +kernel) ?_
      simp only [e_ic_0, e_iret1, e_nil, nol_n, nol_I, nol_R, rsum_0, rsum_I, rsum_R, ps_s, ps_n, true_and, and_true, Nat.reduceAdd, Nat.reduceLeDiff, hi, hn]
      refine ⟨by decide, ?_⟩
      simp_all [hasI, bi]
    · refine go_blk [(.iload_n 1, 0, 0, 0), (.bipush 6, 0, 0, 0), (.if_icmp .ge 7, 22, 0, 0)] (by decide +kernel) ?_
      simp only [e_il_1, e_bp_6, e_icmp_ge, e_nil, nol_n, nol_I, nol_R, rsum_0, rsum_I, rsum_R, ps_s, ps_n, true_and, and_true, Nat.reduceAdd, Nat.reduceLeDiff, hi, hn]
      refine ⟨fun c15 => ?_, fun c15 => ?_⟩
      · refine go_blk [(.iconst 0, 0, 0, 0), (.ireturn, 1, 0, 0)] (by decide +kernel) ?_
        simp only [e_ic_0, e_iret1, e_nil, nol_n, nol_I, nol_R, rsum_0, rsum_I, rsum_R, ps_s, ps_n, true_and, and_true, Nat.reduceAdd, Nat.reduceLeDiff, hi, hn]
        refine ⟨by decide, ?_⟩
        simp_all [hasI, bi]
      · refine go_blk [(.iconst 1, 0, 0, 0), (.goto 4, 23, 0, 0), (.ireturn, 1, 0, 0)] (by decide +kernel) ?_
        simp only [e_ic_1, e_goto, e_iret1, e_nil, nol_n, nol_I, nol_R, rsum_0, rsum_I, rsum_R, ps_s, ps_n, true_and, and_true, Nat.reduceAdd, Nat.reduceLeDiff, hi, hn]
        refine ⟨by decide, ?_⟩
        simp_all [hasI, bi]
theorem ok_kindOf {l : Launch} {K : KK} {d : Nat} {μ : Mm} {P : Option AV → Mm → Prop} {i : Nat} (hi : i < 6) {t : TS} {a : Nat} (hT : TRep μ i t) (hn : t 0 1 ≤ 6) (ha : a < t 0 1) (hk : t 3 a < 5) (hd1 : 1 ≤ d) (h : P (some (vR 9 (t 3 a) 0)) μ) : Ok l K d 61 [vR 6 i 0, vI (nI a)] μ P := by
  refine ok_go 2 (by decide +kernel) [some (vR 6 i 0), some (vI (nI a))] rfl (Nat.le_of_ble_eq_true rfl) ?_
  have hv : vp_in (nI a) 6 := vin (by omega) (by omega)
  have hx : ix (nI a) = a := nI_ix (by omega)
  have hv5 : vp_in (nI (t 3 a)) 5 := vin (by omega) (by omega)
  have hx5 : ix (nI (t 3 a)) = t 3 a := nI_ix (by omega)
  have k3 := (hT.row ha).1
  have hkk : ¬ (!decide (nI (t 3 a) < 0) && !decide (5 ≤ nI (t 3 a))) = false := by
    have e1 : (nI (t 3 a) < 0) = False := eq_false (nI_pos (by omega))
    have e2 : ((5 : Int32) ≤ nI (t 3 a)) = False := eq_false (nI_ge (b := 5) (by omega) (by omega))
    simp [e1, e2]
  refine go_blk [(.aload_n 0, 0, 0, 0), (.iload_n 1, 0, 0, 0), (.invokevirtual 39, 60, 1, 6)] (by decide +kernel) ?_
  simp only [e_al_0, e_il_1, e_iv_6_1, e_nil, nol_n, nol_I, nol_R, rsum_0, rsum_I, rsum_R, ps_s, ps_n, true_and, and_true, Nat.reduceAdd, Nat.reduceLeDiff, hi, hv, hx, k3, hd1, hv5, hx5, bi_0]
  refine ok_has hi hT.1 ?_
  refine go_blk [(.ifCond .eq 28, 33, 0, 0)] (by decide +kernel) ?_
  simp only [e_if_eq, e_nil, nol_n, nol_I, nol_R, rsum_0, rsum_I, rsum_R, ps_s, ps_n, true_and, and_true, Nat.reduceAdd, Nat.reduceLeDiff, hi, hv, hx, k3, hd1, hv5, hx5, bi_0]
  refine ⟨fun c5 => ?_, fun c5 => ?_⟩
  · exact absurd c5 (by rw [hasI_nI hn (by omega)]; simp [ha])
  · refine go_blk [(.aload_n 0, 0, 0, 0), (.getfield 15, 6, 2, 0), (.iload_n 1, 0, 0, 0), (.iaload, 0, 0, 0), (.invokestatic 43, 100, 1, 1)] (by decide +kernel) ?_
    simp only [e_al_0, e_gf_6_2, e_il_1, e_ia, e_ivs_1, rd_6_2, ai_0_4, ai_1_7, ai_2_1, ai_2_2, ai_3_1, ai_4_1, ai_6_3, ai_6_4, ai_6_5, ai_6_6, ai_6_7, ai_6_8, ai_8_5, ai_8_6, ai_8_17, ai_8_21, ai_8_23, ai_8_24, ai_8_27, ai_8_28, ai_8_38, ai_8_39, ai_8_40, e_nil, Nat.reduceLT, nol_n, nol_I, nol_R, rsum_0, rsum_I, rsum_R, ps_s, ps_n, true_and, and_true, Nat.reduceAdd, Nat.reduceLeDiff, hi, hv, hx, k3, hd1, hv5, hx5, bi_0]
    refine ok_isKind ?_
    refine go_blk [(.ifCond .eq 16, 33, 0, 0)] (by decide +kernel) ?_
    simp only [e_if_eq, e_nil, nol_n, nol_I, nol_R, rsum_0, rsum_I, rsum_R, ps_s, ps_n, true_and, and_true, Nat.reduceAdd, Nat.reduceLeDiff, hi, hv, hx, k3, hd1, hv5, hx5, bi_0]
    refine ⟨fun c17 => ?_, fun c17 => ?_⟩
    · exact absurd c17 hkk
    · refine go_blk [(.getstatic 46, 10, 0, 0), (.aload_n 0, 0, 0, 0), (.getfield 15, 6, 2, 0), (.iload_n 1, 0, 0, 0), (.iaload, 0, 0, 0), (.aaload, 10, 0, 0), (.goto 6, 36, 0, 0), (.areturn, 0, 0, 0)] (by decide +kernel) ?_
      simp only [e_stK, e_al_0, e_gf_6_2, e_il_1, e_ia, e_aK, e_goto, e_aret, rd_6_2, ai_0_4, ai_1_7, ai_2_1, ai_2_2, ai_3_1, ai_4_1, ai_6_3, ai_6_4, ai_6_5, ai_6_6, ai_6_7, ai_6_8, ai_8_5, ai_8_6, ai_8_17, ai_8_21, ai_8_23, ai_8_24, ai_8_27, ai_8_28, ai_8_38, ai_8_39, ai_8_40, e_nil, nol_n, nol_I, nol_R, rsum_0, rsum_I, rsum_R, ps_s, ps_n, true_and, and_true, Nat.reduceAdd, Nat.reduceLeDiff, hi, hv, hx, k3, hd1, hv5, hx5, bi_0]
      exact h
theorem lp_who {l : Launch} {K : KK} {d : Nat} {μ : Mm} {P : Option AV → Mm → Prop} {i : Nat} (hi : i < 6) {t : TS} {c : Nat} (hT : TRep μ i t) (hn : t 0 1 ≤ 6) (hc : c < 2 ^ 31) (hcl : ∀ j, j < t 0 1 → t 5 j < 15) : ∀ (r j : Nat), j + r = t 0 1 → P (some (vI (whoF t c r j))) μ → Go l K d 62 2 [some (vR 6 i 0), some (vI (nI c)), some (vI (nI j))] [] μ P := by
  have h1 := hT.1
  intro r
  induction r with
  | zero =>
    intro j hj h
    refine go_blk [(.iload_n 2, 0, 0, 0), (.aload_n 0, 0, 0, 0), (.getfield 9, 6, 1, 0), (.if_icmp .ge 21, 28, 0, 0)] (by decide +kernel) ?_
    simp only [e_il_2, e_al_0, e_gf_6_1, e_icmp_ge, rd_6_1, e_nil, nol_n, nol_I, nol_R, rsum_0, rsum_I, rsum_R, ps_s, ps_n, true_and, and_true, Nat.reduceAdd, Nat.reduceLeDiff, hi, h1]
    refine ⟨fun c7 => ?_, fun c7 => ?_⟩
    · refine go_blk [(.iconst (-1), 0, 0, 0), (.ireturn, 0, 0, 0)] (by decide +kernel) ?_
      simp only [e_ic_m1, e_iret0, e_nil, nol_n, nol_I, nol_R, rsum_0, rsum_I, rsum_R, ps_s, ps_n, true_and, and_true, Nat.reduceAdd, Nat.reduceLeDiff, hi, h1]
      exact h
    · exact absurd (nI_le (by omega) (by omega)) c7
  | succ r ih =>
    intro j hj h
    have hv : vp_in (nI j) 6 := vin (by omega) (by omega)
    have hx : ix (nI j) = j := nI_ix (by omega)
    have k5 := (hT.row (j := j) (by omega)).2.2.1
    have he : (nI (t 5 j) = nI c) = (t 5 j = c) := propext (nI_eq (by have := hcl j (by omega); omega) hc)
    refine go_blk [(.iload_n 2, 0, 0, 0), (.aload_n 0, 0, 0, 0), (.getfield 9, 6, 1, 0), (.if_icmp .ge 21, 28, 0, 0)] (by decide +kernel) ?_
    simp only [e_il_2, e_al_0, e_gf_6_1, e_icmp_ge, rd_6_1, e_nil, nol_n, nol_I, nol_R, rsum_0, rsum_I, rsum_R, ps_s, ps_n, true_and, and_true, Nat.reduceAdd, Nat.reduceLeDiff, hi, h1, hv, hx, k5, he]
    refine ⟨fun c7 => ?_, fun c7 => ?_⟩
    · exact absurd c7 (nI_ge (by omega) (by omega))
    · refine go_blk [(.aload_n 0, 0, 0, 0), (.getfield 22, 6, 4, 0), (.iload_n 2, 0, 0, 0), (.iaload, 0, 0, 0), (.iload_n 1, 0, 0, 0), (.if_icmp .ne 5, 22, 0, 0)] (by decide +kernel) ?_
      simp only [e_al_0, e_gf_6_4, e_il_2, e_ia, e_il_1, e_icmp_ne, rd_6_4, ai_0_4, ai_1_7, ai_2_1, ai_2_2, ai_3_1, ai_4_1, ai_6_3, ai_6_4, ai_6_5, ai_6_6, ai_6_7, ai_6_8, ai_8_5, ai_8_6, ai_8_17, ai_8_21, ai_8_23, ai_8_24, ai_8_27, ai_8_28, ai_8_38, ai_8_39, ai_8_40, e_nil, nol_n, nol_I, nol_R, rsum_0, rsum_I, rsum_R, ps_s, ps_n, true_and, and_true, Nat.reduceAdd, Nat.reduceLeDiff, hi, h1, hv, hx, k5, he]
      refine ⟨fun c17 => ?_, fun c17 => ?_⟩
      · refine go_blk [(.iinc 2 1, 0, 0, 0), (.goto (-23), 2, 0, 0)] (by decide +kernel) ?_
        simp only [e_inc_2_1n, e_inc_2_1I, e_inc_2_1R, e_goto, e_nil, nol_n, nol_I, nol_R, rsum_0, rsum_I, rsum_R, ps_s, ps_n, true_and, and_true, Nat.reduceAdd, Nat.reduceLeDiff, hi, h1, hv, hx, k5, he]
        rw [nI_1]
        rw [whoF, if_neg c17] at h
        exact ih (j + 1) (by omega) h
      · refine go_blk [(.iload_n 2, 0, 0, 0), (.ireturn, 0, 0, 0)] (by decide +kernel) ?_
        simp only [e_il_2, e_iret0, e_nil, nol_n, nol_I, nol_R, rsum_0, rsum_I, rsum_R, ps_s, ps_n, true_and, and_true, Nat.reduceAdd, Nat.reduceLeDiff, hi, h1, hv, hx, k5, he]
        rw [whoF, if_pos c17] at h
        exact h
theorem ok_whoIsAt {l : Launch} {K : KK} {d : Nat} {μ : Mm} {P : Option AV → Mm → Prop} {i : Nat} (hi : i < 6) {t : TS} {c : Nat} (hT : TRep μ i t) (hn : t 0 1 ≤ 6) (hc : c < 2 ^ 31) (hcl : ∀ j, j < t 0 1 → t 5 j < 15) (h : P (some (vI (who t c))) μ) : Ok l K d 62 [vR 6 i 0, vI (nI c)] μ P := by
  refine ok_go 3 (by decide +kernel) [some (vR 6 i 0), some (vI (nI c)), none] rfl (Nat.le_of_ble_eq_true rfl) ?_
  refine go_blk [(.iconst 0, 0, 0, 0), (.istore_n 2, 0, 0, 0)] (by decide +kernel) ?_
  simp only [e_ic_0, e_is_2n, e_is_2I, e_is_2R, e_nil, nol_n, nol_I, nol_R, rsum_0, rsum_I, rsum_R, ps_s, ps_n, true_and, and_true, Nat.reduceAdd, Nat.reduceLeDiff]
  exact lp_who hi hT hn hc hcl (t 0 1) 0 (by omega) h
theorem ok_isFree {l : Launch} {K : KK} {d : Nat} {μ : Mm} {P : Option AV → Mm → Prop} {i : Nat} (hi : i < 6) {t : TS} {c op : Nat} (hT : TRep μ i t) (hI : TInv op t) (hc : c < 15) (ho : μ 0 0 0 1 = nI op) (hop : op < 2 ^ 15) (hd1 : 1 ≤ d) (h : P (some (vI (bi (op.testBit c && decide (who t c = -1))))) μ) : Ok l K d 63 [vR 6 i 0, vI (nI c)] μ P := by
  refine ok_go 2 (by decide +kernel) [some (vR 6 i 0), some (vI (nI c))] rfl (Nat.le_of_ble_eq_true rfl) ?_
  refine go_blk [(.aload_n 0, 0, 0, 0), (.getfield 35, 6, 0, 0), (.iload_n 1, 0, 0, 0), (.invokevirtual 56, 3, 1, 0)] (by decide +kernel) ?_
  simp only [e_al_0, e_gf_6_0, e_il_1, e_iv_0_1, rd_6_0, e_nil, nol_n, nol_I, nol_R, rsum_0, rsum_I, rsum_R, ps_s, ps_n, true_and, and_true, Nat.reduceAdd, Nat.reduceLeDiff, hi, hd1, bi_0]
  refine ok_isOpen ho hop hc ?_
  refine go_blk [(.ifCond .eq 16, 24, 0, 0)] (by decide +kernel) ?_
  simp only [e_if_eq, e_nil, nol_n, nol_I, nol_R, rsum_0, rsum_I, rsum_R, ps_s, ps_n, true_and, and_true, Nat.reduceAdd, Nat.reduceLeDiff, hi, hd1, bi_0]
  refine ⟨fun c8 => ?_, fun c8 => ?_⟩
  · refine go_blk [(.iconst 0, 0, 0, 0), (.ireturn, 1, 0, 0)] (by decide +kernel) ?_
    simp only [e_ic_0, e_iret1, e_nil, nol_n, nol_I, nol_R, rsum_0, rsum_I, rsum_R, ps_s, ps_n, true_and, and_true, Nat.reduceAdd, Nat.reduceLeDiff, hi, hd1, bi_0]
    refine ⟨by decide, ?_⟩
    simp_all [bi]
  · refine go_blk [(.aload_n 0, 0, 0, 0), (.iload_n 1, 0, 0, 0), (.invokevirtual 61, 62, 1, 6)] (by decide +kernel) ?_
    simp only [e_al_0, e_il_1, e_iv_6_1, e_nil, nol_n, nol_I, nol_R, rsum_0, rsum_I, rsum_R, ps_s, ps_n, true_and, and_true, Nat.reduceAdd, Nat.reduceLeDiff, hi, hd1, bi_0]
    refine ok_whoIsAt hi hT hI.1 (by omega) (fun j hj => (hI.2.1 j hj).2.2.1) ?_
    refine go_blk [(.iconst (-1), 0, 0, 0), (.if_icmp .ne 7, 24, 0, 0)] (by decide +kernel) ?_
    simp only [e_ic_m1, e_icmp_ne, e_nil, nol_n, nol_I, nol_R, rsum_0, rsum_I, rsum_R, ps_s, ps_n, true_and, and_true, Nat.reduceAdd, Nat.reduceLeDiff, hi, hd1, bi_0]
    refine ⟨fun c17 => ?_, fun c17 => ?_⟩
    · refine go_blk [(.iconst 0, 0, 0, 0), (.ireturn, 1, 0, 0)] (by decide +kernel) ?_
      simp only [e_ic_0, e_iret1, e_nil, nol_n, nol_I, nol_R, rsum_0, rsum_I, rsum_R, ps_s, ps_n, true_and, and_true, Nat.reduceAdd, Nat.reduceLeDiff, hi, hd1, bi_0]
      refine ⟨by decide, ?_⟩
      simp_all [bi]
    · refine go_blk [(.iconst 1, 0, 0, 0), (.goto 4, 25, 0, 0), (.ireturn, 1, 0, 0)] (by decide +kernel) ?_
      simp only [e_ic_1, e_goto, e_iret1, e_nil, nol_n, nol_I, nol_R, rsum_0, rsum_I, rsum_R, ps_s, ps_n, true_and, and_true, Nat.reduceAdd, Nat.reduceLeDiff, hi, hd1, bi_0]
      refine ⟨by decide, ?_⟩
      simp_all [bi]
theorem lp_blk {l : Launch} {K : KK} {d : Nat} {μ : Mm} {P : Option AV → Mm → Prop} {i : Nat} (hi : i < 6) {t : TS} {m op : Nat} (hT : TRep μ i t) (hI : TInv op t) (hm : m < 2 ^ 15) (ho : μ 0 0 0 1 = nI op) (hd1 : 1 ≤ d) : ∀ (r j : Nat), j + r = t 0 1 → P (some (vI (bi (anyB (fun j => stn t j && m.testBit (t 5 j)) r j || !(m &&& op == m))))) μ → Go l K d 70 2 [some (vR 6 i 0), some (vI (nI m)), some (vI (nI j))] [] μ P := by
  have h1 := hT.1
  have hn := hI.1
  intro r
  induction r with
  | zero =>
    intro j hj h
    refine go_blk [(.iload_n 2, 0, 0, 0), (.aload_n 0, 0, 0, 0), (.getfield 9, 6, 1, 0), (.if_icmp .ge 34, 41, 0, 0)] (by decide +kernel) ?_
    simp only [e_il_2, e_al_0, e_gf_6_1, e_icmp_ge, rd_6_1, e_nil, nol_n, nol_I, nol_R, rsum_0, rsum_I, rsum_R, ps_s, ps_n, true_and, and_true, Nat.reduceAdd, Nat.reduceLeDiff, hi, h1, hd1]
    refine ⟨fun c7 => ?_, fun c7 => ?_⟩
    · refine go_blk [(.aload_n 0, 0, 0, 0), (.getfield 35, 6, 0, 0), (.iload_n 1, 0, 0, 0), (.invokevirtual 112, 6, 1, 0)] (by decide +kernel) ?_
      simp only [e_al_0, e_gf_6_0, e_il_1, e_iv_0_1, rd_6_0, e_nil, nol_n, nol_I, nol_R, rsum_0, rsum_I, rsum_R, ps_s, ps_n, true_and, and_true, Nat.reduceAdd, Nat.reduceLeDiff, hi, h1, hd1]
      refine ok_hasCoverOn ho hm ?_
      refine go_blk [(.ireturn, 1, 0, 0)] (by decide +kernel) ?_
      simp only [e_iret1, e_nil, nol_n, nol_I, nol_R, rsum_0, rsum_I, rsum_R, ps_s, ps_n, true_and, and_true, Nat.reduceAdd, Nat.reduceLeDiff, hi, h1, hd1]
      refine ⟨bi_01 _, ?_⟩
      have e : (anyB (fun j => stn t j && m.testBit (t 5 j)) 0 j || !(m &&& op == m)) = decide (¬ m &&& op = m) := by
        by_cases q : m &&& op = m <;> simp [anyB, q]
      rw [e] at h
      exact h
    · exact absurd (nI_le (by omega) (by omega)) c7
  | succ r ih =>
    intro j hj h
    have hv : vp_in (nI j) 6 := vin (by omega) (by omega)
    have hx : ix (nI j) = j := nI_ix (by omega)
    obtain ⟨k3, k4, k5, k6, k7⟩ := hT.row (j := j) (by omega)
    obtain ⟨i3, i4, i5, i6, i7, i8, i9⟩ := hI.2.1 j (by omega)
    have e7 := (b2 (t 7 j) i7).1
    have e5 := nI_bit1 (m := m) (c := t 5 j) (by omega) (by omega)
    refine go_blk [(.iload_n 2, 0, 0, 0), (.aload_n 0, 0, 0, 0), (.getfield 9, 6, 1, 0), (.if_icmp .ge 34, 41, 0, 0)] (by decide +kernel) ?_
    simp only [e_il_2, e_al_0, e_gf_6_1, e_icmp_ge, rd_6_1, e_nil, nol_n, nol_I, nol_R, rsum_0, rsum_I, rsum_R, ps_s, ps_n, true_and, and_true, Nat.reduceAdd, Nat.reduceLeDiff, hi, h1, hv, hx, k5, k7, e7, e5]
    refine ⟨fun c7 => ?_, fun c7 => ?_⟩
    · exact absurd c7 (nI_ge (by omega) (by omega))
    · refine go_blk [(.aload_n 0, 0, 0, 0), (.getfield 28, 6, 6, 0), (.iload_n 2, 0, 0, 0), (.baload, 1, 0, 0), (.ifCond .eq 19, 35, 0, 0)] (by decide +kernel) ?_
      simp only [e_al_0, e_gf_6_6, e_il_2, e_za, e_if_eq, rd_6_6, ai_0_4, ai_1_7, ai_2_1, ai_2_2, ai_3_1, ai_4_1, ai_6_3, ai_6_4, ai_6_5, ai_6_6, ai_6_7, ai_6_8, ai_8_5, ai_8_6, ai_8_17, ai_8_21, ai_8_23, ai_8_24, ai_8_27, ai_8_28, ai_8_38, ai_8_39, ai_8_40, e_nil, nol_n, nol_I, nol_R, rsum_0, rsum_I, rsum_R, ps_s, ps_n, true_and, and_true, Nat.reduceAdd, Nat.reduceLeDiff, hi, h1, hv, hx, k5, k7, e7, e5]
      refine ⟨fun c16 => ?_, fun c16 => ?_⟩
      · refine go_blk [(.iinc 2 1, 0, 0, 0), (.goto (-36), 2, 0, 0)] (by decide +kernel) ?_
        simp only [e_inc_2_1n, e_inc_2_1I, e_inc_2_1R, e_goto, e_nil, nol_n, nol_I, nol_R, rsum_0, rsum_I, rsum_R, ps_s, ps_n, true_and, and_true, Nat.reduceAdd, Nat.reduceLeDiff, hi, h1, hv, hx, k5, k7, e7, e5]
        rw [nI_1]
        refine ih (j + 1) (by omega) ?_
        have e : (stn t j && m.testBit (t 5 j)) = false := by simp [stn, c16]
        rw [anyB, e, Bool.false_or] at h
        exact h
      · refine go_blk [(.iload_n 1, 0, 0, 0), (.aload_n 0, 0, 0, 0), (.getfield 22, 6, 4, 0), (.iload_n 2, 0, 0, 0), (.iaload, 0, 0, 0), (.ishr, 0, 0, 0), (.iconst 1, 0, 0, 0), (.iand, 0, 0, 0), (.iconst 1, 0, 0, 0), (.if_icmp .ne 5, 35, 0, 0)] (by decide +kernel) ?_
        simp only [e_il_1, e_al_0, e_gf_6_4, e_il_2, e_ia, e_ishr, e_ic_1, e_iand, e_icmp_ne, rd_6_4, ai_0_4, ai_1_7, ai_2_1, ai_2_2, ai_3_1, ai_4_1, ai_6_3, ai_6_4, ai_6_5, ai_6_6, ai_6_7, ai_6_8, ai_8_5, ai_8_6, ai_8_17, ai_8_21, ai_8_23, ai_8_24, ai_8_27, ai_8_28, ai_8_38, ai_8_39, ai_8_40, e_nil, nol_n, nol_I, nol_R, rsum_0, rsum_I, rsum_R, ps_s, ps_n, true_and, and_true, Nat.reduceAdd, Nat.reduceLeDiff, hi, h1, hv, hx, k5, k7, e7, e5]
        refine ⟨fun c30 => ?_, fun c30 => ?_⟩
        · refine go_blk [(.iinc 2 1, 0, 0, 0), (.goto (-36), 2, 0, 0)] (by decide +kernel) ?_
          simp only [e_inc_2_1n, e_inc_2_1I, e_inc_2_1R, e_goto, e_nil, nol_n, nol_I, nol_R, rsum_0, rsum_I, rsum_R, ps_s, ps_n, true_and, and_true, Nat.reduceAdd, Nat.reduceLeDiff, hi, h1, hv, hx, k5, k7, e7, e5]
          rw [nI_1]
          refine ih (j + 1) (by omega) ?_
          have e : (stn t j && m.testBit (t 5 j)) = false := by simp [c30]
          rw [anyB, e, Bool.false_or] at h
          exact h
        · refine go_blk [(.iconst 1, 0, 0, 0), (.ireturn, 1, 0, 0)] (by decide +kernel) ?_
          simp only [e_ic_1, e_iret1, e_nil, nol_n, nol_I, nol_R, rsum_0, rsum_I, rsum_R, ps_s, ps_n, true_and, and_true, Nat.reduceAdd, Nat.reduceLeDiff, hi, h1, hv, hx, k5, k7, e7, e5]
          refine ⟨by decide, ?_⟩
          have e : (stn t j && m.testBit (t 5 j)) = true := by simp [stn, c30, Classical.not_not.mp c16]
          rw [anyB, e, Bool.true_or, Bool.true_or] at h
          exact h
theorem ok_isBlocked {l : Launch} {K : KK} {d : Nat} {μ : Mm} {P : Option AV → Mm → Prop} {i : Nat} (hi : i < 6) {t : TS} {m op : Nat} (hT : TRep μ i t) (hI : TInv op t) (hm : m < 2 ^ 15) (ho : μ 0 0 0 1 = nI op) (hd1 : 1 ≤ d) (h : P (some (vI (bi (blk op t m)))) μ) : Ok l K d 70 [vR 6 i 0, vI (nI m)] μ P := by
  refine ok_go 3 (by decide +kernel) [some (vR 6 i 0), some (vI (nI m)), none] rfl (Nat.le_of_ble_eq_true rfl) ?_
  refine go_blk [(.iconst 0, 0, 0, 0), (.istore_n 2, 0, 0, 0)] (by decide +kernel) ?_
  simp only [e_ic_0, e_is_2n, e_is_2I, e_is_2R, e_nil, nol_n, nol_I, nol_R, rsum_0, rsum_I, rsum_R, ps_s, ps_n, true_and, and_true, Nat.reduceAdd, Nat.reduceLeDiff]
  exact lp_blk hi hT hI hm ho hd1 (t 0 1) 0 (by omega) h
theorem ok_chance {l : Launch} {K : KK} {d : Nat} {μ : Mm} {P : Option AV → Mm → Prop} {i : Nat} (hi : i < 6) {t : TS} {a b op : Nat} (hT : TRep μ i t) (hI : TInv op t) (hC : CRep μ true op) (ha : a < 6) (hb : b < 6) (hd1 : 3 ≤ d) (h : P (some (vI (nI (chS op t a b)))) μ) : Ok l K d 67 [vR 6 i 0, vI (nI a), vI (nI b)] μ P := by
  refine ok_go 5 (by decide +kernel) [some (vR 6 i 0), some (vI (nI a)), some (vI (nI b)), none, none] rfl (Nat.le_of_ble_eq_true rfl) ?_
  have hd2 : 1 ≤ d := by omega
  obtain ⟨hc0, ho, hop, -, hcc⟩ := hC
  obtain ⟨hbs, hsn⟩ := hcc rfl
  have hn := hI.1
  have hva : vp_in (nI a) 6 := vin (by omega) (by omega)
  have hxa : ix (nI a) = a := nI_ix (by omega)
  have hvb : vp_in (nI b) 6 := vin (by omega) (by omega)
  have hxb : ix (nI b) = b := nI_ix (by omega)
  have eA := hasI_nI (n := t 0 1) (a := a) hn (by omega)
  have eB := hasI_nI (n := t 0 1) (a := b) hn (by omega)
  have fin0 : ∀ {c : Prop}, chS op t a b = 0 → P (some (vI 0)) μ := fun e => by rw [e] at h; exact h
  by_cases hA : a < t 0 1
  case neg =>
    have e0 : chS op t a b = 0 := by simp [chS, hA]
    have eA2 : hasI (t 0 1) (nI a) = false := by rw [eA]; simp [hA]
    rw [e0] at h
    refine go_blk [(.aload_n 0, 0, 0, 0), (.iload_n 1, 0, 0, 0), (.invokevirtual 39, 60, 1, 6)] (by decide +kernel) ?_
    simp only [e_al_0, e_il_1, e_iv_6_1, e_nil, nol_n, nol_I, nol_R, rsum_0, rsum_I, rsum_R, ps_s, ps_n, true_and, and_true, Nat.reduceAdd, Nat.reduceLeDiff, hi, hd2, bi_0, eA2]
    refine ok_has hi hT.1 ?_
    refine go_blk [(.ifCond .eq 44, 49, 0, 0)] (by decide +kernel) ?_
    simp only [e_if_eq, e_nil, nol_n, nol_I, nol_R, rsum_0, rsum_I, rsum_R, ps_s, ps_n, true_and, and_true, Nat.reduceAdd, Nat.reduceLeDiff, hi, hd2, bi_0, eA2]
    refine ⟨fun c5 => ?_, fun c5 => ?_⟩
    · refine go_blk [(.iconst 0, 0, 0, 0), (.ireturn, 0, 0, 0)] (by decide +kernel) ?_
      simp only [e_ic_0, e_iret0, e_nil, nol_n, nol_I, nol_R, rsum_0, rsum_I, rsum_R, ps_s, ps_n, true_and, and_true, Nat.reduceAdd, Nat.reduceLeDiff, hi, hd2, bi_0, eA2]
      exact h
    · exact absurd trivial c5
  by_cases hB : b < t 0 1
  case neg =>
    have e0 : chS op t a b = 0 := by simp [chS, hB]
    have eA2 : hasI (t 0 1) (nI a) = true := by rw [eA]; simp [hA]
    have eB2 : hasI (t 0 1) (nI b) = false := by rw [eB]; simp [hB]
    rw [e0] at h
    refine go_blk [(.aload_n 0, 0, 0, 0), (.iload_n 1, 0, 0, 0), (.invokevirtual 39, 60, 1, 6)] (by decide +kernel) ?_
    simp only [e_al_0, e_il_1, e_iv_6_1, e_nil, nol_n, nol_I, nol_R, rsum_0, rsum_I, rsum_R, ps_s, ps_n, true_and, and_true, Nat.reduceAdd, Nat.reduceLeDiff, hi, hd2, bi_0, eA2, eB2, Bool.true_eq_false, true_implies, false_implies, not_true_eq_false, not_false_eq_true]
    refine ok_has hi hT.1 ?_
    refine go_blk [(.ifCond .eq 44, 49, 0, 0)] (by decide +kernel) ?_
    simp only [e_if_eq, e_nil, nol_n, nol_I, nol_R, rsum_0, rsum_I, rsum_R, ps_s, ps_n, true_and, and_true, Nat.reduceAdd, Nat.reduceLeDiff, hi, hd2, bi_0, eA2, eB2, Bool.true_eq_false, true_implies, false_implies, not_true_eq_false, not_false_eq_true]
    refine go_blk [(.aload_n 0, 0, 0, 0), (.iload_n 2, 0, 0, 0), (.invokevirtual 39, 60, 1, 6)] (by decide +kernel) ?_
    simp only [e_al_0, e_il_2, e_iv_6_1, e_nil, nol_n, nol_I, nol_R, rsum_0, rsum_I, rsum_R, ps_s, ps_n, true_and, and_true, Nat.reduceAdd, Nat.reduceLeDiff, hi, hd2, bi_0, eA2, eB2, Bool.true_eq_false, true_implies, false_implies, not_true_eq_false, not_false_eq_true]
    refine ok_has hi hT.1 ?_
    refine go_blk [(.ifCond .eq 36, 49, 0, 0)] (by decide +kernel) ?_
    simp only [e_if_eq, e_nil, nol_n, nol_I, nol_R, rsum_0, rsum_I, rsum_R, ps_s, ps_n, true_and, and_true, Nat.reduceAdd, Nat.reduceLeDiff, hi, hd2, bi_0, eA2, eB2, Bool.true_eq_false, true_implies, false_implies, not_true_eq_false, not_false_eq_true]
    refine go_blk [(.iconst 0, 0, 0, 0), (.ireturn, 0, 0, 0)] (by decide +kernel) ?_
    simp only [e_ic_0, e_iret0, e_nil, nol_n, nol_I, nol_R, rsum_0, rsum_I, rsum_R, ps_s, ps_n, true_and, and_true, Nat.reduceAdd, Nat.reduceLeDiff, hi, hd2, bi_0, eA2, eB2, Bool.true_eq_false, true_implies, false_implies, not_true_eq_false, not_false_eq_true]
    exact h
  have eA2 : hasI (t 0 1) (nI a) = true := by rw [eA]; simp [hA]
  have eB2 : hasI (t 0 1) (nI b) = true := by rw [eB]; simp [hB]
  obtain ⟨a3, a4, a5, a6, a7⟩ := hT.row hA
  obtain ⟨b3, b4, b5, b6, b7⟩ := hT.row hB
  obtain ⟨ia3, ia4, ia5, ia6, ia7, ia8, ia9⟩ := hI.2.1 a hA
  obtain ⟨ib3, ib4, ib5, ib6, ib7, ib8, ib9⟩ := hI.2.1 b hB
  have ea7 := (b2 (t 7 a) ia7).1
  have eb7 := (b2 (t 7 b) ib7).1
  have e44 : (nI (t 4 a) = nI (t 4 b)) = (t 4 a = t 4 b) := propext (nI_eq (by omega) (by omega))
  have hv4 : vp_in (nI (t 4 a)) 2 := vin (by omega) (by omega)
  have hx4 : ix (nI (t 4 a)) = t 4 a := nI_ix (by omega)
  have p8 := hT.2.2 (t 4 a) ia4
  have ip8 := hI.2.2.1 (t 4 a) ia4
  have e8 : (nI (t 8 (t 4 a)) ≤ 0) = (¬ 0 < t 8 (t 4 a)) := propext ((nI_leI (b := 0) (by omega) (by omega)).trans (by omega))
  have hdl := (g_dst (t 5 a) ia5 (t 5 b) ib5).2
  have hkv := kv_tab (t 3 a) ia3
  have hls := ls_tab (t 3 a) ia3 (dst (t 5 a) (t 5 b)) hdl
  have hbb := bsd_lt op
  have hln1 : lne (t 5 a) (t 5 b) = true → bwI (t 5 a) (t 5 b) = nI (btw (t 5 a) (t 5 b)) ∧ btw (t 5 a) (t 5 b) < 2 ^ 15 := fun e => ⟨by simp [bwI, e], btw_lt _ ia5 _ ib5 e⟩
  cases hln : lne (t 5 a) (t 5 b) with
  | false =>
    have hbw : bwI (t 5 a) (t 5 b) = -1 := by simp [bwI, hln]
    have e0 : chS op t a b = 0 := by simp [chS, hln]
    rw [e0] at h
    refine go_blk [(.aload_n 0, 0, 0, 0), (.iload_n 1, 0, 0, 0), (.invokevirtual 39, 60, 1, 6)] (by decide +kernel) ?_
    simp only [e_al_0, e_il_1, e_iv_6_1, e_nil, nol_n, nol_I, nol_R, rsum_0, rsum_I, rsum_R, ps_s, ps_n, true_and, and_true, Nat.reduceAdd, Nat.reduceLeDiff, hi, hd2, bi_0, eA2, eB2, Bool.true_eq_false, hva, hxa, hvb, hxb, a4, a5, a7, b4, b5, b7, ea7, eb7, e44, hv4, hx4, p8, e8, hkv, ia3, true_implies, false_implies, not_true_eq_false, not_false_eq_true, hbw]
    refine ok_has hi hT.1 ?_
    refine go_blk [(.ifCond .eq 44, 49, 0, 0)] (by decide +kernel) ?_
    simp only [e_if_eq, e_nil, nol_n, nol_I, nol_R, rsum_0, rsum_I, rsum_R, ps_s, ps_n, true_and, and_true, Nat.reduceAdd, Nat.reduceLeDiff, hi, hd2, bi_0, eA2, eB2, Bool.true_eq_false, hva, hxa, hvb, hxb, a4, a5, a7, b4, b5, b7, ea7, eb7, e44, hv4, hx4, p8, e8, hkv, ia3, true_implies, false_implies, not_true_eq_false, not_false_eq_true, hbw]
    refine go_blk [(.aload_n 0, 0, 0, 0), (.iload_n 2, 0, 0, 0), (.invokevirtual 39, 60, 1, 6)] (by decide +kernel) ?_
    simp only [e_al_0, e_il_2, e_iv_6_1, e_nil, nol_n, nol_I, nol_R, rsum_0, rsum_I, rsum_R, ps_s, ps_n, true_and, and_true, Nat.reduceAdd, Nat.reduceLeDiff, hi, hd2, bi_0, eA2, eB2, Bool.true_eq_false, hva, hxa, hvb, hxb, a4, a5, a7, b4, b5, b7, ea7, eb7, e44, hv4, hx4, p8, e8, hkv, ia3, true_implies, false_implies, not_true_eq_false, not_false_eq_true, hbw]
    refine ok_has hi hT.1 ?_
    refine go_blk [(.ifCond .eq 36, 49, 0, 0)] (by decide +kernel) ?_
    simp only [e_if_eq, e_nil, nol_n, nol_I, nol_R, rsum_0, rsum_I, rsum_R, ps_s, ps_n, true_and, and_true, Nat.reduceAdd, Nat.reduceLeDiff, hi, hd2, bi_0, eA2, eB2, Bool.true_eq_false, hva, hxa, hvb, hxb, a4, a5, a7, b4, b5, b7, ea7, eb7, e44, hv4, hx4, p8, e8, hkv, ia3, true_implies, false_implies, not_true_eq_false, not_false_eq_true, hbw]
    refine go_blk [(.aload_n 0, 0, 0, 0), (.getfield 28, 6, 6, 0), (.iload_n 1, 0, 0, 0), (.baload, 1, 0, 0), (.ifCond .eq 27, 49, 0, 0)] (by decide +kernel) ?_
    simp only [e_al_0, e_gf_6_6, e_il_1, e_za, e_if_eq, rd_6_6, ai_0_4, ai_1_7, ai_2_1, ai_2_2, ai_3_1, ai_4_1, ai_6_3, ai_6_4, ai_6_5, ai_6_6, ai_6_7, ai_6_8, ai_8_5, ai_8_6, ai_8_17, ai_8_21, ai_8_23, ai_8_24, ai_8_27, ai_8_28, ai_8_38, ai_8_39, ai_8_40, e_nil, nol_n, nol_I, nol_R, rsum_0, rsum_I, rsum_R, ps_s, ps_n, true_and, and_true, Nat.reduceAdd, Nat.reduceLeDiff, hi, hd2, bi_0, eA2, eB2, Bool.true_eq_false, hva, hxa, hvb, hxb, a4, a5, a7, b4, b5, b7, ea7, eb7, e44, hv4, hx4, p8, e8, hkv, ia3, true_implies, false_implies, not_true_eq_false, not_false_eq_true, hbw]
    refine ⟨fun c22 => ?_, fun c22 => ?_⟩
    · refine go_blk [(.iconst 0, 0, 0, 0), (.ireturn, 0, 0, 0)] (by decide +kernel) ?_
      simp only [e_ic_0, e_iret0, e_nil, nol_n, nol_I, nol_R, rsum_0, rsum_I, rsum_R, ps_s, ps_n, true_and, and_true, Nat.reduceAdd, Nat.reduceLeDiff, hi, hd2, bi_0, eA2, eB2, Bool.true_eq_false, hva, hxa, hvb, hxb, a4, a5, a7, b4, b5, b7, ea7, eb7, e44, hv4, hx4, p8, e8, hkv, ia3, true_implies, false_implies, not_true_eq_false, not_false_eq_true, hbw]
      exact h
    · refine go_blk [(.aload_n 0, 0, 0, 0), (.getfield 28, 6, 6, 0), (.iload_n 2, 0, 0, 0), (.baload, 1, 0, 0), (.ifCond .eq 18, 49, 0, 0)] (by decide +kernel) ?_
      simp only [e_al_0, e_gf_6_6, e_il_2, e_za, e_if_eq, rd_6_6, ai_0_4, ai_1_7, ai_2_1, ai_2_2, ai_3_1, ai_4_1, ai_6_3, ai_6_4, ai_6_5, ai_6_6, ai_6_7, ai_6_8, ai_8_5, ai_8_6, ai_8_17, ai_8_21, ai_8_23, ai_8_24, ai_8_27, ai_8_28, ai_8_38, ai_8_39, ai_8_40, e_nil, nol_n, nol_I, nol_R, rsum_0, rsum_I, rsum_R, ps_s, ps_n, true_and, and_true, Nat.reduceAdd, Nat.reduceLeDiff, hi, hd2, bi_0, eA2, eB2, Bool.true_eq_false, hva, hxa, hvb, hxb, a4, a5, a7, b4, b5, b7, ea7, eb7, e44, hv4, hx4, p8, e8, hkv, ia3, true_implies, false_implies, not_true_eq_false, not_false_eq_true, hbw]
      refine ⟨fun c31 => ?_, fun c31 => ?_⟩
      · refine go_blk [(.iconst 0, 0, 0, 0), (.ireturn, 0, 0, 0)] (by decide +kernel) ?_
        simp only [e_ic_0, e_iret0, e_nil, nol_n, nol_I, nol_R, rsum_0, rsum_I, rsum_R, ps_s, ps_n, true_and, and_true, Nat.reduceAdd, Nat.reduceLeDiff, hi, hd2, bi_0, eA2, eB2, Bool.true_eq_false, hva, hxa, hvb, hxb, a4, a5, a7, b4, b5, b7, ea7, eb7, e44, hv4, hx4, p8, e8, hkv, ia3, true_implies, false_implies, not_true_eq_false, not_false_eq_true, hbw]
        exact h
      · refine go_blk [(.aload_n 0, 0, 0, 0), (.getfield 19, 6, 3, 0), (.iload_n 1, 0, 0, 0), (.iaload, 0, 0, 0), (.aload_n 0, 0, 0, 0), (.getfield 19, 6, 3, 0), (.iload_n 2, 0, 0, 0), (.iaload, 0, 0, 0), (.if_icmp .ne 5, 51, 0, 0)] (by decide +kernel) ?_
        simp only [e_al_0, e_gf_6_3, e_il_1, e_ia, e_il_2, e_icmp_ne, rd_6_3, ai_0_4, ai_1_7, ai_2_1, ai_2_2, ai_3_1, ai_4_1, ai_6_3, ai_6_4, ai_6_5, ai_6_6, ai_6_7, ai_6_8, ai_8_5, ai_8_6, ai_8_17, ai_8_21, ai_8_23, ai_8_24, ai_8_27, ai_8_28, ai_8_38, ai_8_39, ai_8_40, e_nil, nol_n, nol_I, nol_R, rsum_0, rsum_I, rsum_R, ps_s, ps_n, true_and, and_true, Nat.reduceAdd, Nat.reduceLeDiff, hi, hd2, bi_0, eA2, eB2, Bool.true_eq_false, hva, hxa, hvb, hxb, a4, a5, a7, b4, b5, b7, ea7, eb7, e44, hv4, hx4, p8, e8, hkv, ia3, true_implies, false_implies, not_true_eq_false, not_false_eq_true, hbw]
        refine ⟨fun c46 => ?_, fun c46 => ?_⟩
        · refine go_blk [(.aload_n 0, 0, 0, 0), (.getfield 22, 6, 4, 0), (.iload_n 1, 0, 0, 0), (.iaload, 0, 0, 0), (.aload_n 0, 0, 0, 0), (.getfield 22, 6, 4, 0), (.iload_n 2, 0, 0, 0), (.iaload, 0, 0, 0), (.invokestatic 69, 28, 2, 0)] (by decide +kernel) ?_
          simp only [e_al_0, e_gf_6_4, e_il_1, e_ia, e_il_2, e_ivs_2, rd_6_4, ai_0_4, ai_1_7, ai_2_1, ai_2_2, ai_3_1, ai_4_1, ai_6_3, ai_6_4, ai_6_5, ai_6_6, ai_6_7, ai_6_8, ai_8_5, ai_8_6, ai_8_17, ai_8_21, ai_8_23, ai_8_24, ai_8_27, ai_8_28, ai_8_38, ai_8_39, ai_8_40, e_nil, Nat.reduceLT, nol_n, nol_I, nol_R, rsum_0, rsum_I, rsum_R, ps_s, ps_n, true_and, and_true, Nat.reduceAdd, Nat.reduceLeDiff, hi, hd2, bi_0, eA2, eB2, Bool.true_eq_false, hva, hxa, hvb, hxb, a4, a5, a7, b4, b5, b7, ea7, eb7, e44, hv4, hx4, p8, e8, hkv, ia3, true_implies, false_implies, not_true_eq_false, not_false_eq_true, hbw]
          refine ok_between ia5 ib5 (by omega) ?_
          refine go_blk [(.istore_n 3, 0, 0, 0), (.aload_n 0, 0, 0, 0), (.getfield 32, 6, 7, 0), (.aload_n 0, 0, 0, 0), (.getfield 19, 6, 3, 0), (.iload_n 1, 0, 0, 0), (.iaload, 0, 0, 0), (.iaload, 0, 0, 0), (.ifCond .le 16, 94, 0, 0)] (by decide +kernel) ?_
          simp only [e_is_3n, e_is_3I, e_is_3R, e_al_0, e_gf_6_7, e_gf_6_3, e_il_1, e_ia, e_if_le, rd_6_7, rd_6_3, ai_0_4, ai_1_7, ai_2_1, ai_2_2, ai_3_1, ai_4_1, ai_6_3, ai_6_4, ai_6_5, ai_6_6, ai_6_7, ai_6_8, ai_8_5, ai_8_6, ai_8_17, ai_8_21, ai_8_23, ai_8_24, ai_8_27, ai_8_28, ai_8_38, ai_8_39, ai_8_40, e_nil, nol_n, nol_I, nol_R, rsum_0, rsum_I, rsum_R, ps_s, ps_n, true_and, and_true, Nat.reduceAdd, Nat.reduceLeDiff, hi, hd2, bi_0, eA2, eB2, Bool.true_eq_false, hva, hxa, hvb, hxb, a4, a5, a7, b4, b5, b7, ea7, eb7, e44, hv4, hx4, p8, e8, hkv, ia3, true_implies, false_implies, not_true_eq_false, not_false_eq_true, hbw]
          refine ⟨fun c78 => ?_, fun c78 => ?_⟩
          · refine go_blk [(.iconst 0, 0, 0, 0), (.ireturn, 0, 0, 0)] (by decide +kernel) ?_
            simp only [e_ic_0, e_iret0, e_nil, nol_n, nol_I, nol_R, rsum_0, rsum_I, rsum_R, ps_s, ps_n, true_and, and_true, Nat.reduceAdd, Nat.reduceLeDiff, hi, hd2, bi_0, eA2, eB2, Bool.true_eq_false, hva, hxa, hvb, hxb, a4, a5, a7, b4, b5, b7, ea7, eb7, e44, hv4, hx4, p8, e8, hkv, ia3, true_implies, false_implies, not_true_eq_false, not_false_eq_true, hbw]
            exact h
          · refine go_blk [(.iload_n 3, 0, 0, 0), (.iconst (-1), 0, 0, 0), (.if_icmp .eq 11, 94, 0, 0)] (by decide +kernel) ?_
            simp only [e_il_3, e_ic_m1, e_icmp_eq, e_nil, nol_n, nol_I, nol_R, rsum_0, rsum_I, rsum_R, ps_s, ps_n, true_and, and_true, Nat.reduceAdd, Nat.reduceLeDiff, hi, hd2, bi_0, eA2, eB2, Bool.true_eq_false, hva, hxa, hvb, hxb, a4, a5, a7, b4, b5, b7, ea7, eb7, e44, hv4, hx4, p8, e8, hkv, ia3, true_implies, false_implies, not_true_eq_false, not_false_eq_true, hbw]
            refine go_blk [(.iconst 0, 0, 0, 0), (.ireturn, 0, 0, 0)] (by decide +kernel) ?_
            simp only [e_ic_0, e_iret0, e_nil, nol_n, nol_I, nol_R, rsum_0, rsum_I, rsum_R, ps_s, ps_n, true_and, and_true, Nat.reduceAdd, Nat.reduceLeDiff, hi, hd2, bi_0, eA2, eB2, Bool.true_eq_false, hva, hxa, hvb, hxb, a4, a5, a7, b4, b5, b7, ea7, eb7, e44, hv4, hx4, p8, e8, hkv, ia3, true_implies, false_implies, not_true_eq_false, not_false_eq_true, hbw]
            exact h
        · refine go_blk [(.iconst 0, 0, 0, 0), (.ireturn, 0, 0, 0)] (by decide +kernel) ?_
          simp only [e_ic_0, e_iret0, e_nil, nol_n, nol_I, nol_R, rsum_0, rsum_I, rsum_R, ps_s, ps_n, true_and, and_true, Nat.reduceAdd, Nat.reduceLeDiff, hi, hd2, bi_0, eA2, eB2, Bool.true_eq_false, hva, hxa, hvb, hxb, a4, a5, a7, b4, b5, b7, ea7, eb7, e44, hv4, hx4, p8, e8, hkv, ia3, true_implies, false_implies, not_true_eq_false, not_false_eq_true, hbw]
          exact h
  | true =>
    obtain ⟨hbw, hbl⟩ := hln1 hln
    have hn1 : (nI (btw (t 5 a) (t 5 b)) = -1) = False := eq_false (nI_nm1 (by omega))
    refine go_blk [(.aload_n 0, 0, 0, 0), (.iload_n 1, 0, 0, 0), (.invokevirtual 39, 60, 1, 6)] (by decide +kernel) ?_
    simp only [e_al_0, e_il_1, e_iv_6_1, e_nil, nol_n, nol_I, nol_R, rsum_0, rsum_I, rsum_R, ps_s, ps_n, true_and, and_true, Nat.reduceAdd, Nat.reduceLeDiff, hi, hd2, bi_0, eA2, eB2, Bool.true_eq_false, hva, hxa, hvb, hxb, a4, a5, a7, b4, b5, b7, ea7, eb7, e44, hv4, hx4, p8, e8, hkv, ia3, true_implies, false_implies, not_true_eq_false, not_false_eq_true, hbw, hn1]
    refine ok_has hi hT.1 ?_
    refine go_blk [(.ifCond .eq 44, 49, 0, 0)] (by decide +kernel) ?_
    simp only [e_if_eq, e_nil, nol_n, nol_I, nol_R, rsum_0, rsum_I, rsum_R, ps_s, ps_n, true_and, and_true, Nat.reduceAdd, Nat.reduceLeDiff, hi, hd2, bi_0, eA2, eB2, Bool.true_eq_false, hva, hxa, hvb, hxb, a4, a5, a7, b4, b5, b7, ea7, eb7, e44, hv4, hx4, p8, e8, hkv, ia3, true_implies, false_implies, not_true_eq_false, not_false_eq_true, hbw, hn1]
    refine go_blk [(.aload_n 0, 0, 0, 0), (.iload_n 2, 0, 0, 0), (.invokevirtual 39, 60, 1, 6)] (by decide +kernel) ?_
    simp only [e_al_0, e_il_2, e_iv_6_1, e_nil, nol_n, nol_I, nol_R, rsum_0, rsum_I, rsum_R, ps_s, ps_n, true_and, and_true, Nat.reduceAdd, Nat.reduceLeDiff, hi, hd2, bi_0, eA2, eB2, Bool.true_eq_false, hva, hxa, hvb, hxb, a4, a5, a7, b4, b5, b7, ea7, eb7, e44, hv4, hx4, p8, e8, hkv, ia3, true_implies, false_implies, not_true_eq_false, not_false_eq_true, hbw, hn1]
    refine ok_has hi hT.1 ?_
    refine go_blk [(.ifCond .eq 36, 49, 0, 0)] (by decide +kernel) ?_
    simp only [e_if_eq, e_nil, nol_n, nol_I, nol_R, rsum_0, rsum_I, rsum_R, ps_s, ps_n, true_and, and_true, Nat.reduceAdd, Nat.reduceLeDiff, hi, hd2, bi_0, eA2, eB2, Bool.true_eq_false, hva, hxa, hvb, hxb, a4, a5, a7, b4, b5, b7, ea7, eb7, e44, hv4, hx4, p8, e8, hkv, ia3, true_implies, false_implies, not_true_eq_false, not_false_eq_true, hbw, hn1]
    refine go_blk [(.aload_n 0, 0, 0, 0), (.getfield 28, 6, 6, 0), (.iload_n 1, 0, 0, 0), (.baload, 1, 0, 0), (.ifCond .eq 27, 49, 0, 0)] (by decide +kernel) ?_
    simp only [e_al_0, e_gf_6_6, e_il_1, e_za, e_if_eq, rd_6_6, ai_0_4, ai_1_7, ai_2_1, ai_2_2, ai_3_1, ai_4_1, ai_6_3, ai_6_4, ai_6_5, ai_6_6, ai_6_7, ai_6_8, ai_8_5, ai_8_6, ai_8_17, ai_8_21, ai_8_23, ai_8_24, ai_8_27, ai_8_28, ai_8_38, ai_8_39, ai_8_40, e_nil, nol_n, nol_I, nol_R, rsum_0, rsum_I, rsum_R, ps_s, ps_n, true_and, and_true, Nat.reduceAdd, Nat.reduceLeDiff, hi, hd2, bi_0, eA2, eB2, Bool.true_eq_false, hva, hxa, hvb, hxb, a4, a5, a7, b4, b5, b7, ea7, eb7, e44, hv4, hx4, p8, e8, hkv, ia3, true_implies, false_implies, not_true_eq_false, not_false_eq_true, hbw, hn1]
    refine ⟨fun c22 => ?_, fun c22 => ?_⟩
    · refine go_blk [(.iconst 0, 0, 0, 0), (.ireturn, 0, 0, 0)] (by decide +kernel) ?_
      simp only [e_ic_0, e_iret0, e_nil, nol_n, nol_I, nol_R, rsum_0, rsum_I, rsum_R, ps_s, ps_n, true_and, and_true, Nat.reduceAdd, Nat.reduceLeDiff, hi, hd2, bi_0, eA2, eB2, Bool.true_eq_false, hva, hxa, hvb, hxb, a4, a5, a7, b4, b5, b7, ea7, eb7, e44, hv4, hx4, p8, e8, hkv, ia3, true_implies, false_implies, not_true_eq_false, not_false_eq_true, hbw, hn1]
      have e0 : chS op t a b = 0 := by simp [chS, stn, c22]
      rw [e0] at h
      exact h
    · refine go_blk [(.aload_n 0, 0, 0, 0), (.getfield 28, 6, 6, 0), (.iload_n 2, 0, 0, 0), (.baload, 1, 0, 0), (.ifCond .eq 18, 49, 0, 0)] (by decide +kernel) ?_
      simp only [e_al_0, e_gf_6_6, e_il_2, e_za, e_if_eq, rd_6_6, ai_0_4, ai_1_7, ai_2_1, ai_2_2, ai_3_1, ai_4_1, ai_6_3, ai_6_4, ai_6_5, ai_6_6, ai_6_7, ai_6_8, ai_8_5, ai_8_6, ai_8_17, ai_8_21, ai_8_23, ai_8_24, ai_8_27, ai_8_28, ai_8_38, ai_8_39, ai_8_40, e_nil, nol_n, nol_I, nol_R, rsum_0, rsum_I, rsum_R, ps_s, ps_n, true_and, and_true, Nat.reduceAdd, Nat.reduceLeDiff, hi, hd2, bi_0, eA2, eB2, Bool.true_eq_false, hva, hxa, hvb, hxb, a4, a5, a7, b4, b5, b7, ea7, eb7, e44, hv4, hx4, p8, e8, hkv, ia3, true_implies, false_implies, not_true_eq_false, not_false_eq_true, hbw, hn1]
      refine ⟨fun c31 => ?_, fun c31 => ?_⟩
      · refine go_blk [(.iconst 0, 0, 0, 0), (.ireturn, 0, 0, 0)] (by decide +kernel) ?_
        simp only [e_ic_0, e_iret0, e_nil, nol_n, nol_I, nol_R, rsum_0, rsum_I, rsum_R, ps_s, ps_n, true_and, and_true, Nat.reduceAdd, Nat.reduceLeDiff, hi, hd2, bi_0, eA2, eB2, Bool.true_eq_false, hva, hxa, hvb, hxb, a4, a5, a7, b4, b5, b7, ea7, eb7, e44, hv4, hx4, p8, e8, hkv, ia3, true_implies, false_implies, not_true_eq_false, not_false_eq_true, hbw, hn1]
        have e0 : chS op t a b = 0 := by simp [chS, stn, c31]
        rw [e0] at h
        exact h
      · refine go_blk [(.aload_n 0, 0, 0, 0), (.getfield 19, 6, 3, 0), (.iload_n 1, 0, 0, 0), (.iaload, 0, 0, 0), (.aload_n 0, 0, 0, 0), (.getfield 19, 6, 3, 0), (.iload_n 2, 0, 0, 0), (.iaload, 0, 0, 0), (.if_icmp .ne 5, 51, 0, 0)] (by decide +kernel) ?_
        simp only [e_al_0, e_gf_6_3, e_il_1, e_ia, e_il_2, e_icmp_ne, rd_6_3, ai_0_4, ai_1_7, ai_2_1, ai_2_2, ai_3_1, ai_4_1, ai_6_3, ai_6_4, ai_6_5, ai_6_6, ai_6_7, ai_6_8, ai_8_5, ai_8_6, ai_8_17, ai_8_21, ai_8_23, ai_8_24, ai_8_27, ai_8_28, ai_8_38, ai_8_39, ai_8_40, e_nil, nol_n, nol_I, nol_R, rsum_0, rsum_I, rsum_R, ps_s, ps_n, true_and, and_true, Nat.reduceAdd, Nat.reduceLeDiff, hi, hd2, bi_0, eA2, eB2, Bool.true_eq_false, hva, hxa, hvb, hxb, a4, a5, a7, b4, b5, b7, ea7, eb7, e44, hv4, hx4, p8, e8, hkv, ia3, true_implies, false_implies, not_true_eq_false, not_false_eq_true, hbw, hn1]
        refine ⟨fun c46 => ?_, fun c46 => ?_⟩
        · refine go_blk [(.aload_n 0, 0, 0, 0), (.getfield 22, 6, 4, 0), (.iload_n 1, 0, 0, 0), (.iaload, 0, 0, 0), (.aload_n 0, 0, 0, 0), (.getfield 22, 6, 4, 0), (.iload_n 2, 0, 0, 0), (.iaload, 0, 0, 0), (.invokestatic 69, 28, 2, 0)] (by decide +kernel) ?_
          simp only [e_al_0, e_gf_6_4, e_il_1, e_ia, e_il_2, e_ivs_2, rd_6_4, ai_0_4, ai_1_7, ai_2_1, ai_2_2, ai_3_1, ai_4_1, ai_6_3, ai_6_4, ai_6_5, ai_6_6, ai_6_7, ai_6_8, ai_8_5, ai_8_6, ai_8_17, ai_8_21, ai_8_23, ai_8_24, ai_8_27, ai_8_28, ai_8_38, ai_8_39, ai_8_40, e_nil, Nat.reduceLT, nol_n, nol_I, nol_R, rsum_0, rsum_I, rsum_R, ps_s, ps_n, true_and, and_true, Nat.reduceAdd, Nat.reduceLeDiff, hi, hd2, bi_0, eA2, eB2, Bool.true_eq_false, hva, hxa, hvb, hxb, a4, a5, a7, b4, b5, b7, ea7, eb7, e44, hv4, hx4, p8, e8, hkv, ia3, true_implies, false_implies, not_true_eq_false, not_false_eq_true, hbw, hn1]
          refine ok_between ia5 ib5 (by omega) ?_
          refine go_blk [(.istore_n 3, 0, 0, 0), (.aload_n 0, 0, 0, 0), (.getfield 32, 6, 7, 0), (.aload_n 0, 0, 0, 0), (.getfield 19, 6, 3, 0), (.iload_n 1, 0, 0, 0), (.iaload, 0, 0, 0), (.iaload, 0, 0, 0), (.ifCond .le 16, 94, 0, 0)] (by decide +kernel) ?_
          simp only [e_is_3n, e_is_3I, e_is_3R, e_al_0, e_gf_6_7, e_gf_6_3, e_il_1, e_ia, e_if_le, rd_6_7, rd_6_3, ai_0_4, ai_1_7, ai_2_1, ai_2_2, ai_3_1, ai_4_1, ai_6_3, ai_6_4, ai_6_5, ai_6_6, ai_6_7, ai_6_8, ai_8_5, ai_8_6, ai_8_17, ai_8_21, ai_8_23, ai_8_24, ai_8_27, ai_8_28, ai_8_38, ai_8_39, ai_8_40, e_nil, nol_n, nol_I, nol_R, rsum_0, rsum_I, rsum_R, ps_s, ps_n, true_and, and_true, Nat.reduceAdd, Nat.reduceLeDiff, hi, hd2, bi_0, eA2, eB2, Bool.true_eq_false, hva, hxa, hvb, hxb, a4, a5, a7, b4, b5, b7, ea7, eb7, e44, hv4, hx4, p8, e8, hkv, ia3, true_implies, false_implies, not_true_eq_false, not_false_eq_true, hbw, hn1]
          refine ⟨fun c78 => ?_, fun c78 => ?_⟩
          · refine go_blk [(.iconst 0, 0, 0, 0), (.ireturn, 0, 0, 0)] (by decide +kernel) ?_
            simp only [e_ic_0, e_iret0, e_nil, nol_n, nol_I, nol_R, rsum_0, rsum_I, rsum_R, ps_s, ps_n, true_and, and_true, Nat.reduceAdd, Nat.reduceLeDiff, hi, hd2, bi_0, eA2, eB2, Bool.true_eq_false, hva, hxa, hvb, hxb, a4, a5, a7, b4, b5, b7, ea7, eb7, e44, hv4, hx4, p8, e8, hkv, ia3, true_implies, false_implies, not_true_eq_false, not_false_eq_true, hbw, hn1]
            have e0 : chS op t a b = 0 := by simp [chS, stn, c78]
            rw [e0] at h
            exact h
          · refine go_blk [(.iload_n 3, 0, 0, 0), (.iconst (-1), 0, 0, 0), (.if_icmp .eq 11, 94, 0, 0)] (by decide +kernel) ?_
            simp only [e_il_3, e_ic_m1, e_icmp_eq, e_nil, nol_n, nol_I, nol_R, rsum_0, rsum_I, rsum_R, ps_s, ps_n, true_and, and_true, Nat.reduceAdd, Nat.reduceLeDiff, hi, hd2, bi_0, eA2, eB2, Bool.true_eq_false, hva, hxa, hvb, hxb, a4, a5, a7, b4, b5, b7, ea7, eb7, e44, hv4, hx4, p8, e8, hkv, ia3, true_implies, false_implies, not_true_eq_false, not_false_eq_true, hbw, hn1]
            refine go_blk [(.aload_n 0, 0, 0, 0), (.iload_n 3, 0, 0, 0), (.invokevirtual 74, 70, 1, 6)] (by decide +kernel) ?_
            simp only [e_al_0, e_il_3, e_iv_6_1, e_nil, nol_n, nol_I, nol_R, rsum_0, rsum_I, rsum_R, ps_s, ps_n, true_and, and_true, Nat.reduceAdd, Nat.reduceLeDiff, hi, hd2, bi_0, eA2, eB2, Bool.true_eq_false, hva, hxa, hvb, hxb, a4, a5, a7, b4, b5, b7, ea7, eb7, e44, hv4, hx4, p8, e8, hkv, ia3, true_implies, false_implies, not_true_eq_false, not_false_eq_true, hbw, hn1]
            refine ok_isBlocked hi hT hI hbl ho (by omega) ?_
            refine go_blk [(.ifCond .eq 5, 96, 0, 0)] (by decide +kernel) ?_
            simp only [e_if_eq, e_nil, nol_n, nol_I, nol_R, rsum_0, rsum_I, rsum_R, ps_s, ps_n, true_and, and_true, Nat.reduceAdd, Nat.reduceLeDiff, hi, hd2, bi_0, eA2, eB2, Bool.true_eq_false, hva, hxa, hvb, hxb, a4, a5, a7, b4, b5, b7, ea7, eb7, e44, hv4, hx4, p8, e8, hkv, ia3, true_implies, false_implies, not_true_eq_false, not_false_eq_true, hbw, hn1]
            refine ⟨fun c91 => ?_, fun c91 => ?_⟩
            · refine go_blk [(.aload_n 0, 0, 0, 0), (.iload_n 1, 0, 0, 0), (.invokevirtual 77, 61, 1, 6)] (by decide +kernel) ?_
              simp only [e_al_0, e_il_1, e_iv_6_1, e_nil, nol_n, nol_I, nol_R, rsum_0, rsum_I, rsum_R, ps_s, ps_n, true_and, and_true, Nat.reduceAdd, Nat.reduceLeDiff, hi, hd2, bi_0, eA2, eB2, Bool.true_eq_false, hva, hxa, hvb, hxb, a4, a5, a7, b4, b5, b7, ea7, eb7, e44, hv4, hx4, p8, e8, hkv, ia3, true_implies, false_implies, not_true_eq_false, not_false_eq_true, hbw, hn1]
              refine ok_kindOf hi hT hn hA ia3 (by omega) ?_
              refine go_blk [(.getfield 81, 9, 1, 0), (.aload_n 0, 0, 0, 0), (.getfield 22, 6, 4, 0), (.iload_n 1, 0, 0, 0), (.iaload, 0, 0, 0), (.aload_n 0, 0, 0, 0), (.getfield 22, 6, 4, 0), (.iload_n 2, 0, 0, 0), (.iaload, 0, 0, 0), (.invokestatic 84, 26, 2, 0)] (by decide +kernel) ?_
              simp only [e_gk_1, e_al_0, e_gf_6_4, e_il_1, e_ia, e_il_2, e_ivs_2, rd_6_4, ai_0_4, ai_1_7, ai_2_1, ai_2_2, ai_3_1, ai_4_1, ai_6_3, ai_6_4, ai_6_5, ai_6_6, ai_6_7, ai_6_8, ai_8_5, ai_8_6, ai_8_17, ai_8_21, ai_8_23, ai_8_24, ai_8_27, ai_8_28, ai_8_38, ai_8_39, ai_8_40, e_nil, Nat.reduceLT, nol_n, nol_I, nol_R, rsum_0, rsum_I, rsum_R, ps_s, ps_n, true_and, and_true, Nat.reduceAdd, Nat.reduceLeDiff, hi, hd2, bi_0, eA2, eB2, Bool.true_eq_false, hva, hxa, hvb, hxb, a4, a5, a7, b4, b5, b7, ea7, eb7, e44, hv4, hx4, p8, e8, hkv, ia3, true_implies, false_implies, not_true_eq_false, not_false_eq_true, hbw, hn1]
              refine ok_distance ia5 ib5 (by omega) ?_
              refine go_blk [(.imul, 0, 0, 0), (.istore 4, 0, 0, 0), (.aload_n 0, 0, 0, 0), (.getfield 35, 6, 0, 0), (.aload_n 0, 0, 0, 0), (.getfield 22, 6, 4, 0), (.iload_n 2, 0, 0, 0), (.iaload, 0, 0, 0), (.invokevirtual 87, 7, 1, 0)] (by decide +kernel) ?_
              simp only [e_imul, e_isw_4n, e_isw_4I, e_isw_4R, e_al_0, e_gf_6_0, e_gf_6_4, e_il_2, e_ia, e_iv_0_1, rd_6_0, rd_6_4, ai_0_4, ai_1_7, ai_2_1, ai_2_2, ai_3_1, ai_4_1, ai_6_3, ai_6_4, ai_6_5, ai_6_6, ai_6_7, ai_6_8, ai_8_5, ai_8_6, ai_8_17, ai_8_21, ai_8_23, ai_8_24, ai_8_27, ai_8_28, ai_8_38, ai_8_39, ai_8_40, e_nil, nol_n, nol_I, nol_R, rsum_0, rsum_I, rsum_R, ps_s, ps_n, true_and, and_true, Nat.reduceAdd, Nat.reduceLeDiff, hi, hd2, bi_0, eA2, eB2, Bool.true_eq_false, hva, hxa, hvb, hxb, a4, a5, a7, b4, b5, b7, ea7, eb7, e44, hv4, hx4, p8, e8, hkv, ia3, true_implies, false_implies, not_true_eq_false, not_false_eq_true, hbw, hn1]
              refine ok_hasCoverAround hbs hbb ib5 ?_
              refine go_blk [(.ifCond .eq 6, 141, 0, 0)] (by decide +kernel) ?_
              simp only [e_if_eq, e_nil, nol_n, nol_I, nol_R, rsum_0, rsum_I, rsum_R, ps_s, ps_n, true_and, and_true, Nat.reduceAdd, Nat.reduceLeDiff, hi, hd2, bi_0, eA2, eB2, Bool.true_eq_false, hva, hxa, hvb, hxb, a4, a5, a7, b4, b5, b7, ea7, eb7, e44, hv4, hx4, p8, e8, hkv, ia3, true_implies, false_implies, not_true_eq_false, not_false_eq_true, hbw, hn1]
              refine ⟨fun c135 => ?_, fun c135 => ?_⟩
              · refine go_blk [(.iconst 1, 0, 0, 0), (.bipush 10, 0, 0, 0), (.iload 4, 0, 0, 0), (.isub, 0, 0, 0), (.invokestatic 90, 1001, 0, 0), (.ireturn, 0, 0, 0)] (by decide +kernel) ?_
                simp only [e_ic_1, e_bp_10, e_ilw_4, e_isub, e_mt_1, e_iret0, e_nil, nol_n, nol_I, nol_R, rsum_0, rsum_I, rsum_R, ps_s, ps_n, true_and, and_true, Nat.reduceAdd, Nat.reduceLeDiff, hi, hd2, bi_0, eA2, eB2, Bool.true_eq_false, hva, hxa, hvb, hxb, a4, a5, a7, b4, b5, b7, ea7, eb7, e44, hv4, hx4, p8, e8, hkv, ia3, true_implies, false_implies, not_true_eq_false, not_false_eq_true, hbw, hn1]
                have ec : chS op t a b = max 1 (10 - (lsK (t 3 a) * dst (t 5 a) (t 5 b) + (if (bsd op).testBit (t 5 b) then 2 else 0))) := by simp_all [chS, stn]
                rw [ec] at h
                simp only [c135, if_true, if_false, Bool.false_eq_true] at h
                first | (rw [hls.1]; exact h) | (rw [hls.2]; exact h)
              · refine go_blk [(.iinc 4 2, 0, 0, 0), (.iconst 1, 0, 0, 0), (.bipush 10, 0, 0, 0), (.iload 4, 0, 0, 0), (.isub, 0, 0, 0), (.invokestatic 90, 1001, 0, 0), (.ireturn, 0, 0, 0)] (by decide +kernel) ?_
                simp only [e_inc_4_2n, e_inc_4_2I, e_inc_4_2R, e_ic_1, e_bp_10, e_ilw_4, e_isub, e_mt_1, e_iret0, e_nil, nol_n, nol_I, nol_R, rsum_0, rsum_I, rsum_R, ps_s, ps_n, true_and, and_true, Nat.reduceAdd, Nat.reduceLeDiff, hi, hd2, bi_0, eA2, eB2, Bool.true_eq_false, hva, hxa, hvb, hxb, a4, a5, a7, b4, b5, b7, ea7, eb7, e44, hv4, hx4, p8, e8, hkv, ia3, true_implies, false_implies, not_true_eq_false, not_false_eq_true, hbw, hn1]
                have ec : chS op t a b = max 1 (10 - (lsK (t 3 a) * dst (t 5 a) (t 5 b) + (if (bsd op).testBit (t 5 b) then 2 else 0))) := by simp_all [chS, stn]
                rw [ec] at h
                simp only [c135, if_true, if_false, Bool.false_eq_true] at h
                first | (rw [hls.1]; exact h) | (rw [hls.2]; exact h)
            · refine go_blk [(.iconst 0, 0, 0, 0), (.ireturn, 0, 0, 0)] (by decide +kernel) ?_
              simp only [e_ic_0, e_iret0, e_nil, nol_n, nol_I, nol_R, rsum_0, rsum_I, rsum_R, ps_s, ps_n, true_and, and_true, Nat.reduceAdd, Nat.reduceLeDiff, hi, hd2, bi_0, eA2, eB2, Bool.true_eq_false, hva, hxa, hvb, hxb, a4, a5, a7, b4, b5, b7, ea7, eb7, e44, hv4, hx4, p8, e8, hkv, ia3, true_implies, false_implies, not_true_eq_false, not_false_eq_true, hbw, hn1]
              have e0 : chS op t a b = 0 := by simp [chS, stn, c91]
              rw [e0] at h
              exact h
        · refine go_blk [(.iconst 0, 0, 0, 0), (.ireturn, 0, 0, 0)] (by decide +kernel) ?_
          simp only [e_ic_0, e_iret0, e_nil, nol_n, nol_I, nol_R, rsum_0, rsum_I, rsum_R, ps_s, ps_n, true_and, and_true, Nat.reduceAdd, Nat.reduceLeDiff, hi, hd2, bi_0, eA2, eB2, Bool.true_eq_false, hva, hxa, hvb, hxb, a4, a5, a7, b4, b5, b7, ea7, eb7, e44, hv4, hx4, p8, e8, hkv, ia3, true_implies, false_implies, not_true_eq_false, not_false_eq_true, hbw, hn1]
          have e0 : chS op t a b = 0 := by simp [chS, stn, c46]
          rw [e0] at h
          exact h
