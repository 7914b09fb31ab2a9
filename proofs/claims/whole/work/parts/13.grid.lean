def sg (x : Int32) : Int32 := if x = 0 then 0 else if 0 ≤ x then 1 else -1
def bi (b : Bool) : Int32 := if b then 1 else 0
theorem bi_t : bi true = 1 := rfl
theorem bi_f : bi false = 0 := rfl
theorem bi_0 (b : Bool) : (bi b = 0) = (b = false) := by cases b <;> simp [bi]
theorem bi_1 (b : Bool) : (bi b = 1) = (b = true) := by cases b <;> simp [bi]
theorem bi_01 (b : Bool) : bi b = 0 ∨ bi b = 1 := by cases b <;> simp [bi]
def rwI (x : Int32) : Int32 := x / 5
def clI (x : Int32) : Int32 := x - x / 5 * 5
/-- the grid, in plain numbers -/
def dst (a b : Nat) : Nat := max (max (a / 5) (b / 5) - min (a / 5) (b / 5)) (max (a % 5) (b % 5) - min (a % 5) (b % 5))
def lne (a b : Nat) : Bool := a != b && (a / 5 == b / 5 || a % 5 == b % 5 || (max (a / 5) (b / 5) - min (a / 5) (b / 5)) == (max (a % 5) (b % 5) - min (a % 5) (b % 5)))
/-- the cell k steps from a towards b: 99 if it isn't there -/
def onw (a b k : Nat) : Nat :=
  let r := if a / 5 < b / 5 then a / 5 + k else if b / 5 < a / 5 then (if k ≤ a / 5 then a / 5 - k else 99) else a / 5
  let c := if a % 5 < b % 5 then a % 5 + k else if b % 5 < a % 5 then (if k ≤ a % 5 then a % 5 - k else 99) else a % 5
  if r < 3 ∧ c < 5 then 5 * r + c else 99
def btS (a b : Nat) : Nat → Nat
  | 0 => 0
  | k + 1 => btS a b k ||| (if k = 0 then 0 else 2 ^ onw a b k)
/-- the cells between, as bits -/
def btw (a b : Nat) : Nat := btS a b (dst a b)
def dgn (a b : Nat) : Bool := a / 5 != b / 5 && a % 5 != b % 5
def dnI (a b : Nat) : Int32 := rwI (nI b) - rwI (nI a)
def rtI (a b : Nat) : Int32 := clI (nI b) - clI (nI a)
def bwF (x st : Int32) : Nat → Nat → Int32 → Int32
  | 0, _, bits => bits
  | k + 1, s, bits => bwF x st k (s + 1) (bits ||| (1 <<< ((x + nI s * st) &&& 31)))
theorem g_dst : ∀ a, a < 15 → ∀ b, b < 15 → mxI (abI (dnI a b)) (abI (rtI a b)) = nI (dst a b) ∧ dst a b < 5 := by decide +kernel
theorem g_dg : ∀ a, a < 15 → ∀ b, b < 15 → (decide (¬ sg (dnI a b) = 0 ∧ ¬ sg (rtI a b) = 0)) = dgn a b := by decide +kernel
theorem g_nl : ∀ a, a < 15 → ∀ b, b < 15 → (nI a = nI b ∨ (¬ dnI a b = 0 ∧ ¬ rtI a b = 0 ∧ ¬ abI (dnI a b) = abI (rtI a b))) → lne a b = false := by decide +kernel
theorem g_ln : ∀ a, a < 15 → ∀ b, b < 15 → (¬ nI a = nI b ∧ (dnI a b = 0 ∨ rtI a b = 0 ∨ abI (dnI a b) = abI (rtI a b))) → lne a b = true ∧ 1 ≤ dst a b ∧ bwF (nI a) (5 * sg (dnI a b) + sg (rtI a b)) (dst a b - 1) 1 0 = nI (btw a b) := by decide +kernel
def bwI (a b : Nat) : Int32 := if lne a b then nI (btw a b) else -1
theorem ok_rowOf {l : Launch} {K : KK} {d : Nat} {μ : Mm} {P : Option AV → Mm → Prop} {x : Int32} (h : P (some (vI (rwI x))) μ) : Ok l K d 21 [vI x] μ P := by
  refine ok_go 1 (by decide +kernel) [some (vI x)] rfl (Nat.le_of_ble_eq_true rfl) ?_
  refine go_blk [(.iload_n 0, 0, 0, 0), (.iconst 5, 0, 0, 0), (.idiv, 0, 0, 0), (.ireturn, 0, 0, 0)] (by decide +kernel) ?_
  simp only [e_il_0, e_ic_5, e_idiv, e_iret0, e_nil, nol_n, nol_I, nol_R, rsum_0, rsum_I, rsum_R, ps_s, ps_n, true_and, and_true, Nat.reduceAdd, Nat.reduceLeDiff]
  exact ⟨by decide, h⟩
theorem ok_columnOf {l : Launch} {K : KK} {d : Nat} {μ : Mm} {P : Option AV → Mm → Prop} {x : Int32} (h : P (some (vI (clI x))) μ) : Ok l K d 22 [vI x] μ P := by
  refine ok_go 1 (by decide +kernel) [some (vI x)] rfl (Nat.le_of_ble_eq_true rfl) ?_
  refine go_blk [(.iload_n 0, 0, 0, 0), (.iconst 5, 0, 0, 0), (.irem, 0, 0, 0), (.ireturn, 0, 0, 0)] (by decide +kernel) ?_
  simp only [e_il_0, e_ic_5, e_irem, e_iret0, e_nil, nol_n, nol_I, nol_R, rsum_0, rsum_I, rsum_R, ps_s, ps_n, true_and, and_true, Nat.reduceAdd, Nat.reduceLeDiff]
  exact ⟨by decide, h⟩
theorem ok_signOf {l : Launch} {K : KK} {d : Nat} {μ : Mm} {P : Option AV → Mm → Prop} {x : Int32} (h : P (some (vI (sg x))) μ) : Ok l K d 29 [vI x] μ P := by
  refine ok_go 1 (by decide +kernel) [some (vI x)] rfl (Nat.le_of_ble_eq_true rfl) ?_
  refine go_blk [(.iload_n 0, 0, 0, 0), (.ifCond .ne 5, 6, 0, 0)] (by decide +kernel) ?_
  simp only [e_il_0, e_if_ne, e_nil, nol_n, nol_I, nol_R, rsum_0, rsum_I, rsum_R, ps_s, ps_n, true_and, and_true, Nat.reduceAdd, Nat.reduceLeDiff]
  refine ⟨fun c1 => ?_, fun c1 => ?_⟩
  · refine go_blk [(.iload_n 0, 0, 0, 0), (.ifCond .ge 7, 14, 0, 0)] (by decide +kernel) ?_
    simp only [e_il_0, e_if_ge, e_nil, nol_n, nol_I, nol_R, rsum_0, rsum_I, rsum_R, ps_s, ps_n, true_and, and_true, Nat.reduceAdd, Nat.reduceLeDiff]
    refine ⟨fun c7 => ?_, fun c7 => ?_⟩
    · refine go_blk [(.iconst 1, 0, 0, 0), (.ireturn, 0, 0, 0)] (by decide +kernel) ?_
      simp only [e_ic_1, e_iret0, e_nil, nol_n, nol_I, nol_R, rsum_0, rsum_I, rsum_R, ps_s, ps_n, true_and, and_true, Nat.reduceAdd, Nat.reduceLeDiff]
      simp_all [sg]
    · refine go_blk [(.iconst (-1), 0, 0, 0), (.goto 4, 15, 0, 0), (.ireturn, 0, 0, 0)] (by decide +kernel) ?_
      simp only [e_ic_m1, e_goto, e_iret0, e_nil, nol_n, nol_I, nol_R, rsum_0, rsum_I, rsum_R, ps_s, ps_n, true_and, and_true, Nat.reduceAdd, Nat.reduceLeDiff]
      simp_all [sg]
  · refine go_blk [(.iconst 0, 0, 0, 0), (.ireturn, 0, 0, 0)] (by decide +kernel) ?_
    simp only [e_ic_0, e_iret0, e_nil, nol_n, nol_I, nol_R, rsum_0, rsum_I, rsum_R, ps_s, ps_n, true_and, and_true, Nat.reduceAdd, Nat.reduceLeDiff]
    simp_all [sg]
theorem ok_rowStep {l : Launch} {K : KK} {d : Nat} {μ : Mm} {P : Option AV → Mm → Prop} {a b : Nat} (hd1 : 1 ≤ d) (h : P (some (vI (sg (dnI a b)))) μ) : Ok l K d 24 [vI (nI a), vI (nI b)] μ P := by
  refine ok_go 2 (by decide +kernel) [some (vI (nI a)), some (vI (nI b))] rfl (Nat.le_of_ble_eq_true rfl) ?_
  refine go_blk [(.iload_n 1, 0, 0, 0), (.invokestatic 9, 21, 1, 0)] (by decide +kernel) ?_
  simp only [e_il_1, e_ivs_1, e_nil, Nat.reduceLT, nol_n, nol_I, nol_R, rsum_0, rsum_I, rsum_R, ps_s, ps_n, true_and, and_true, Nat.reduceAdd, Nat.reduceLeDiff, hd1]
  refine ok_rowOf ?_
  refine go_blk [(.iload_n 0, 0, 0, 0), (.invokestatic 9, 21, 1, 0)] (by decide +kernel) ?_
  simp only [e_il_0, e_ivs_1, e_nil, Nat.reduceLT, nol_n, nol_I, nol_R, rsum_0, rsum_I, rsum_R, ps_s, ps_n, true_and, and_true, Nat.reduceAdd, Nat.reduceLeDiff, hd1]
  refine ok_rowOf ?_
  refine go_blk [(.isub, 0, 0, 0), (.invokestatic 15, 29, 1, 0)] (by decide +kernel) ?_
  simp only [e_isub, e_ivs_1, e_nil, Nat.reduceLT, nol_n, nol_I, nol_R, rsum_0, rsum_I, rsum_R, ps_s, ps_n, true_and, and_true, Nat.reduceAdd, Nat.reduceLeDiff, hd1]
  refine ok_signOf ?_
  refine go_blk [(.ireturn, 0, 0, 0)] (by decide +kernel) ?_
  simp only [e_iret0, e_nil, nol_n, nol_I, nol_R, rsum_0, rsum_I, rsum_R, ps_s, ps_n, true_and, and_true, Nat.reduceAdd, Nat.reduceLeDiff, hd1]
  exact h
theorem ok_columnStep {l : Launch} {K : KK} {d : Nat} {μ : Mm} {P : Option AV → Mm → Prop} {a b : Nat} (hd1 : 1 ≤ d) (h : P (some (vI (sg (rtI a b)))) μ) : Ok l K d 25 [vI (nI a), vI (nI b)] μ P := by
  refine ok_go 2 (by decide +kernel) [some (vI (nI a)), some (vI (nI b))] rfl (Nat.le_of_ble_eq_true rfl) ?_
  refine go_blk [(.iload_n 1, 0, 0, 0), (.invokestatic 18, 22, 1, 0)] (by decide +kernel) ?_
  simp only [e_il_1, e_ivs_1, e_nil, Nat.reduceLT, nol_n, nol_I, nol_R, rsum_0, rsum_I, rsum_R, ps_s, ps_n, true_and, and_true, Nat.reduceAdd, Nat.reduceLeDiff, hd1]
  refine ok_columnOf ?_
  refine go_blk [(.iload_n 0, 0, 0, 0), (.invokestatic 18, 22, 1, 0)] (by decide +kernel) ?_
  simp only [e_il_0, e_ivs_1, e_nil, Nat.reduceLT, nol_n, nol_I, nol_R, rsum_0, rsum_I, rsum_R, ps_s, ps_n, true_and, and_true, Nat.reduceAdd, Nat.reduceLeDiff, hd1]
  refine ok_columnOf ?_
  refine go_blk [(.isub, 0, 0, 0), (.invokestatic 15, 29, 1, 0)] (by decide +kernel) ?_
  simp only [e_isub, e_ivs_1, e_nil, Nat.reduceLT, nol_n, nol_I, nol_R, rsum_0, rsum_I, rsum_R, ps_s, ps_n, true_and, and_true, Nat.reduceAdd, Nat.reduceLeDiff, hd1]
  refine ok_signOf ?_
  refine go_blk [(.ireturn, 0, 0, 0)] (by decide +kernel) ?_
  simp only [e_iret0, e_nil, nol_n, nol_I, nol_R, rsum_0, rsum_I, rsum_R, ps_s, ps_n, true_and, and_true, Nat.reduceAdd, Nat.reduceLeDiff, hd1]
  exact h
theorem ok_isInside {l : Launch} {K : KK} {d : Nat} {μ : Mm} {P : Option AV → Mm → Prop} {x y : Int32} (h : P (some (vI (bi (decide (¬ x < 0 ∧ ¬ 3 ≤ x ∧ ¬ y < 0 ∧ ¬ 5 ≤ y))))) μ) : Ok l K d 23 [vI x, vI y] μ P := by
  refine ok_go 2 (by decide +kernel) [some (vI x), some (vI y)] rfl (Nat.le_of_ble_eq_true rfl) ?_
  refine go_blk [(.iload_n 0, 0, 0, 0), (.ifCond .lt 21, 22, 0, 0)] (by decide +kernel) ?_
  simp only [e_il_0, e_if_lt, e_nil, nol_n, nol_I, nol_R, rsum_0, rsum_I, rsum_R, ps_s, ps_n, true_and, and_true, Nat.reduceAdd, Nat.reduceLeDiff]
  refine ⟨fun c1 => ?_, fun c1 => ?_⟩
  · refine go_blk [(.iconst 0, 0, 0, 0), (.ireturn, 1, 0, 0)] (by decide +kernel) ?_
    simp only [e_ic_0, e_iret1, e_nil, nol_n, nol_I, nol_R, rsum_0, rsum_I, rsum_R, ps_s, ps_n, true_and, and_true, Nat.reduceAdd, Nat.reduceLeDiff]
    refine ⟨by decide, ?_⟩
    simp_all [bi]
  · refine go_blk [(.iload_n 0, 0, 0, 0), (.iconst 3, 0, 0, 0), (.if_icmp .ge 16, 22, 0, 0)] (by decide +kernel) ?_
    simp only [e_il_0, e_ic_3, e_icmp_ge, e_nil, nol_n, nol_I, nol_R, rsum_0, rsum_I, rsum_R, ps_s, ps_n, true_and, and_true, Nat.reduceAdd, Nat.reduceLeDiff]
    refine ⟨fun c6 => ?_, fun c6 => ?_⟩
    · refine go_blk [(.iconst 0, 0, 0, 0), (.ireturn, 1, 0, 0)] (by decide +kernel) ?_
      simp only [e_ic_0, e_iret1, e_nil, nol_n, nol_I, nol_R, rsum_0, rsum_I, rsum_R, ps_s, ps_n, true_and, and_true, Nat.reduceAdd, Nat.reduceLeDiff]
      refine ⟨by decide, ?_⟩
      simp_all [bi]
    · refine go_blk [(.iload_n 1, 0, 0, 0), (.ifCond .lt 12, 22, 0, 0)] (by decide +kernel) ?_
      simp only [e_il_1, e_if_lt, e_nil, nol_n, nol_I, nol_R, rsum_0, rsum_I, rsum_R, ps_s, ps_n, true_and, and_true, Nat.reduceAdd, Nat.reduceLeDiff]
      refine ⟨fun c10 => ?_, fun c10 => ?_⟩
      · refine go_blk [(.iconst 0, 0, 0, 0), (.ireturn, 1, 0, 0)] (by decide +kernel) ?_
        simp only [e_ic_0, e_iret1, e_nil, nol_n, nol_I, nol_R, rsum_0, rsum_I, rsum_R, ps_s, ps_n, true_and, and_true, Nat.reduceAdd, Nat.reduceLeDiff]
        refine ⟨by decide, ?_⟩
        simp_all [bi]
      · refine go_blk [(.iload_n 1, 0, 0, 0), (.iconst 5, 0, 0, 0), (.if_icmp .ge 7, 22, 0, 0)] (by decide +kernel) ?_
        simp only [e_il_1, e_ic_5, e_icmp_ge, e_nil, nol_n, nol_I, nol_R, rsum_0, rsum_I, rsum_R, ps_s, ps_n, true_and, and_true, Nat.reduceAdd, Nat.reduceLeDiff]
        refine ⟨fun c15 => ?_, fun c15 => ?_⟩
        · refine go_blk [(.iconst 0, 0, 0, 0), (.ireturn, 1, 0, 0)] (by decide +kernel) ?_
          simp only [e_ic_0, e_iret1, e_nil, nol_n, nol_I, nol_R, rsum_0, rsum_I, rsum_R, ps_s, ps_n, true_and, and_true, Nat.reduceAdd, Nat.reduceLeDiff]
          refine ⟨by decide, ?_⟩
          simp_all [bi]
        · refine go_blk [(.iconst 1, 0, 0, 0), (.goto 4, 23, 0, 0), (.ireturn, 1, 0, 0)] (by decide +kernel) ?_
          simp only [e_ic_1, e_goto, e_iret1, e_nil, nol_n, nol_I, nol_R, rsum_0, rsum_I, rsum_R, ps_s, ps_n, true_and, and_true, Nat.reduceAdd, Nat.reduceLeDiff]
          refine ⟨by decide, ?_⟩
          simp_all [bi]
theorem ok_distance {l : Launch} {K : KK} {d : Nat} {μ : Mm} {P : Option AV → Mm → Prop} {a b : Nat} (ha : a < 15) (hb : b < 15) (hd1 : 1 ≤ d) (h : P (some (vI (nI (dst a b)))) μ) : Ok l K d 26 [vI (nI a), vI (nI b)] μ P := by
  refine ok_go 4 (by decide +kernel) [some (vI (nI a)), some (vI (nI b)), none, none] rfl (Nat.le_of_ble_eq_true rfl) ?_
  refine go_blk [(.iload_n 1, 0, 0, 0), (.invokestatic 9, 21, 1, 0)] (by decide +kernel) ?_
  simp only [e_il_1, e_ivs_1, e_nil, Nat.reduceLT, nol_n, nol_I, nol_R, rsum_0, rsum_I, rsum_R, ps_s, ps_n, true_and, and_true, Nat.reduceAdd, Nat.reduceLeDiff, hd1]
  refine ok_rowOf ?_
  refine go_blk [(.iload_n 0, 0, 0, 0), (.invokestatic 9, 21, 1, 0)] (by decide +kernel) ?_
  simp only [e_il_0, e_ivs_1, e_nil, Nat.reduceLT, nol_n, nol_I, nol_R, rsum_0, rsum_I, rsum_R, ps_s, ps_n, true_and, and_true, Nat.reduceAdd, Nat.reduceLeDiff, hd1]
  refine ok_rowOf ?_
  refine go_blk [(.isub, 0, 0, 0), (.invokestatic 21, 1000, 0, 0), (.istore_n 2, 0, 0, 0), (.iload_n 1, 0, 0, 0), (.invokestatic 18, 22, 1, 0)] (by decide +kernel) ?_
  simp only [e_isub, e_mt_0, e_is_2n, e_is_2I, e_is_2R, e_il_1, e_ivs_1, e_nil, Nat.reduceLT, nol_n, nol_I, nol_R, rsum_0, rsum_I, rsum_R, ps_s, ps_n, true_and, and_true, Nat.reduceAdd, Nat.reduceLeDiff, hd1]
  refine ok_columnOf ?_
  refine go_blk [(.iload_n 0, 0, 0, 0), (.invokestatic 18, 22, 1, 0)] (by decide +kernel) ?_
  simp only [e_il_0, e_ivs_1, e_nil, Nat.reduceLT, nol_n, nol_I, nol_R, rsum_0, rsum_I, rsum_R, ps_s, ps_n, true_and, and_true, Nat.reduceAdd, Nat.reduceLeDiff, hd1]
  refine ok_columnOf ?_
  refine go_blk [(.isub, 0, 0, 0), (.invokestatic 21, 1000, 0, 0), (.istore_n 3, 0, 0, 0), (.iload_n 2, 0, 0, 0), (.iload_n 3, 0, 0, 0), (.invokestatic 26, 1001, 0, 0), (.ireturn, 0, 0, 0)] (by decide +kernel) ?_
  simp only [e_isub, e_mt_0, e_is_3n, e_is_3I, e_is_3R, e_il_2, e_il_3, e_mt_1, e_iret0, e_nil, nol_n, nol_I, nol_R, rsum_0, rsum_I, rsum_R, ps_s, ps_n, true_and, and_true, Nat.reduceAdd, Nat.reduceLeDiff, hd1]
  rw [← (g_dst a ha b hb).1] at h
  exact h
theorem ok_isDiagonal {l : Launch} {K : KK} {d : Nat} {μ : Mm} {P : Option AV → Mm → Prop} {a b : Nat} (ha : a < 15) (hb : b < 15) (hd1 : 2 ≤ d) (h : P (some (vI (bi (dgn a b)))) μ) : Ok l K d 27 [vI (nI a), vI (nI b)] μ P := by
  refine ok_go 2 (by decide +kernel) [some (vI (nI a)), some (vI (nI b))] rfl (Nat.le_of_ble_eq_true rfl) ?_
  have hd2 : 1 ≤ d := by omega
  rw [← g_dg a ha b hb] at h
  refine go_blk [(.iload_n 0, 0, 0, 0), (.iload_n 1, 0, 0, 0), (.invokestatic 30, 24, 2, 0)] (by decide +kernel) ?_
  simp only [e_il_0, e_il_1, e_ivs_2, e_nil, Nat.reduceLT, nol_n, nol_I, nol_R, rsum_0, rsum_I, rsum_R, ps_s, ps_n, true_and, and_true, Nat.reduceAdd, Nat.reduceLeDiff, hd1, hd2]
  refine ok_rowStep (by omega) ?_
  refine go_blk [(.ifCond .eq 15, 20, 0, 0)] (by decide +kernel) ?_
  simp only [e_if_eq, e_nil, nol_n, nol_I, nol_R, rsum_0, rsum_I, rsum_R, ps_s, ps_n, true_and, and_true, Nat.reduceAdd, Nat.reduceLeDiff, hd1, hd2]
  refine ⟨fun c5 => ?_, fun c5 => ?_⟩
  · refine go_blk [(.iconst 0, 0, 0, 0), (.ireturn, 1, 0, 0)] (by decide +kernel) ?_
    simp only [e_ic_0, e_iret1, e_nil, nol_n, nol_I, nol_R, rsum_0, rsum_I, rsum_R, ps_s, ps_n, true_and, and_true, Nat.reduceAdd, Nat.reduceLeDiff, hd1, hd2]
    refine ⟨by decide, ?_⟩
    simp_all [bi]
  · refine go_blk [(.iload_n 0, 0, 0, 0), (.iload_n 1, 0, 0, 0), (.invokestatic 33, 25, 2, 0)] (by decide +kernel) ?_
    simp only [e_il_0, e_il_1, e_ivs_2, e_nil, Nat.reduceLT, nol_n, nol_I, nol_R, rsum_0, rsum_I, rsum_R, ps_s, ps_n, true_and, and_true, Nat.reduceAdd, Nat.reduceLeDiff, hd1, hd2]
    refine ok_columnStep (by omega) ?_
    refine go_blk [(.ifCond .eq 7, 20, 0, 0)] (by decide +kernel) ?_
    simp only [e_if_eq, e_nil, nol_n, nol_I, nol_R, rsum_0, rsum_I, rsum_R, ps_s, ps_n, true_and, and_true, Nat.reduceAdd, Nat.reduceLeDiff, hd1, hd2]
    refine ⟨fun c13 => ?_, fun c13 => ?_⟩
    · refine go_blk [(.iconst 0, 0, 0, 0), (.ireturn, 1, 0, 0)] (by decide +kernel) ?_
      simp only [e_ic_0, e_iret1, e_nil, nol_n, nol_I, nol_R, rsum_0, rsum_I, rsum_R, ps_s, ps_n, true_and, and_true, Nat.reduceAdd, Nat.reduceLeDiff, hd1, hd2]
      refine ⟨by decide, ?_⟩
      simp_all [bi]
    · refine go_blk [(.iconst 1, 0, 0, 0), (.goto 4, 21, 0, 0), (.ireturn, 1, 0, 0)] (by decide +kernel) ?_
      simp only [e_ic_1, e_goto, e_iret1, e_nil, nol_n, nol_I, nol_R, rsum_0, rsum_I, rsum_R, ps_s, ps_n, true_and, and_true, Nat.reduceAdd, Nat.reduceLeDiff, hd1, hd2]
      refine ⟨by decide, ?_⟩
      simp_all [bi]
theorem lp_between {l : Launch} {K : KK} {d : Nat} {μ : Mm} {P : Option AV → Mm → Prop} {a b L : Nat} {D R B st : Int32} (hL : L < 5) : ∀ (k s : Nat) (bits : Int32), s + k = L → P (some (vI (bwF (nI a) st k s bits))) μ → Go l K d 28 90 [some (vI (nI a)), some (vI (nI b)), some (vI D), some (vI R), some (vI B), some (vI st), some (vI (nI L)), some (vI bits), some (vI (nI s))] [] μ P := by
  intro k
  induction k with
  | zero =>
    intro s bits hs h
    refine go_blk [(.iload 8, 0, 0, 0), (.iload 6, 0, 0, 0), (.if_icmp .ge 23, 117, 0, 0)] (by decide +kernel) ?_
    simp only [e_ilw_8, e_ilw_6, e_icmp_ge, e_nil, nol_n, nol_I, nol_R, rsum_0, rsum_I, rsum_R, ps_s, ps_n, true_and, and_true, Nat.reduceAdd, Nat.reduceLeDiff]
    refine ⟨fun c94 => ?_, fun c94 => ?_⟩
    · refine go_blk [(.iload 7, 0, 0, 0), (.ireturn, 0, 0, 0)] (by decide +kernel) ?_
      simp only [e_ilw_7, e_iret0, e_nil, nol_n, nol_I, nol_R, rsum_0, rsum_I, rsum_R, ps_s, ps_n, true_and, and_true, Nat.reduceAdd, Nat.reduceLeDiff]
      exact h
    · exact absurd (nI_le (by omega) (by omega)) c94
  | succ k ih =>
    intro s bits hs h
    refine go_blk [(.iload 8, 0, 0, 0), (.iload 6, 0, 0, 0), (.if_icmp .ge 23, 117, 0, 0)] (by decide +kernel) ?_
    simp only [e_ilw_8, e_ilw_6, e_icmp_ge, e_nil, nol_n, nol_I, nol_R, rsum_0, rsum_I, rsum_R, ps_s, ps_n, true_and, and_true, Nat.reduceAdd, Nat.reduceLeDiff]
    refine ⟨fun c94 => ?_, fun c94 => ?_⟩
    · exact absurd c94 (nI_ge (by omega) (by omega))
    · refine go_blk [(.iload 7, 0, 0, 0), (.iconst 1, 0, 0, 0), (.iload_n 0, 0, 0, 0), (.iload 8, 0, 0, 0), (.iload 5, 0, 0, 0), (.imul, 0, 0, 0), (.iadd, 0, 0, 0), (.ishl, 0, 0, 0), (.ior, 0, 0, 0), (.istore 7, 0, 0, 0), (.iinc 8 1, 0, 0, 0), (.goto (-24), 90, 0, 0)] (by decide +kernel) ?_
      simp only [e_ilw_7, e_ic_1, e_il_0, e_ilw_8, e_ilw_5, e_imul, e_iadd, e_ishl, e_ior, e_isw_7n, e_isw_7I, e_isw_7R, e_inc_8_1n, e_inc_8_1I, e_inc_8_1R, e_goto, e_nil, nol_n, nol_I, nol_R, rsum_0, rsum_I, rsum_R, ps_s, ps_n, true_and, and_true, Nat.reduceAdd, Nat.reduceLeDiff]
      rw [nI_1]
      exact ih (s + 1) _ (by omega) h
theorem ok_between {l : Launch} {K : KK} {d : Nat} {μ : Mm} {P : Option AV → Mm → Prop} {a b : Nat} (ha : a < 15) (hb : b < 15) (hd1 : 1 ≤ d) (h : P (some (vI (bwI a b))) μ) : Ok l K d 28 [vI (nI a), vI (nI b)] μ P := by
  refine ok_go 9 (by decide +kernel) [some (vI (nI a)), some (vI (nI b)), none, none, none, none, none, none, none] rfl (Nat.le_of_ble_eq_true rfl) ?_
  have g1 := g_nl a ha b hb
  have g2 := g_ln a ha b hb
  have g3 := g_dst a ha b hb
  simp only [dnI, rtI] at g1 g2 g3
  refine go_blk [(.iload_n 1, 0, 0, 0), (.invokestatic 9, 21, 1, 0)] (by decide +kernel) ?_
  simp only [e_il_1, e_ivs_1, e_nil, Nat.reduceLT, nol_n, nol_I, nol_R, rsum_0, rsum_I, rsum_R, ps_s, ps_n, true_and, and_true, Nat.reduceAdd, Nat.reduceLeDiff, hd1]
  refine ok_rowOf ?_
  refine go_blk [(.iload_n 0, 0, 0, 0), (.invokestatic 9, 21, 1, 0)] (by decide +kernel) ?_
  simp only [e_il_0, e_ivs_1, e_nil, Nat.reduceLT, nol_n, nol_I, nol_R, rsum_0, rsum_I, rsum_R, ps_s, ps_n, true_and, and_true, Nat.reduceAdd, Nat.reduceLeDiff, hd1]
  refine ok_rowOf ?_
  refine go_blk [(.isub, 0, 0, 0), (.istore_n 2, 0, 0, 0), (.iload_n 1, 0, 0, 0), (.invokestatic 18, 22, 1, 0)] (by decide +kernel) ?_
  simp only [e_isub, e_is_2n, e_is_2I, e_is_2R, e_il_1, e_ivs_1, e_nil, Nat.reduceLT, nol_n, nol_I, nol_R, rsum_0, rsum_I, rsum_R, ps_s, ps_n, true_and, and_true, Nat.reduceAdd, Nat.reduceLeDiff, hd1]
  refine ok_columnOf ?_
  refine go_blk [(.iload_n 0, 0, 0, 0), (.invokestatic 18, 22, 1, 0)] (by decide +kernel) ?_
  simp only [e_il_0, e_ivs_1, e_nil, Nat.reduceLT, nol_n, nol_I, nol_R, rsum_0, rsum_I, rsum_R, ps_s, ps_n, true_and, and_true, Nat.reduceAdd, Nat.reduceLeDiff, hd1]
  refine ok_columnOf ?_
  refine go_blk [(.isub, 0, 0, 0), (.istore_n 3, 0, 0, 0), (.iload_n 2, 0, 0, 0), (.ifCond .eq 22, 43, 0, 0)] (by decide +kernel) ?_
  simp only [e_isub, e_is_3n, e_is_3I, e_is_3R, e_il_2, e_if_eq, e_nil, nol_n, nol_I, nol_R, rsum_0, rsum_I, rsum_R, ps_s, ps_n, true_and, and_true, Nat.reduceAdd, Nat.reduceLeDiff, hd1]
  refine ⟨fun c21 => ?_, fun c21 => ?_⟩
  · refine go_blk [(.iconst 0, 0, 0, 0), (.istore 4, 0, 0, 0), (.iload_n 0, 0, 0, 0), (.iload_n 1, 0, 0, 0), (.if_icmp .eq 8, 56, 0, 0)] (by decide +kernel) ?_
    simp only [e_ic_0, e_isw_4n, e_isw_4I, e_isw_4R, e_il_0, e_il_1, e_icmp_eq, e_nil, nol_n, nol_I, nol_R, rsum_0, rsum_I, rsum_R, ps_s, ps_n, true_and, and_true, Nat.reduceAdd, Nat.reduceLeDiff, hd1]
    refine ⟨fun c48 => ?_, fun c48 => ?_⟩
    · refine go_blk [(.iconst (-1), 0, 0, 0), (.ireturn, 0, 0, 0)] (by decide +kernel) ?_
      simp only [e_ic_m1, e_iret0, e_nil, nol_n, nol_I, nol_R, rsum_0, rsum_I, rsum_R, ps_s, ps_n, true_and, and_true, Nat.reduceAdd, Nat.reduceLeDiff, hd1]
      have e : lne a b = false := g1 (by first | exact Or.inl (by assumption) | exact Or.inr ⟨by assumption, by assumption, by assumption⟩ | (exfalso; simp_all; done))
      simp only [bwI, e] at h
      exact h
    · refine go_blk [(.iload 4, 0, 0, 0), (.ifCond .eq 5, 58, 0, 0)] (by decide +kernel) ?_
      simp only [e_ilw_4, e_if_eq, e_nil, (show ((0 : Int32) = 0) = True by decide), true_implies, false_implies, not_true_eq_false, not_false_eq_true, nol_n, nol_I, nol_R, rsum_0, rsum_I, rsum_R, ps_s, ps_n, true_and, and_true, Nat.reduceAdd, Nat.reduceLeDiff, hd1]
      refine go_blk [(.iconst 5, 0, 0, 0), (.iload_n 2, 0, 0, 0), (.invokestatic 15, 29, 1, 0)] (by decide +kernel) ?_
      simp only [e_ic_5, e_il_2, e_ivs_1, e_nil, Nat.reduceLT, nol_n, nol_I, nol_R, rsum_0, rsum_I, rsum_R, ps_s, ps_n, true_and, and_true, Nat.reduceAdd, Nat.reduceLeDiff, hd1]
      refine ok_signOf ?_
      refine go_blk [(.imul, 0, 0, 0), (.iload_n 3, 0, 0, 0), (.invokestatic 15, 29, 1, 0)] (by decide +kernel) ?_
      simp only [e_imul, e_il_3, e_ivs_1, e_nil, Nat.reduceLT, nol_n, nol_I, nol_R, rsum_0, rsum_I, rsum_R, ps_s, ps_n, true_and, and_true, Nat.reduceAdd, Nat.reduceLeDiff, hd1]
      refine ok_signOf ?_
      refine go_blk [(.iadd, 0, 0, 0), (.istore 5, 0, 0, 0), (.iload_n 2, 0, 0, 0), (.invokestatic 21, 1000, 0, 0), (.iload_n 3, 0, 0, 0), (.invokestatic 21, 1000, 0, 0), (.invokestatic 26, 1001, 0, 0), (.istore 6, 0, 0, 0), (.iconst 0, 0, 0, 0), (.istore 7, 0, 0, 0), (.iconst 1, 0, 0, 0), (.istore 8, 0, 0, 0)] (by decide +kernel) ?_
      simp only [e_iadd, e_isw_5n, e_isw_5I, e_isw_5R, e_il_2, e_mt_0, e_il_3, e_mt_1, e_isw_6n, e_isw_6I, e_isw_6R, e_ic_0, e_isw_7n, e_isw_7I, e_isw_7R, e_ic_1, e_isw_8n, e_isw_8I, e_isw_8R, e_nil, nol_n, nol_I, nol_R, rsum_0, rsum_I, rsum_R, ps_s, ps_n, true_and, and_true, Nat.reduceAdd, Nat.reduceLeDiff, hd1]
      obtain ⟨e1, e2, e3⟩ := g2 ⟨by assumption, by first | exact Or.inl (by assumption) | exact Or.inr (Or.inl (by assumption)) | exact Or.inr (Or.inr (by assumption))⟩
      rw [g3.1]
      refine lp_between g3.2 (dst a b - 1) 1 0 (by omega) ?_
      rw [e3]
      simp only [bwI, e1] at h
      exact h
  · refine go_blk [(.iload_n 3, 0, 0, 0), (.ifCond .eq 18, 43, 0, 0)] (by decide +kernel) ?_
    simp only [e_il_3, e_if_eq, e_nil, nol_n, nol_I, nol_R, rsum_0, rsum_I, rsum_R, ps_s, ps_n, true_and, and_true, Nat.reduceAdd, Nat.reduceLeDiff, hd1]
    refine ⟨fun c25 => ?_, fun c25 => ?_⟩
    · refine go_blk [(.iconst 0, 0, 0, 0), (.istore 4, 0, 0, 0), (.iload_n 0, 0, 0, 0), (.iload_n 1, 0, 0, 0), (.if_icmp .eq 8, 56, 0, 0)] (by decide +kernel) ?_
      simp only [e_ic_0, e_isw_4n, e_isw_4I, e_isw_4R, e_il_0, e_il_1, e_icmp_eq, e_nil, nol_n, nol_I, nol_R, rsum_0, rsum_I, rsum_R, ps_s, ps_n, true_and, and_true, Nat.reduceAdd, Nat.reduceLeDiff, hd1]
      refine ⟨fun c48 => ?_, fun c48 => ?_⟩
      · refine go_blk [(.iconst (-1), 0, 0, 0), (.ireturn, 0, 0, 0)] (by decide +kernel) ?_
        simp only [e_ic_m1, e_iret0, e_nil, nol_n, nol_I, nol_R, rsum_0, rsum_I, rsum_R, ps_s, ps_n, true_and, and_true, Nat.reduceAdd, Nat.reduceLeDiff, hd1]
        have e : lne a b = false := g1 (by first | exact Or.inl (by assumption) | exact Or.inr ⟨by assumption, by assumption, by assumption⟩ | (exfalso; simp_all; done))
        simp only [bwI, e] at h
        exact h
      · refine go_blk [(.iload 4, 0, 0, 0), (.ifCond .eq 5, 58, 0, 0)] (by decide +kernel) ?_
        simp only [e_ilw_4, e_if_eq, e_nil, (show ((0 : Int32) = 0) = True by decide), true_implies, false_implies, not_true_eq_false, not_false_eq_true, nol_n, nol_I, nol_R, rsum_0, rsum_I, rsum_R, ps_s, ps_n, true_and, and_true, Nat.reduceAdd, Nat.reduceLeDiff, hd1]
        refine go_blk [(.iconst 5, 0, 0, 0), (.iload_n 2, 0, 0, 0), (.invokestatic 15, 29, 1, 0)] (by decide +kernel) ?_
        simp only [e_ic_5, e_il_2, e_ivs_1, e_nil, Nat.reduceLT, nol_n, nol_I, nol_R, rsum_0, rsum_I, rsum_R, ps_s, ps_n, true_and, and_true, Nat.reduceAdd, Nat.reduceLeDiff, hd1]
        refine ok_signOf ?_
        refine go_blk [(.imul, 0, 0, 0), (.iload_n 3, 0, 0, 0), (.invokestatic 15, 29, 1, 0)] (by decide +kernel) ?_
        simp only [e_imul, e_il_3, e_ivs_1, e_nil, Nat.reduceLT, nol_n, nol_I, nol_R, rsum_0, rsum_I, rsum_R, ps_s, ps_n, true_and, and_true, Nat.reduceAdd, Nat.reduceLeDiff, hd1]
        refine ok_signOf ?_
        refine go_blk [(.iadd, 0, 0, 0), (.istore 5, 0, 0, 0), (.iload_n 2, 0, 0, 0), (.invokestatic 21, 1000, 0, 0), (.iload_n 3, 0, 0, 0), (.invokestatic 21, 1000, 0, 0), (.invokestatic 26, 1001, 0, 0), (.istore 6, 0, 0, 0), (.iconst 0, 0, 0, 0), (.istore 7, 0, 0, 0), (.iconst 1, 0, 0, 0), (.istore 8, 0, 0, 0)] (by decide +kernel) ?_
        simp only [e_iadd, e_isw_5n, e_isw_5I, e_isw_5R, e_il_2, e_mt_0, e_il_3, e_mt_1, e_isw_6n, e_isw_6I, e_isw_6R, e_ic_0, e_isw_7n, e_isw_7I, e_isw_7R, e_ic_1, e_isw_8n, e_isw_8I, e_isw_8R, e_nil, nol_n, nol_I, nol_R, rsum_0, rsum_I, rsum_R, ps_s, ps_n, true_and, and_true, Nat.reduceAdd, Nat.reduceLeDiff, hd1]
        obtain ⟨e1, e2, e3⟩ := g2 ⟨by assumption, by first | exact Or.inl (by assumption) | exact Or.inr (Or.inl (by assumption)) | exact Or.inr (Or.inr (by assumption))⟩
        rw [g3.1]
        refine lp_between g3.2 (dst a b - 1) 1 0 (by omega) ?_
        rw [e3]
        simp only [bwI, e1] at h
        exact h
    · refine go_blk [(.iload_n 2, 0, 0, 0), (.invokestatic 21, 1000, 0, 0), (.iload_n 3, 0, 0, 0), (.invokestatic 21, 1000, 0, 0), (.if_icmp .eq 7, 43, 0, 0)] (by decide +kernel) ?_
      simp only [e_il_2, e_mt_0, e_il_3, e_icmp_eq, e_nil, nol_n, nol_I, nol_R, rsum_0, rsum_I, rsum_R, ps_s, ps_n, true_and, and_true, Nat.reduceAdd, Nat.reduceLeDiff, hd1]
      refine ⟨fun c36 => ?_, fun c36 => ?_⟩
      · refine go_blk [(.iconst 0, 0, 0, 0), (.istore 4, 0, 0, 0), (.iload_n 0, 0, 0, 0), (.iload_n 1, 0, 0, 0), (.if_icmp .eq 8, 56, 0, 0)] (by decide +kernel) ?_
        simp only [e_ic_0, e_isw_4n, e_isw_4I, e_isw_4R, e_il_0, e_il_1, e_icmp_eq, e_nil, nol_n, nol_I, nol_R, rsum_0, rsum_I, rsum_R, ps_s, ps_n, true_and, and_true, Nat.reduceAdd, Nat.reduceLeDiff, hd1]
        refine ⟨fun c48 => ?_, fun c48 => ?_⟩
        · refine go_blk [(.iconst (-1), 0, 0, 0), (.ireturn, 0, 0, 0)] (by decide +kernel) ?_
          simp only [e_ic_m1, e_iret0, e_nil, nol_n, nol_I, nol_R, rsum_0, rsum_I, rsum_R, ps_s, ps_n, true_and, and_true, Nat.reduceAdd, Nat.reduceLeDiff, hd1]
          have e : lne a b = false := g1 (by first | exact Or.inl (by assumption) | exact Or.inr ⟨by assumption, by assumption, by assumption⟩ | (exfalso; simp_all; done))
          simp only [bwI, e] at h
          exact h
        · refine go_blk [(.iload 4, 0, 0, 0), (.ifCond .eq 5, 58, 0, 0)] (by decide +kernel) ?_
          simp only [e_ilw_4, e_if_eq, e_nil, (show ((0 : Int32) = 0) = True by decide), true_implies, false_implies, not_true_eq_false, not_false_eq_true, nol_n, nol_I, nol_R, rsum_0, rsum_I, rsum_R, ps_s, ps_n, true_and, and_true, Nat.reduceAdd, Nat.reduceLeDiff, hd1]
          refine go_blk [(.iconst 5, 0, 0, 0), (.iload_n 2, 0, 0, 0), (.invokestatic 15, 29, 1, 0)] (by decide +kernel) ?_
          simp only [e_ic_5, e_il_2, e_ivs_1, e_nil, Nat.reduceLT, nol_n, nol_I, nol_R, rsum_0, rsum_I, rsum_R, ps_s, ps_n, true_and, and_true, Nat.reduceAdd, Nat.reduceLeDiff, hd1]
          refine ok_signOf ?_
          refine go_blk [(.imul, 0, 0, 0), (.iload_n 3, 0, 0, 0), (.invokestatic 15, 29, 1, 0)] (by decide +kernel) ?_
          simp only [e_imul, e_il_3, e_ivs_1, e_nil, Nat.reduceLT, nol_n, nol_I, nol_R, rsum_0, rsum_I, rsum_R, ps_s, ps_n, true_and, and_true, Nat.reduceAdd, Nat.reduceLeDiff, hd1]
          refine ok_signOf ?_
          refine go_blk [(.iadd, 0, 0, 0), (.istore 5, 0, 0, 0), (.iload_n 2, 0, 0, 0), (.invokestatic 21, 1000, 0, 0), (.iload_n 3, 0, 0, 0), (.invokestatic 21, 1000, 0, 0), (.invokestatic 26, 1001, 0, 0), (.istore 6, 0, 0, 0), (.iconst 0, 0, 0, 0), (.istore 7, 0, 0, 0), (.iconst 1, 0, 0, 0), (.istore 8, 0, 0, 0)] (by decide +kernel) ?_
          simp only [e_iadd, e_isw_5n, e_isw_5I, e_isw_5R, e_il_2, e_mt_0, e_il_3, e_mt_1, e_isw_6n, e_isw_6I, e_isw_6R, e_ic_0, e_isw_7n, e_isw_7I, e_isw_7R, e_ic_1, e_isw_8n, e_isw_8I, e_isw_8R, e_nil, nol_n, nol_I, nol_R, rsum_0, rsum_I, rsum_R, ps_s, ps_n, true_and, and_true, Nat.reduceAdd, Nat.reduceLeDiff, hd1]
          obtain ⟨e1, e2, e3⟩ := g2 ⟨by assumption, by first | exact Or.inl (by assumption) | exact Or.inr (Or.inl (by assumption)) | exact Or.inr (Or.inr (by assumption))⟩
          rw [g3.1]
          refine lp_between g3.2 (dst a b - 1) 1 0 (by omega) ?_
          rw [e3]
          simp only [bwI, e1] at h
          exact h
      · refine go_blk [(.iconst 1, 0, 0, 0), (.goto 4, 44, 0, 0), (.istore 4, 0, 0, 0), (.iload_n 0, 0, 0, 0), (.iload_n 1, 0, 0, 0), (.if_icmp .eq 8, 56, 0, 0)] (by decide +kernel) ?_
        simp only [e_ic_1, e_goto, e_isw_4n, e_isw_4I, e_isw_4R, e_il_0, e_il_1, e_icmp_eq, e_nil, nol_n, nol_I, nol_R, rsum_0, rsum_I, rsum_R, ps_s, ps_n, true_and, and_true, Nat.reduceAdd, Nat.reduceLeDiff, hd1]
        refine ⟨fun c48 => ?_, fun c48 => ?_⟩
        · refine go_blk [(.iconst (-1), 0, 0, 0), (.ireturn, 0, 0, 0)] (by decide +kernel) ?_
          simp only [e_ic_m1, e_iret0, e_nil, nol_n, nol_I, nol_R, rsum_0, rsum_I, rsum_R, ps_s, ps_n, true_and, and_true, Nat.reduceAdd, Nat.reduceLeDiff, hd1]
          have e : lne a b = false := g1 (by first | exact Or.inl (by assumption) | exact Or.inr ⟨by assumption, by assumption, by assumption⟩ | (exfalso; simp_all; done))
          simp only [bwI, e] at h
          exact h
        · refine go_blk [(.iload 4, 0, 0, 0), (.ifCond .eq 5, 58, 0, 0)] (by decide +kernel) ?_
          simp only [e_ilw_4, e_if_eq, e_nil, (show ((1 : Int32) = 0) = False by decide), true_implies, false_implies, not_true_eq_false, not_false_eq_true, nol_n, nol_I, nol_R, rsum_0, rsum_I, rsum_R, ps_s, ps_n, true_and, and_true, Nat.reduceAdd, Nat.reduceLeDiff, hd1]
          refine go_blk [(.iconst (-1), 0, 0, 0), (.ireturn, 0, 0, 0)] (by decide +kernel) ?_
          simp only [e_ic_m1, e_iret0, e_nil, nol_n, nol_I, nol_R, rsum_0, rsum_I, rsum_R, ps_s, ps_n, true_and, and_true, Nat.reduceAdd, Nat.reduceLeDiff, hd1]
          have e : lne a b = false := g1 (by first | exact Or.inl (by assumption) | exact Or.inr ⟨by assumption, by assumption, by assumption⟩ | (exfalso; simp_all; done))
          simp only [bwI, e] at h
          exact h
