def mSp (t : TS) : Nat := mskF (isS t) (t 0 1)
theorem sbS_n (t : TS) (st : Nat) : sbS t (t 0 1) st = (st &&& mSp t == st) := rfl
theorem lp_spies {l : Launch} {K : KK} {d : Nat} {μ : Mm} {P : Option AV → Mm → Prop} {op : Nat} {t : TS} (hI : TInv op t) (hM : MRep μ t) (h : P (some (vI (nI (mSp t)))) μ) : ∀ (r j : Nat), j + r = t 0 1 → Go l K d 161 4 [some (vR 8 0 0), some (vI (nI (mskF (isS t) j))), some (vI (nI j))] [] μ P := by
  have hn := hI.1
  have m3 := hM.1.1
  intro r
  induction r with
  | zero =>
    intro j hj
    have e0 : j = t 0 1 := by omega
    subst e0
    refine go_blk [(.iload_n 2, 0, 0, 0), (.aload_n 0, 0, 0, 0), (.getfield 96, 8, 3, 0), (.if_icmp .ge 29, 38, 0, 0)] (by decide +kernel) ?_
    simp only [e_il_2, e_al_0, e_gf_8_3, e_icmp_ge, rd_8_3, e_nil, nol_n, nol_I, nol_R, rsum_0, rsum_I, rsum_R, ps_s, ps_n, true_and, and_true, Nat.reduceAdd, Nat.reduceLeDiff, m3]
    refine ⟨fun c9 => ?_, fun c9 => ?_⟩
    · refine go_blk [(.iload_n 1, 0, 0, 0), (.ireturn, 0, 0, 0)] (by decide +kernel) ?_
      simp only [e_il_1, e_iret0, e_nil, nol_n, nol_I, nol_R, rsum_0, rsum_I, rsum_R, ps_s, ps_n, true_and, and_true, Nat.reduceAdd, Nat.reduceLeDiff, m3]
      exact h
    · exact absurd (nI_le (Nat.le_refl _) (by omega)) c9
  | succ r ih =>
    intro j hj
    have hv : vp_in (nI j) 6 := vin (by omega) (by omega)
    have hx : ix (nI j) = j := nI_ix (by omega)
    have k5 := hM.1.2.1 j (by omega)
    have r3 := (hI.2.1 j (by omega)).1
    have e20 : (nI (t 3 j) = 2) = (t 3 j = 2) := propext (nI_eq (b := 2) (by omega) (by omega))
    have es := nI_shl (c := j) (by omega)
    have u : mskF (isS t) (j + 1) = mskF (isS t) j ||| (if isS t j then 2 ^ j else 0) := rfl
    have g := ih (j + 1) (by omega)
    rw [u] at g
    have z0 : nI (mskF (isS t) j) ||| 0 = nI (mskF (isS t) j) := by rw [← nI_0, nI_or, Nat.or_zero]
    refine go_blk [(.iload_n 2, 0, 0, 0), (.aload_n 0, 0, 0, 0), (.getfield 96, 8, 3, 0), (.if_icmp .ge 29, 38, 0, 0)] (by decide +kernel) ?_
    simp only [e_il_2, e_al_0, e_gf_8_3, e_icmp_ge, rd_8_3, e_nil, nol_n, nol_I, nol_R, rsum_0, rsum_I, rsum_R, ps_s, ps_n, true_and, and_true, Nat.reduceAdd, Nat.reduceLeDiff, m3, hv, hx, k5, e20, es, z0, nI_or]
    refine ⟨fun c9 => ?_, fun c9 => ?_⟩
    · exact absurd c9 (nI_ge (by omega) (by omega))
    · refine go_blk [(.iload_n 1, 0, 0, 0), (.aload_n 0, 0, 0, 0), (.getfield 7, 8, 4, 0), (.iload_n 2, 0, 0, 0), (.iaload, 0, 0, 0), (.iconst 2, 0, 0, 0), (.if_icmp .ne 9, 29, 0, 0)] (by decide +kernel) ?_
      simp only [e_il_1, e_al_0, e_gf_8_4, e_il_2, e_ia, e_ic_2, e_icmp_ne, rd_8_4, ai_0_4, ai_1_7, ai_2_1, ai_2_2, ai_3_1, ai_4_1, ai_6_3, ai_6_4, ai_6_5, ai_6_6, ai_6_7, ai_6_8, ai_8_5, ai_8_6, ai_8_17, ai_8_21, ai_8_23, ai_8_24, ai_8_27, ai_8_28, ai_8_38, ai_8_39, ai_8_40, e_nil, nol_n, nol_I, nol_R, rsum_0, rsum_I, rsum_R, ps_s, ps_n, true_and, and_true, Nat.reduceAdd, Nat.reduceLeDiff, m3, hv, hx, k5, e20, es, z0, nI_or]
      refine ⟨fun c20 => ?_, fun c20 => ?_⟩
      · rw [show isS t j = false from decide_eq_false c20, if_neg (by decide), Nat.or_zero] at g
        refine go_blk [(.iconst 0, 0, 0, 0), (.ior, 0, 0, 0), (.istore_n 1, 0, 0, 0), (.iinc 2 1, 0, 0, 0), (.goto (-31), 4, 0, 0)] (by decide +kernel) ?_
        simp only [e_ic_0, e_ior, e_is_1n, e_is_1I, e_is_1R, e_inc_2_1n, e_inc_2_1I, e_inc_2_1R, e_goto, e_nil, nol_n, nol_I, nol_R, rsum_0, rsum_I, rsum_R, ps_s, ps_n, true_and, and_true, Nat.reduceAdd, Nat.reduceLeDiff, m3, hv, hx, k5, e20, es, z0, nI_or]
        rw [nI_1]
        exact g
      · rw [show isS t j = true from decide_eq_true c20, if_pos rfl] at g
        refine go_blk [(.iconst 1, 0, 0, 0), (.iload_n 2, 0, 0, 0), (.ishl, 0, 0, 0), (.goto 4, 30, 0, 0), (.ior, 0, 0, 0), (.istore_n 1, 0, 0, 0), (.iinc 2 1, 0, 0, 0), (.goto (-31), 4, 0, 0)] (by decide +kernel) ?_
        simp only [e_ic_1, e_il_2, e_ishl, e_goto, e_ior, e_is_1n, e_is_1I, e_is_1R, e_inc_2_1n, e_inc_2_1I, e_inc_2_1R, e_nil, nol_n, nol_I, nol_R, rsum_0, rsum_I, rsum_R, ps_s, ps_n, true_and, and_true, Nat.reduceAdd, Nat.reduceLeDiff, m3, hv, hx, k5, e20, es, z0, nI_or]
        rw [nI_1]
        exact g
theorem okm_spies {l : Launch} {K : KK} {d : Nat} {μ : Mm} {P : Option AV → Mm → Prop} {op : Nat} {t : TS} (hI : TInv op t) (hM : MRep μ t) (h : P (some (vI (nI (mSp t)))) μ) : Ok l K d 161 [vR 8 0 0] μ P := by
  refine ok_go 3 (by decide +kernel) [some (vR 8 0 0), none, none] rfl (Nat.le_of_ble_eq_true rfl) ?_
  refine go_blk [(.iconst 0, 0, 0, 0), (.istore_n 1, 0, 0, 0), (.iconst 0, 0, 0, 0), (.istore_n 2, 0, 0, 0)] (by decide +kernel) ?_
  simp only [e_ic_0, e_is_1n, e_is_1I, e_is_1R, e_is_2n, e_is_2I, e_is_2R, e_nil, nol_n, nol_I, nol_R, rsum_0, rsum_I, rsum_R, ps_s, ps_n, true_and, and_true, Nat.reduceAdd, Nat.reduceLeDiff]
  exact lp_spies hI hM h (t 0 1) 0 (by omega)
theorem mSp_lt {t : TS} (h : t 0 1 ≤ 6) : mSp t < 2 ^ 6 := mskF_lt15 _ h
theorem cb_msk {t : TS} {st : Nat} : mSt t ^^^ (mSt t &&& ((mSd t ^^^ (mSd t &&& mSp t)) ||| st)) = mskF (cbF t st) (t 0 1) := by
  apply Nat.eq_of_testBit_eq
  intro j
  unfold mSt mSd mSp cbF
  rw [Nat.testBit_xor, Nat.testBit_and, Nat.testBit_or, Nat.testBit_xor, Nat.testBit_and, mskF_bit, mskF_bit, mskF_bit, mskF_bit]
  cases decide (j < t 0 1) <;> cases stn t j <;> cases (t 4 j == 1) <;> cases isS t j <;> cases st.testBit j <;> rfl
def ctB (t : TS) (st : Nat) : Nat := otN t + pop (phF t st (t 0 1))
theorem ct_le {op : Nat} {t : TS} {st : Nat} (hI : TInv op t) (hs : sbS t (t 0 1) st = true) : cntB (cbF t st) (t 0 1) 0 = ctB t st ∧ ctB t st ≤ 6 := by
  have h := cb_ph hI (fun j hj => ((sb_iff _ _ _).mp hs j hj).2) (t 0 1) (Nat.le_refl _)
  have h2 := cntB_le (cbF t st) (t 0 1) 0
  have hn := hI.1
  refine ⟨h, ?_⟩
  unfold ctB otN
  omega
theorem okm_countBy {l : Launch} {K : KK} {d : Nat} {μ : Mm} {P : Option AV → Mm → Prop} {op st : Nat} {t : TS} (hI : TInv op t) (hM : MRep μ t) (hst : st < 64) (hs : sbS t (t 0 1) st = true) (hd1 : 1 ≤ d) (h : P (some (vI (nI (ctB t st)))) μ) : Ok l K d 162 [vR 8 0 0, vI (nI st)] μ P := by
  refine ok_go 3 (by decide +kernel) [some (vR 8 0 0), some (vI (nI st)), none] rfl (Nat.le_of_ble_eq_true rfl) ?_
  have hn := hI.1
  have m6 : μ 8 0 0 6 = nI (mSt t) := hM.2.1.1
  have m7 : μ 8 0 0 7 = nI (mSd t) := hM.2.1.2.1
  have e1 := nI_andn (mSd t) (mSp t)
  have e2 := nI_or (mSd t ^^^ (mSd t &&& mSp t)) st
  have e3 := nI_andn (mSt t) ((mSd t ^^^ (mSd t &&& mSp t)) ||| st)
  rw [cb_msk] at e3
  have lt := mskF_lt15 (cbF t st) hn
  refine go_blk [(.aload_n 0, 0, 0, 0), (.getfield 102, 8, 7, 0), (.aload_n 0, 0, 0, 0), (.invokevirtual 239, 161, 0, 8)] (by decide +kernel) ?_
  simp only [e_al_0, e_gf_8_7, e_iv_8_0, rd_8_7, e_nil, nol_n, nol_I, nol_R, rsum_0, rsum_I, rsum_R, ps_s, ps_n, true_and, and_true, Nat.reduceAdd, Nat.reduceLeDiff, hd1, m6, m7, e1, e2, e3]
  refine okm_spies hI hM ?_
  refine go_blk [(.iconst (-1), 0, 0, 0), (.ixor, 0, 0, 0), (.iand, 0, 0, 0), (.iload_n 1, 0, 0, 0), (.ior, 0, 0, 0), (.istore_n 2, 0, 0, 0), (.aload_n 0, 0, 0, 0), (.getfield 99, 8, 6, 0), (.iload_n 2, 0, 0, 0), (.iconst (-1), 0, 0, 0), (.ixor, 0, 0, 0), (.iand, 0, 0, 0), (.invokestatic 117, 105, 1, 0)] (by decide +kernel) ?_
  simp only [e_ic_m1, e_ixor, e_iand, e_il_1, e_ior, e_is_2n, e_is_2I, e_is_2R, e_al_0, e_gf_8_6, e_il_2, e_ivs_1, rd_8_6, e_nil, Nat.reduceLT, nol_n, nol_I, nol_R, rsum_0, rsum_I, rsum_R, ps_s, ps_n, true_and, and_true, Nat.reduceAdd, Nat.reduceLeDiff, hd1, m6, m7, e1, e2, e3]
  refine okm_size (by omega) ?_
  rw [pop_msk _ (by omega), (ct_le hI hs).1]
  refine go_blk [(.ireturn, 0, 0, 0)] (by decide +kernel) ?_
  simp only [e_iret0, e_nil, nol_n, nol_I, nol_R, rsum_0, rsum_I, rsum_R, ps_s, ps_n, true_and, and_true, Nat.reduceAdd, Nat.reduceLeDiff, hd1, m6, m7, e1, e2, e3]
  exact h
/-- the ways, as the other class counts them -/
def mwy (t : TS) (cs : Nat → Int32) : Nat → Nat → Nat
  | 0 => fun _ => 0
  | m + 1 => fun st => if sbS t (t 0 1) st = true ∧ nI (ctB t st) = cs m then (if m = 0 then 1 else mwy t cs m st + smN (fun k => if isS t k then mwy t cs m (st ^^^ 2 ^ k) else 0) (t 0 1)) else 0
theorem sub_eqI (a b : Nat) (x : Int32) : (nI (a + b) = x) ↔ (nI b = x - nI a) := by
  rw [← nI_add]
  constructor
  · intro h; rw [← h, Int32.add_comm, Int32.add_sub_cancel]
  · intro h; rw [h, Int32.add_comm, Int32.sub_add_cancel]
theorem mwy_eq {t : TS} {cs : Nat → Int32} : ∀ m st, mwy t cs (m + 1) st = if sbS t (t 0 1) st then wyA cs (otN t) (spN t) (m + 1) (phF t st (t 0 1)) else 0
  | 0, st => by
    show (if sbS t (t 0 1) st = true ∧ nI (ctB t st) = cs 0 then (if 0 = 0 then 1 else _) else 0) = if sbS t (t 0 1) st then (if nI (pop (phF t st (t 0 1))) = cs 0 - nI (otN t) then (if 0 = 0 then 1 else _) else 0) else 0
    have := sub_eqI (otN t) (pop (phF t st (t 0 1))) (cs 0)
    unfold ctB
    by_cases h : sbS t (t 0 1) st = true
    · by_cases g : nI (pop (phF t st (t 0 1))) = cs 0 - nI (otN t)
      · rw [if_pos ⟨h, this.mpr g⟩, if_pos h, if_pos g]; rfl
      · rw [if_neg (fun z => g (this.mp z.2)), if_pos h, if_neg g]
    · rw [if_neg (fun z => h z.1), if_neg h]
  | m + 1, st => by
    show (if sbS t (t 0 1) st = true ∧ nI (ctB t st) = cs (m + 1) then (if m + 1 = 0 then 1 else mwy t cs (m + 1) st + smN (fun k => if isS t k then mwy t cs (m + 1) (st ^^^ 2 ^ k) else 0) (t 0 1)) else 0) = if sbS t (t 0 1) st then (if nI (pop (phF t st (t 0 1))) = cs (m + 1) - nI (otN t) then (if m + 1 = 0 then 1 else wyI (wyA cs (otN t) (spN t) (m + 1)) (spN t) (phF t st (t 0 1))) else 0) else 0
    have := sub_eqI (otN t) (pop (phF t st (t 0 1))) (cs (m + 1))
    unfold ctB
    by_cases h : sbS t (t 0 1) st = true
    · by_cases g : nI (pop (phF t st (t 0 1))) = cs (m + 1) - nI (otN t)
      · rw [if_pos ⟨h, this.mpr g⟩, if_pos h, if_pos g, if_neg (by omega), if_neg (by omega), mwy_eq m st, if_pos h]
        have e := nb_ph (t := t) (st := st) (n := t 0 1) (wyA cs (otN t) (spN t) (m + 1)) (t 0 1) (Nat.le_refl _)
        have e' : smN (fun k => if isS t k then mwy t cs (m + 1) (st ^^^ 2 ^ k) else 0) (t 0 1) = smN (fun i => wyA cs (otN t) (spN t) (m + 1) (phF t st (t 0 1) ^^^ 2 ^ i)) (spN t) := by
          refine Eq.trans ?_ e
          refine smN_eq _ (fun k hk => ?_)
          have em := mwy_eq (t := t) (cs := cs) m (st ^^^ 2 ^ k)
          generalize mwy t cs (m + 1) (st ^^^ 2 ^ k) = X at em ⊢
          cases q : isS t k
          · rfl
          · rw [if_pos rfl, if_pos rfl, em, if_pos (sb_xor h q hk)]
        rw [e']
        unfold wyI
        rfl
      · rw [if_neg (fun z => g (this.mp z.2)), if_pos h, if_neg g]
    · rw [if_neg (fun z => h z.1), if_neg h]
theorem wyA_le {cs : Nat → Int32} {ot sp : Nat} (hsp : sp ≤ 6) : ∀ m s, wyA cs ot sp m s ≤ 7 ^ m
  | 0, s => Nat.le_refl _
  | m + 1, s => by
    have ih := wyA_le (cs := cs) (ot := ot) hsp m
    have hp : 1 ≤ 7 ^ m := Nat.pow_pos (by decide)
    have e7 : 7 ^ (m + 1) = 7 * 7 ^ m := by rw [Nat.pow_succ]; omega
    show (if _ then (if m = 0 then 1 else wyI (wyA cs ot sp m) sp s) else 0) ≤ _
    rw [e7]
    split
    · split
      · omega
      · unfold wyI
        have h1 := ih s
        have h2 := smN_le (f := fun k => wyA cs ot sp m (s ^^^ 2 ^ k)) (B := 7 ^ m) sp (fun j _ => ih _)
        have h3 : sp * 7 ^ m ≤ 6 * 7 ^ m := Nat.mul_le_mul_right _ hsp
        exact Nat.le_trans (Nat.add_le_add h1 (Nat.le_trans h2 h3)) (by omega)
    · omega
theorem mwy_le {op : Nat} {t : TS} {cs : Nat → Int32} (hI : TInv op t) {m : Nat} (hm : m < 6) (st : Nat) : mwy t cs (m + 1) st ≤ 117649 := by
  rw [mwy_eq]
  split
  · have h1 := wyA_le (cs := cs) (ot := otN t) (spN_le hI) (m + 1) (phF t st (t 0 1))
    have h2 : 7 ^ (m + 1) ≤ 7 ^ 6 := Nat.pow_le_pow_right (by decide) (by omega)
    exact Nat.le_trans h1 h2
  · omega
theorem sb_big {t : TS} {st : Nat} (h : sbS t (t 0 1) st = true) : st < 2 ^ t 0 1 := by
  have e : st &&& mSp t = st := eq_of_beq h
  exact Nat.lt_of_le_of_lt (sub_le e) (mskF_lt _ _)
theorem mwy_sum {op : Nat} {t : TS} {cs : Nat → Int32} (hI : TInv op t) (m : Nat) (g : Nat → Nat → Nat) (G : Nat → Nat → Nat) (hg : ∀ st, sbS t (t 0 1) st = true → g st (wyA cs (otN t) (spN t) (m + 1) (phF t st (t 0 1))) = G (phF t st (t 0 1)) (wyA cs (otN t) (spN t) (m + 1) (phF t st (t 0 1)))) (g0 : ∀ st, g st 0 = 0) : smN (fun st => g st (mwy t cs (m + 1) st)) 64 = smN (fun s => G s (wyA cs (otN t) (spN t) (m + 1) s)) (2 ^ spN t) := by
  have hn := hI.1
  have hp : 2 ^ t 0 1 ≤ 64 := pw6 hn
  rw [show 64 = 2 ^ t 0 1 + (64 - 2 ^ t 0 1) by omega, smN_add, smN_0 (64 - 2 ^ t 0 1), Nat.add_zero]
  · have e := sm_ph t (t 0 1) (fun s => G s (wyA cs (otN t) (spN t) (m + 1) s))
    refine Eq.trans ?_ e
    refine smN_eq _ (fun st _ => ?_)
    show g st (mwy t cs (m + 1) st) = _
    rw [mwy_eq]
    by_cases h : sbS t (t 0 1) st = true
    · rw [if_pos h, if_pos h]; exact hg st h
    · rw [if_neg h, if_neg h]; exact g0 st
  · intro j _
    show g _ (mwy t cs (m + 1) (2 ^ t 0 1 + j)) = 0
    rw [mwy_eq, if_neg (fun z => by have := sb_big z; omega)]
    exact g0 _
theorem mwy_tot {op : Nat} {t : TS} {cs : Nat → Int32} (hI : TInv op t) (m : Nat) : smN (mwy t cs (m + 1)) 64 = smN (wyA cs (otN t) (spN t) (m + 1)) (2 ^ spN t) := mwy_sum hI m (fun _ v => v) (fun _ v => v) (fun _ _ => rfl) (fun _ => rfl)
