def cdF (A : Nat → Nat) (k : Nat) : Nat → Nat
  | 0 => 0
  | e + 1 => cdF A k e ||| (if A e = 0 then 0 else 2 ^ (if e.testBit k then 1 else 0))
def c0F (A : Nat → Nat) (k : Nat) : Nat → Nat := smN (fun st => if st.testBit k then 0 else A st)
def c1F (A : Nat → Nat) (k : Nat) : Nat → Nat := smN (fun st => if st.testBit k then A st else 0)
theorem cd_step (x y z : Nat) (b : Bool) : ((if x = 0 then 0 else 1) ||| (if y = 0 then 0 else 2)) ||| (if z = 0 then 0 else 2 ^ (if b then 1 else 0)) = ((if x + (if b then 0 else z) = 0 then 0 else 1) ||| (if y + (if b then z else 0) = 0 then 0 else 2)) := by
  cases x <;> cases y <;> cases z <;> cases b <;> simp
theorem cd_eq (A : Nat → Nat) (k : Nat) : ∀ e, cdF A k e = (if c0F A k e = 0 then 0 else 1) ||| (if c1F A k e = 0 then 0 else 2)
  | 0 => by
    show (0 : Nat) = (if (0 : Nat) = 0 then 0 else 1) ||| (if (0 : Nat) = 0 then 0 else 2)
    rfl
  | e + 1 => by
    have ih := cd_eq A k e
    have u0 : c0F A k (e + 1) = c0F A k e + (if e.testBit k then 0 else A e) := rfl
    have u1 : c1F A k (e + 1) = c1F A k e + (if e.testBit k then A e else 0) := rfl
    show cdF A k e ||| _ = _
    rw [ih, u0, u1]
    exact cd_step _ _ _ _
theorem cd_lt (A : Nat → Nat) (k e : Nat) : cdF A k e < 4 := by
  rw [cd_eq]
  by_cases z0 : c0F A k e = 0 <;> by_cases z1 : c1F A k e = 0 <;> simp [z0, z1]
theorem cd_ls (A : Nat → Nat) (k e : Nat) : lsR (c0F A k e) (c1F A k e) = if cdF A k e = 1 then 0 else if cdF A k e = 2 then 1 else -1 := by
  rw [cd_eq]
  unfold lsR
  by_cases z0 : c0F A k e = 0 <;> by_cases z1 : c1F A k e = 0 <;> simp [z0, z1]
theorem spA_nS (t : TS) (a : Nat) : spA t a = nS t a := by
  have h : ∀ e, spU t a e = spU t 0 e := by
    intro e
    induction e with
    | zero => rfl
    | succ e ih =>
      show spU t a e + _ = spU t 0 e + _
      rw [ih]
  rw [← spU_A, h]
/-- of which side one is at last -/
def laV (t : TS) (cs : Nat → Int32) (m a : Nat) : Int32 := lsR (ls0 t (wyA cs (otN t) (spN t) m) a (2 ^ spN t)) (ls1 t (wyA cs (otN t) (spN t) m) a (2 ^ spN t))
theorem la_spy {op : Nat} {t : TS} {cs : Nat → Int32} {m a : Nat} (hI : TInv op t) (ha : a < t 0 1) (h3 : t 3 a = 2) : laV t cs (m + 1) a = lsR (c0F (mwy t cs (m + 1)) a 64) (c1F (mwy t cs (m + 1)) a 64) := by
  have hs : isS t a = true := decide_eq_true h3
  have hb : ∀ st, (phF t st (t 0 1)).testBit (spA t a) = !st.testBit a := fun st => by rw [spA_nS]; exact phF_at hs (t 0 1) ha
  have e0 : c0F (mwy t cs (m + 1)) a 64 = ls0 t (wyA cs (otN t) (spN t) (m + 1)) a (2 ^ spN t) := by
    refine mwy_sum hI m (fun st v => if st.testBit a then 0 else v) (fun s v => if sdI t s a = 0 then v else 0) (fun st _ => ?_) (fun st => ite_self 0)
    show (if st.testBit a then 0 else _) = if sdI t (phF t st (t 0 1)) a = 0 then _ else 0
    unfold sdI
    rw [if_pos h3, hb]
    cases st.testBit a <;> rfl
  have e1 : c1F (mwy t cs (m + 1)) a 64 = ls1 t (wyA cs (otN t) (spN t) (m + 1)) a (2 ^ spN t) := by
    refine mwy_sum hI m (fun st v => if st.testBit a then v else 0) (fun s v => if sdI t s a = 0 then 0 else v) (fun st _ => ?_) (fun st => ite_self 0)
    show (if st.testBit a then _ else 0) = if sdI t (phF t st (t 0 1)) a = 0 then 0 else _
    unfold sdI
    rw [if_pos h3, hb]
    cases st.testBit a <;> rfl
  unfold laV
  rw [e0, e1]
theorem la_oth {op : Nat} {t : TS} {cs : Nat → Int32} {m a : Nat} (hI : TInv op t) (ha : a < t 0 1) (h3 : ¬ t 3 a = 2) : laV t cs (m + 1) a = if smN (mwy t cs (m + 1)) 64 = 0 then -1 else nI (t 4 a) := by
  rw [mwy_tot hI m]
  unfold laV ls0 ls1
  have hsd : ∀ s, sdI t s a = t 4 a := fun s => if_neg h3
  rcases (show t 4 a = 0 ∨ t 4 a = 1 by have := (hI.2.1 a ha).2.1; omega) with z | z
  · have e0 : smN (fun s => if sdI t s a = 0 then wyA cs (otN t) (spN t) (m + 1) s else 0) (2 ^ spN t) = smN (wyA cs (otN t) (spN t) (m + 1)) (2 ^ spN t) := smN_eq _ (fun s _ => by rw [hsd, z]; rfl)
    have e1 : smN (fun s => if sdI t s a = 0 then 0 else wyA cs (otN t) (spN t) (m + 1) s) (2 ^ spN t) = 0 := smN_0 _ (fun s _ => by rw [hsd, z]; rfl)
    rw [e0, e1, z]
    rfl
  · have e0 : smN (fun s => if sdI t s a = 0 then wyA cs (otN t) (spN t) (m + 1) s else 0) (2 ^ spN t) = 0 := smN_0 _ (fun s _ => by rw [hsd, z]; rfl)
    have e1 : smN (fun s => if sdI t s a = 0 then 0 else wyA cs (otN t) (spN t) (m + 1) s) (2 ^ spN t) = smN (wyA cs (otN t) (spN t) (m + 1)) (2 ^ spN t) := smN_eq _ (fun s _ => by rw [hsd, z]; rfl)
    rw [e0, e1, z]
    rfl
theorem mwt_lt {op : Nat} {t : TS} {cs : Nat → Int32} (hI : TInv op t) {m : Nat} (hm : m < 6) : smN (mwy t cs (m + 1)) 64 < 2 ^ 31 := Nat.lt_of_le_of_lt (smN_le 64 (fun j _ => mwy_le hI hm j)) (by omega)
theorem sh_b (b : Bool) : (1 : Int32) <<< (bi b &&& 31) = nI (2 ^ (if b then 1 else 0)) := by cases b <;> decide
theorem lp_lo {l : Launch} {K : KK} {d : Nat} {μ : Mm} {P : Option AV → Mm → Prop} {A : Nat → Nat} {a : Nat} (ha : a < 6) (hA : ∀ s, s < 64 → μ 8 0 27 s = nI (A s)) (hA2 : ∀ s, A s < 2 ^ 31) (h : P (some (vI (if cdF A a 64 = 1 then 0 else if cdF A a 64 = 2 then 1 else -1))) μ) : ∀ (r st : Nat), st + r = 64 → Go l K d 167 39 [some (vR 8 0 0), some (vI (nI a)), some (vI (nI (cdF A a st))), some (vI (nI st))] [] μ P := by
  intro r
  induction r with
  | zero =>
    intro st hs
    have e0 : st = 64 := by omega
    subst e0
    have cl := cd_lt A a 64
    generalize cdF A a 64 = C at *
    have e76 : (nI C = 1) = (C = 1) := propext (nI_eq (b := 1) (by omega) (by omega))
    have e85 : (nI C = 2) = (C = 2) := propext (nI_eq (b := 2) (by omega) (by omega))
    refine go_blk [(.iload_n 3, 0, 0, 0), (.bipush 64, 0, 0, 0), (.if_icmp .ge 32, 74, 0, 0)] (by decide +kernel) ?_
    simp only [e_il_3, e_bp_64, e_icmp_ge, e_nil, nol_n, nol_I, nol_R, rsum_0, rsum_I, rsum_R, ps_s, ps_n, true_and, and_true, Nat.reduceAdd, Nat.reduceLeDiff, e76, e85]
    refine ⟨fun c42 => ?_, fun c42 => ?_⟩
    · refine go_blk [(.iload_n 2, 0, 0, 0), (.iconst 1, 0, 0, 0), (.if_icmp .ne 7, 83, 0, 0)] (by decide +kernel) ?_
      simp only [e_il_2, e_ic_1, e_icmp_ne, e_nil, nol_n, nol_I, nol_R, rsum_0, rsum_I, rsum_R, ps_s, ps_n, true_and, and_true, Nat.reduceAdd, Nat.reduceLeDiff, e76, e85]
      refine ⟨fun c76 => ?_, fun c76 => ?_⟩
      · rw [if_neg c76] at h
        refine go_blk [(.iload_n 2, 0, 0, 0), (.iconst 2, 0, 0, 0), (.if_icmp .ne 7, 92, 0, 0)] (by decide +kernel) ?_
        simp only [e_il_2, e_ic_2, e_icmp_ne, e_nil, nol_n, nol_I, nol_R, rsum_0, rsum_I, rsum_R, ps_s, ps_n, true_and, and_true, Nat.reduceAdd, Nat.reduceLeDiff, e76, e85]
        refine ⟨fun c85 => ?_, fun c85 => ?_⟩
        · rw [if_neg c85] at h
          refine go_blk [(.iconst (-1), 0, 0, 0), (.ireturn, 0, 0, 0)] (by decide +kernel) ?_
          simp only [e_ic_m1, e_iret0, e_nil, nol_n, nol_I, nol_R, rsum_0, rsum_I, rsum_R, ps_s, ps_n, true_and, and_true, Nat.reduceAdd, Nat.reduceLeDiff, e76, e85]
          exact h
        · rw [if_pos c85] at h
          refine go_blk [(.iconst 1, 0, 0, 0), (.goto 4, 93, 0, 0), (.ireturn, 0, 0, 0)] (by decide +kernel) ?_
          simp only [e_ic_1, e_goto, e_iret0, e_nil, nol_n, nol_I, nol_R, rsum_0, rsum_I, rsum_R, ps_s, ps_n, true_and, and_true, Nat.reduceAdd, Nat.reduceLeDiff, e76, e85]
          exact h
      · rw [if_pos c76] at h
        refine go_blk [(.iconst 0, 0, 0, 0), (.goto 13, 93, 0, 0), (.ireturn, 0, 0, 0)] (by decide +kernel) ?_
        simp only [e_ic_0, e_goto, e_iret0, e_nil, nol_n, nol_I, nol_R, rsum_0, rsum_I, rsum_R, ps_s, ps_n, true_and, and_true, Nat.reduceAdd, Nat.reduceLeDiff, e76, e85]
        exact h
    · exact absurd (by decide) c42
  | succ r ih =>
    intro st hs
    have v1 : vp_in (nI st) 64 := vin (by omega) (by omega)
    have x2 : ix (nI st) = st := nI_ix (by omega)
    have a1 := hA st (by omega)
    have e52 : (nI (A st) ≤ 0) = (A st = 0) := le0 (hA2 st)
    have eb := nI_bitb (m := st) (c := a) (by omega) (by omega)
    have es := sh_b (st.testBit a)
    have u : cdF A a (st + 1) = cdF A a st ||| (if A st = 0 then 0 else 2 ^ (if st.testBit a then 1 else 0)) := rfl
    have g := ih (st + 1) (by omega)
    rw [u] at g
    have z0 : nI (cdF A a st) ||| 0 = nI (cdF A a st) := by rw [← nI_0, nI_or, Nat.or_zero]
    refine go_blk [(.iload_n 3, 0, 0, 0), (.bipush 64, 0, 0, 0), (.if_icmp .ge 32, 74, 0, 0)] (by decide +kernel) ?_
    simp only [e_il_3, e_bp_64, e_icmp_ge, e_nil, nol_n, nol_I, nol_R, rsum_0, rsum_I, rsum_R, ps_s, ps_n, true_and, and_true, Nat.reduceAdd, Nat.reduceLeDiff, v1, x2, a1, e52, eb, es, z0, nI_or]
    refine ⟨fun c42 => ?_, fun c42 => ?_⟩
    · exact absurd c42 (nI_ge (b := 64) (by omega) (by omega))
    · refine go_blk [(.iload_n 2, 0, 0, 0), (.aload_n 0, 0, 0, 0), (.getfield 36, 8, 26, 0), (.iload_n 3, 0, 0, 0), (.iaload, 0, 0, 0), (.ifCond .le 13, 65, 0, 0)] (by decide +kernel) ?_
      simp only [e_il_2, e_al_0, e_gf_8_26, e_il_3, e_ia, e_if_le, rd_8_26, ai_0_4, ai_1_7, ai_2_1, ai_2_2, ai_3_1, ai_4_1, ai_6_3, ai_6_4, ai_6_5, ai_6_6, ai_6_7, ai_6_8, ai_8_5, ai_8_6, ai_8_17, ai_8_21, ai_8_23, ai_8_24, ai_8_27, ai_8_28, ai_8_38, ai_8_39, ai_8_40, e_nil, nol_n, nol_I, nol_R, rsum_0, rsum_I, rsum_R, ps_s, ps_n, true_and, and_true, Nat.reduceAdd, Nat.reduceLeDiff, v1, x2, a1, e52, eb, es, z0, nI_or]
      refine ⟨fun c52 => ?_, fun c52 => ?_⟩
      · rw [if_pos c52, Nat.or_zero] at g
        refine go_blk [(.iconst 0, 0, 0, 0), (.ior, 0, 0, 0), (.istore_n 2, 0, 0, 0), (.iinc 3 1, 0, 0, 0), (.goto (-32), 39, 0, 0)] (by decide +kernel) ?_
        simp only [e_ic_0, e_ior, e_is_2n, e_is_2I, e_is_2R, e_inc_3_1n, e_inc_3_1I, e_inc_3_1R, e_goto, e_nil, nol_n, nol_I, nol_R, rsum_0, rsum_I, rsum_R, ps_s, ps_n, true_and, and_true, Nat.reduceAdd, Nat.reduceLeDiff, v1, x2, a1, e52, eb, es, z0, nI_or]
        rw [nI_1]
        exact g
      · rw [if_neg c52] at g
        refine go_blk [(.iconst 1, 0, 0, 0), (.iload_n 3, 0, 0, 0), (.iload_n 1, 0, 0, 0), (.ishr, 0, 0, 0), (.iconst 1, 0, 0, 0), (.iand, 0, 0, 0), (.ishl, 0, 0, 0), (.goto 4, 66, 0, 0), (.ior, 0, 0, 0), (.istore_n 2, 0, 0, 0), (.iinc 3 1, 0, 0, 0), (.goto (-32), 39, 0, 0)] (by decide +kernel) ?_
        simp only [e_ic_1, e_il_3, e_il_1, e_ishr, e_iand, e_ishl, e_goto, e_ior, e_is_2n, e_is_2I, e_is_2R, e_inc_3_1n, e_inc_3_1I, e_inc_3_1R, e_nil, nol_n, nol_I, nol_R, rsum_0, rsum_I, rsum_R, ps_s, ps_n, true_and, and_true, Nat.reduceAdd, Nat.reduceLeDiff, v1, x2, a1, e52, eb, es, z0, nI_or]
        rw [nI_1]
        exact g
theorem okm_lastOf {l : Launch} {K : KK} {d : Nat} {μ : Mm} {P : Option AV → Mm → Prop} {op m a : Nat} {t : TS} {cs : Nat → Int32} (hI : TInv op t) (hM : MRep μ t) (ha : a < t 0 1) (hm : m ≤ 6) (h15 : μ 8 0 0 15 = nI m) (hc : ∀ j, j < 6 → μ 8 0 17 j = cs j) (hd1 : 4 ≤ d) (h : ∀ μ2, OffW μ μ2 → P (some (vI (if m = 0 then -1 else laV t cs m a))) μ2) : Ok l K d 167 [vR 8 0 0, vI (nI a)] μ P := by
  refine ok_go 4 (by decide +kernel) [some (vR 8 0 0), some (vI (nI a)), none, none] rfl (Nat.le_of_ble_eq_true rfl) ?_
  have hd2 : 1 ≤ d := by omega
  have hn := hI.1
  have ra := hI.2.1 a ha
  have e4 : (nI m = 0) = (m = 0) := propext (nI_eq (b := 0) (by omega) (by omega))
  have va : vp_in (nI a) 6 := vin (by omega) (by omega)
  have xa : ix (nI a) = a := nI_ix (by omega)
  have e23 : (nI (t 3 a) = 2) = (t 3 a = 2) := propext (nI_eq (b := 2) (by omega) (by omega))
  have l7 := mSd_lt hn
  have e7 : (nI (mSd t) >>> (nI a &&& 31)) &&& 1 = nI (t 4 a) := by
    rw [nI_bitb (by omega) (by omega), mSd_bit ha]
    rcases (show t 4 a = 0 ∨ t 4 a = 1 by omega) with z | z <;> rw [z] <;> rfl
  refine go_blk [(.aload_n 0, 0, 0, 0), (.getfield 114, 8, 15, 0), (.ifCond .eq 10, 14, 0, 0)] (by decide +kernel) ?_
  simp only [e_al_0, e_gf_8_15, e_if_eq, rd_8_15, e_nil, nol_n, nol_I, nol_R, rsum_0, rsum_I, rsum_R, ps_s, ps_n, true_and, and_true, Nat.reduceAdd, Nat.reduceLeDiff, hd2, h15, e4, va, xa, e23, e7, Classical.not_not]
  refine ⟨fun c4 => ?_, fun c4 => ?_⟩
  · rw [if_pos c4] at h
    refine go_blk [(.iconst (-1), 0, 0, 0), (.ireturn, 0, 0, 0)] (by decide +kernel) ?_
    simp only [e_ic_m1, e_iret0, e_nil, nol_n, nol_I, nol_R, rsum_0, rsum_I, rsum_R, ps_s, ps_n, true_and, and_true, Nat.reduceAdd, Nat.reduceLeDiff, hd2, h15, e4, va, xa, e23, e7, Classical.not_not]
    exact h μ (offw_rf μ)
  · rw [if_neg c4] at h
    obtain ⟨m, rfl⟩ : ∃ q, m = q + 1 := ⟨m - 1, by omega⟩
    have tl := mwt_lt (cs := cs) hI (show m < 6 by omega)
    have e11 : (nI (smN (mwy t cs (m + 1)) 64) = 0) = (smN (mwy t cs (m + 1)) 64 = 0) := propext (nI_eq (b := 0) tl (by omega))
    refine go_blk [(.aload_n 0, 0, 0, 0), (.invokevirtual 248, 164, 0, 8)] (by decide +kernel) ?_
    simp only [e_al_0, e_iv_8_0, e_nil, nol_n, nol_I, nol_R, rsum_0, rsum_I, rsum_R, ps_s, ps_n, true_and, and_true, Nat.reduceAdd, Nat.reduceLeDiff, hd2, h15, e4, va, xa, e23, e7, Classical.not_not, e11]
    refine okm_layWays hI hM (by omega) h15 hc (by omega) (fun μ1 o1 a1 => ?_)
    have M1 := mr_w hM o1
    have k5 := M1.1.2.1 a ha
    have m7 : μ1 8 0 0 7 = nI (mSd t) := M1.2.1.2.1
    refine go_blk [(.ifCond .ne 5, 16, 0, 0)] (by decide +kernel) ?_
    simp only [e_if_ne, e_nil, nol_n, nol_I, nol_R, rsum_0, rsum_I, rsum_R, ps_s, ps_n, true_and, and_true, Nat.reduceAdd, Nat.reduceLeDiff, hd2, h15, e4, va, xa, e23, e7, Classical.not_not, e11, k5, m7]
    refine ⟨fun c11 => ?_, fun c11 => ?_⟩
    · refine go_blk [(.aload_n 0, 0, 0, 0), (.getfield 7, 8, 4, 0), (.iload_n 1, 0, 0, 0), (.iaload, 0, 0, 0), (.iconst 2, 0, 0, 0), (.if_icmp .eq 12, 35, 0, 0)] (by decide +kernel) ?_
      simp only [e_al_0, e_gf_8_4, e_il_1, e_ia, e_ic_2, e_icmp_eq, rd_8_4, ai_0_4, ai_1_7, ai_2_1, ai_2_2, ai_3_1, ai_4_1, ai_6_3, ai_6_4, ai_6_5, ai_6_6, ai_6_7, ai_6_8, ai_8_5, ai_8_6, ai_8_17, ai_8_21, ai_8_23, ai_8_24, ai_8_27, ai_8_28, ai_8_38, ai_8_39, ai_8_40, e_nil, nol_n, nol_I, nol_R, rsum_0, rsum_I, rsum_R, ps_s, ps_n, true_and, and_true, Nat.reduceAdd, Nat.reduceLeDiff, hd2, h15, e4, va, xa, e23, e7, Classical.not_not, e11, k5, m7]
      refine ⟨fun c23 => ?_, fun c23 => ?_⟩
      · rw [la_spy hI ha c23, cd_ls] at h
        refine go_blk [(.iconst 0, 0, 0, 0), (.istore_n 2, 0, 0, 0), (.iconst 0, 0, 0, 0), (.istore_n 3, 0, 0, 0)] (by decide +kernel) ?_
        simp only [e_ic_0, e_is_2n, e_is_2I, e_is_2R, e_is_3n, e_is_3I, e_is_3R, e_nil, nol_n, nol_I, nol_R, rsum_0, rsum_I, rsum_R, ps_s, ps_n, true_and, and_true, Nat.reduceAdd, Nat.reduceLeDiff, hd2, h15, e4, va, xa, e23, e7, Classical.not_not, e11, k5, m7]
        exact lp_lo (by omega) a1 (fun s => Nat.lt_of_le_of_lt (mwy_le hI (show m < 6 by omega) s) (by omega)) (h μ1 o1) 64 0 (by omega)
      · rw [la_oth hI ha c23, if_neg c11] at h
        refine go_blk [(.aload_n 0, 0, 0, 0), (.getfield 102, 8, 7, 0), (.iload_n 1, 0, 0, 0), (.ishr, 0, 0, 0), (.iconst 1, 0, 0, 0), (.iand, 0, 0, 0), (.ireturn, 0, 0, 0)] (by decide +kernel) ?_
        simp only [e_al_0, e_gf_8_7, e_il_1, e_ishr, e_ic_1, e_iand, e_iret0, rd_8_7, e_nil, nol_n, nol_I, nol_R, rsum_0, rsum_I, rsum_R, ps_s, ps_n, true_and, and_true, Nat.reduceAdd, Nat.reduceLeDiff, hd2, h15, e4, va, xa, e23, e7, Classical.not_not, e11, k5, m7]
        exact h μ1 o1
    · have ev : laV t cs (m + 1) a = -1 := by
        by_cases h3 : t 3 a = 2
        · have z0 : c0F (mwy t cs (m + 1)) a 64 = 0 := smN_0 _ (fun j hj => by rw [smN_pos _ c11 j hj]; exact ite_self 0)
          have z1 : c1F (mwy t cs (m + 1)) a 64 = 0 := smN_0 _ (fun j hj => by rw [smN_pos _ c11 j hj]; exact ite_self 0)
          rw [la_spy hI ha h3, z0, z1]
          rfl
        · rw [la_oth hI ha h3, if_pos c11]
      rw [ev] at h
      refine go_blk [(.iconst (-1), 0, 0, 0), (.ireturn, 0, 0, 0)] (by decide +kernel) ?_
      simp only [e_ic_m1, e_iret0, e_nil, nol_n, nol_I, nol_R, rsum_0, rsum_I, rsum_R, ps_s, ps_n, true_and, and_true, Nat.reduceAdd, Nat.reduceLeDiff, hd2, h15, e4, va, xa, e23, e7, Classical.not_not, e11, k5, m7]
      exact h μ1 o1
