/-- standing soldiers of side 0 that are no spies -/
def otU (t : TS) : Nat → Nat
  | 0 => 0
  | e + 1 => otU t e + (if ¬ t 3 e = 2 ∧ t 7 e = 1 ∧ t 4 e = 0 then 1 else 0)
def spN (t : TS) : Nat := spU t 0 (t 0 1)
def otN (t : TS) : Nat := otU t (t 0 1)
/-- the ways behind m mornings, for each set of spies -/
def wyA (cs : Nat → Int32) (ot sp : Nat) : Nat → Nat → Nat
  | 0 => fun _ => 1
  | m + 1 => wkA m (cs m - nI ot) (wyA cs ot sp m) sp
def UI (μ0 μ : Mm) (n : Nat) : Prop := μ 2 0 0 2 = nI n ∧ ∀ c i s j, ¬ (c = 2 ∧ i = 0 ∧ s = 0 ∧ j = 2) → μ c i s j = μ0 c i s j
theorem UI.off {μ0 μ : Mm} {n : Nat} (h : UI μ0 μ n) {c i : Nat} (hc : ¬ c = 2) : μ c i = μ0 c i := by
  funext s j
  exact h.2 c i s j (fun z => hc z.1)
theorem ui_up {μ0 μ : Mm} {n : Nat} (h : UI μ0 μ n) (k : Nat) : UI μ0 (up μ 2 0 0 2 (nI k)) k :=
  ⟨up_self _ _ _ _ _ _, fun c i s j hc => by rw [up_ne hc]; exact h.2 c i s j hc⟩
/-- what the nights' store holds behind unfold -/
def NRes (μ0 μ : Mm) (w st : Nat) (A : Nat → Nat) : Prop := (w = 1 ∨ w = 2) ∧ μ 2 0 0 0 = nI w ∧ μ 2 0 0 1 = nI (3 - w) ∧ μ 2 0 0 3 = nI st ∧ (∀ j, j < st → μ 2 0 w j = nI (A j)) ∧ ∀ c i, ¬ c = 2 → μ c i = μ0 c i
theorem lp_unf1 {l : Launch} {K : KK} {d : Nat} {P : Option AV → Mm → Prop} {g : Nat} (hg : g < 2) {μ0 : Mm} {t : TS} {op : Nat} (hT0 : TRep μ0 g t) (hI : TInv op t) (hd1 : 2 ≤ d) (h : ∀ μ2, UI μ0 μ2 (spN t) → Go l K d 32 78 [some (vR 2 0 0), some (vR 1 g 0), some (vR 6 g 0), some (vI (nI (otN t))), some (vI (nI (t 0 1)))] [] μ2 P) : ∀ (r e : Nat) (μ : Mm), e + r = t 0 1 → UI μ0 μ (spU t 0 e) → Go l K d 32 15 [some (vR 2 0 0), some (vR 1 g 0), some (vR 6 g 0), some (vI (nI (otU t e))), some (vI (nI e))] [] μ P := by
  have hn := hI.1
  have hd2 : 1 ≤ d := by omega
  have hg6 : g < 6 := by omega
  intro r
  induction r with
  | zero =>
    intro e μ he hU
    have e0 : e = t 0 1 := by omega
    subst e0
    have hT := hT0.off (hU.off (c := 6) (i := g) (by omega))
    have m1 := hT.1
    refine go_blk [(.iload 4, 0, 0, 0), (.aload_n 2, 0, 0, 0), (.getfield 31, 6, 1, 0), (.if_icmp .ge 57, 78, 0, 0)] (by decide +kernel) ?_
    simp only [e_ilw_4, e_al_2, e_gf_6_1, e_icmp_ge, rd_6_1, e_nil, nol_n, nol_I, nol_R, rsum_0, rsum_I, rsum_R, ps_s, ps_n, true_and, and_true, Nat.reduceAdd, Nat.reduceLeDiff, hg6, m1]
    refine ⟨fun c21 => ?_, fun c21 => ?_⟩
    · exact h μ hU
    · exact absurd (nI_le (by omega) (by omega)) c21
  | succ r ih =>
    intro e μ he hU
    have hT := hT0.off (hU.off (c := 6) (i := g) (by omega))
    have m1 := hT.1
    have s2 := hU.1
    have hv : vp_in (nI e) 6 := vin (by omega) (by omega)
    have hx : ix (nI e) = e := nI_ix (by omega)
    obtain ⟨k3, k4, k5, k6, k7⟩ := hT.row (j := e) (by omega)
    obtain ⟨i3, i4, i5, i6, i7, i8⟩ := hI.2.1 e (by omega)
    have e7 := (b2 (t 7 e) i7).1
    have e4 : (nI (t 4 e) = 0) = (t 4 e = 0) := propext (nI_eq (b := 0) (by omega) (by omega))
    have u : spU t 0 (e + 1) = spU t 0 e + (if t 3 e = 2 then 1 else 0) := rfl
    have u2 : otU t (e + 1) = otU t e + (if ¬ t 3 e = 2 ∧ t 7 e = 1 ∧ t 4 e = 0 then 1 else 0) := rfl
    refine go_blk [(.iload 4, 0, 0, 0), (.aload_n 2, 0, 0, 0), (.getfield 31, 6, 1, 0), (.if_icmp .ge 57, 78, 0, 0)] (by decide +kernel) ?_
    simp only [e_ilw_4, e_al_2, e_gf_6_1, e_icmp_ge, rd_6_1, e_nil, nol_n, nol_I, nol_R, rsum_0, rsum_I, rsum_R, ps_s, ps_n, true_and, and_true, Nat.reduceAdd, Nat.reduceLeDiff, hg6, m1, hd2, i3, Nat.reduceLT, s2, hv, hx, k4, k7, e7, e4]
    refine ⟨fun c21 => ?_, fun c21 => ?_⟩
    · exact absurd c21 (nI_ge (by omega) (by omega))
    · refine go_blk [(.aload_n 2, 0, 0, 0), (.iload 4, 0, 0, 0), (.invokevirtual 36, 61, 1, 6)] (by decide +kernel) ?_
      simp only [e_al_2, e_ilw_4, e_iv_6_1, e_nil, nol_n, nol_I, nol_R, rsum_0, rsum_I, rsum_R, ps_s, ps_n, true_and, and_true, Nat.reduceAdd, Nat.reduceLeDiff, hg6, m1, hd2, i3, Nat.reduceLT, s2, hv, hx, k4, k7, e7, e4]
      refine ok_kindOf hg6 hT hn (by omega) i3 (by omega) ?_
      refine go_blk [(.getstatic 40, 9, 2, 0), (.if_acmp .ne 16, 49, 0, 0)] (by decide +kernel) ?_
      simp only [e_st_2, e_acmp_ne, e_nil, nol_n, nol_I, nol_R, rsum_0, rsum_I, rsum_R, ps_s, ps_n, true_and, and_true, Nat.reduceAdd, Nat.reduceLeDiff, hg6, m1, hd2, i3, Nat.reduceLT, s2, hv, hx, k4, k7, e7, e4]
      refine ⟨fun c33 => ?_, fun c33 => ?_⟩
      · rw [if_neg c33, Nat.add_zero] at u
        refine go_blk [(.aload_n 2, 0, 0, 0), (.getfield 46, 6, 6, 0), (.iload 4, 0, 0, 0), (.baload, 1, 0, 0), (.ifCond .eq 16, 72, 0, 0)] (by decide +kernel) ?_
        simp only [e_al_2, e_gf_6_6, e_ilw_4, e_za, e_if_eq, rd_6_6, ai_0_4, ai_1_7, ai_2_1, ai_2_2, ai_3_1, ai_4_1, ai_6_3, ai_6_4, ai_6_5, ai_6_6, ai_6_7, ai_6_8, ai_8_5, ai_8_6, ai_8_17, ai_8_21, ai_8_23, ai_8_24, ai_8_27, ai_8_28, ai_8_38, ai_8_39, ai_8_40, e_nil, nol_n, nol_I, nol_R, rsum_0, rsum_I, rsum_R, ps_s, ps_n, true_and, and_true, Nat.reduceAdd, Nat.reduceLeDiff, hg6, m1, hd2, i3, Nat.reduceLT, s2, hv, hx, k4, k7, e7, e4]
        refine ⟨fun c56 => ?_, fun c56 => ?_⟩
        · refine go_blk [(.iinc 4 1, 0, 0, 0), (.goto (-60), 15, 0, 0)] (by decide +kernel) ?_
          simp only [e_inc_4_1n, e_inc_4_1I, e_inc_4_1R, e_goto, e_nil, nol_n, nol_I, nol_R, rsum_0, rsum_I, rsum_R, ps_s, ps_n, true_and, and_true, Nat.reduceAdd, Nat.reduceLeDiff, hg6, m1, hd2, i3, Nat.reduceLT, s2, hv, hx, k4, k7, e7, e4]
          rw [nI_1]
          rw [if_neg (fun z => c56 z.2.1), Nat.add_zero] at u2
          have z := ih (e + 1) _ (by omega) (by rw [u]; exact hU)
          rw [u2] at z
          exact z
        · refine go_blk [(.aload_n 2, 0, 0, 0), (.getfield 50, 6, 3, 0), (.iload 4, 0, 0, 0), (.iaload, 0, 0, 0), (.ifCond .ne 6, 72, 0, 0)] (by decide +kernel) ?_
          simp only [e_al_2, e_gf_6_3, e_ilw_4, e_ia, e_if_ne, rd_6_3, ai_0_4, ai_1_7, ai_2_1, ai_2_2, ai_3_1, ai_4_1, ai_6_3, ai_6_4, ai_6_5, ai_6_6, ai_6_7, ai_6_8, ai_8_5, ai_8_6, ai_8_17, ai_8_21, ai_8_23, ai_8_24, ai_8_27, ai_8_28, ai_8_38, ai_8_39, ai_8_40, e_nil, nol_n, nol_I, nol_R, rsum_0, rsum_I, rsum_R, ps_s, ps_n, true_and, and_true, Nat.reduceAdd, Nat.reduceLeDiff, hg6, m1, hd2, i3, Nat.reduceLT, s2, hv, hx, k4, k7, e7, e4]
          refine ⟨fun c66 => ?_, fun c66 => ?_⟩
          · refine go_blk [(.iinc 4 1, 0, 0, 0), (.goto (-60), 15, 0, 0)] (by decide +kernel) ?_
            simp only [e_inc_4_1n, e_inc_4_1I, e_inc_4_1R, e_goto, e_nil, nol_n, nol_I, nol_R, rsum_0, rsum_I, rsum_R, ps_s, ps_n, true_and, and_true, Nat.reduceAdd, Nat.reduceLeDiff, hg6, m1, hd2, i3, Nat.reduceLT, s2, hv, hx, k4, k7, e7, e4]
            rw [nI_1]
            rw [if_neg (fun z => c66 z.2.2), Nat.add_zero] at u2
            have z := ih (e + 1) _ (by omega) (by rw [u]; exact hU)
            rw [u2] at z
            exact z
          · rw [if_pos ⟨c33, Classical.not_not.mp c56, c66⟩] at u2
            refine go_blk [(.iinc 3 1, 0, 0, 0), (.iinc 4 1, 0, 0, 0), (.goto (-60), 15, 0, 0)] (by decide +kernel) ?_
            simp only [e_inc_3_1n, e_inc_3_1I, e_inc_3_1R, e_inc_4_1n, e_inc_4_1I, e_inc_4_1R, e_goto, e_nil, nol_n, nol_I, nol_R, rsum_0, rsum_I, rsum_R, ps_s, ps_n, true_and, and_true, Nat.reduceAdd, Nat.reduceLeDiff, hg6, m1, hd2, i3, Nat.reduceLT, s2, hv, hx, k4, k7, e7, e4]
            rw [nI_1, nI_1]
            have z := ih (e + 1) _ (by omega) (by rw [u]; exact hU)
            rw [u2] at z
            exact z
      · rw [if_pos c33] at u
        rw [if_neg (fun z => z.1 c33), Nat.add_zero] at u2
        refine go_blk [(.aload_n 0, 0, 0, 0), (.dup, 0, 0, 0), (.getfield 18, 2, 2, 0), (.iconst 1, 0, 0, 0), (.iadd, 0, 0, 0), (.putfield 18, 2, 2, 0)] (by decide +kernel) ?_
        simp only [e_al_0, e_dupI, e_dupR, e_gf_2_2, e_ic_1, e_iadd, e_pf_2_2, rd_2_2, e_nil, nol_n, nol_I, nol_R, rsum_0, rsum_I, rsum_R, ps_s, ps_n, true_and, and_true, Nat.reduceAdd, Nat.reduceLeDiff, hg6, m1, hd2, i3, Nat.reduceLT, s2, hv, hx, k4, k7, e7, e4]
        refine go_blk [(.goto 26, 72, 0, 0), (.iinc 4 1, 0, 0, 0), (.goto (-60), 15, 0, 0)] (by decide +kernel) ?_
        simp only [e_goto, e_inc_4_1n, e_inc_4_1I, e_inc_4_1R, e_nil, nol_n, nol_I, nol_R, rsum_0, rsum_I, rsum_R, ps_s, ps_n, true_and, and_true, Nat.reduceAdd, Nat.reduceLeDiff, hg6, m1, hd2, i3, Nat.reduceLT, s2, hv, hx, k4, k7, e7, e4]
        rw [nI_1, nI_1]
        have z := ih (e + 1) _ (by omega) (by rw [u]; exact ui_up hU _)
        rw [u2] at z
        exact z
theorem lp_unf2 {l : Launch} {K : KK} {d : Nat} {P : Option AV → Mm → Prop} {g : Nat} (hg : g < 2) {μ0 : Mm} {cs : Nat → Int32} {f : Nat → Int32} {m sp ot : Nat} (hG0 : GRep μ0 g f cs) (hm5 : f 5 = nI m) (hm : m ≤ 6) (hm0 : 0 < m) (hsp : sp ≤ 6) (hd1 : 2 ≤ d) (h : ∀ μ2 w, NRes μ0 μ2 w (2 ^ sp) (wyA cs ot sp m) → P none μ2) : ∀ (r e w : Nat) (μ : Mm), e + r = m → (w = 1 ∨ w = 2) → μ 2 0 0 0 = nI w → μ 2 0 0 1 = nI (3 - w) → μ 2 0 0 2 = nI sp → μ 2 0 0 3 = nI (2 ^ sp) → (¬ e = 0 → ∀ j, j < 2 ^ sp → μ 2 0 w j = nI (wyA cs ot sp e j)) → (∀ c i, ¬ c = 2 → μ c i = μ0 c i) → Go l K d 32 103 [some (vR 2 0 0), some (vR 1 g 0), some (vR 6 g 0), some (vI (nI ot)), some (vI (nI e))] [] μ P := by
  have hd2 : 1 ≤ d := by omega
  intro r
  induction r with
  | zero =>
    intro e w μ he hw h0 h1 h2 h3 hA hO
    have e0 : e = m := by omega
    subst e0
    have f5 : μ 1 g 0 5 = nI e := by rw [hO 1 g (by omega), hG0.1 5 (by omega) (by omega)]; exact hm5
    refine go_blk [(.iload 4, 0, 0, 0), (.aload_n 1, 0, 0, 0), (.getfield 53, 1, 5, 0), (.if_icmp .ge 24, 133, 0, 0)] (by decide +kernel) ?_
    simp only [e_ilw_4, e_al_1, e_gf_1_5, e_icmp_ge, rd_1_5, e_nil, nol_n, nol_I, nol_R, rsum_0, rsum_I, rsum_R, ps_s, ps_n, true_and, and_true, Nat.reduceAdd, Nat.reduceLeDiff, hg, f5]
    refine ⟨fun c109 => ?_, fun c109 => ?_⟩
    · refine go_blk [(.return_, 0, 0, 0)] (by decide +kernel) ?_
      simp only [e_vret, e_nil, nol_n, nol_I, nol_R, rsum_0, rsum_I, rsum_R, ps_s, ps_n, true_and, and_true, Nat.reduceAdd, Nat.reduceLeDiff, hg, f5]
      exact h μ w ⟨hw, h0, h1, h3, hA (by omega), hO⟩
    · exact absurd (nI_le (by omega) (by omega)) c109
  | succ r ih =>
    intro e w μ he hw h0 h1 h2 h3 hA hO
    have f5 : μ 1 g 0 5 = nI m := by rw [hO 1 g (by omega), hG0.1 5 (by omega) (by omega)]; exact hm5
    have f7 : μ 1 g 7 e = cs e := by rw [hO 1 g (by omega)]; exact hG0.2 e (by omega)
    have hv : vp_in (nI e) 6 := vin (by omega) (by omega)
    have hx : ix (nI e) = e := nI_ix (by omega)
    refine go_blk [(.iload 4, 0, 0, 0), (.aload_n 1, 0, 0, 0), (.getfield 53, 1, 5, 0), (.if_icmp .ge 24, 133, 0, 0)] (by decide +kernel) ?_
    simp only [e_ilw_4, e_al_1, e_gf_1_5, e_icmp_ge, rd_1_5, e_nil, nol_n, nol_I, nol_R, rsum_0, rsum_I, rsum_R, ps_s, ps_n, true_and, and_true, Nat.reduceAdd, Nat.reduceLeDiff, hg, f5, f7, hd2, hv, hx]
    refine ⟨fun c109 => ?_, fun c109 => ?_⟩
    · exact absurd c109 (nI_ge (by omega) (by omega))
    · refine go_blk [(.aload_n 0, 0, 0, 0), (.iload 4, 0, 0, 0), (.aload_n 1, 0, 0, 0), (.getfield 59, 1, 6, 0), (.iload 4, 0, 0, 0), (.iaload, 0, 0, 0), (.iload_n 3, 0, 0, 0), (.isub, 0, 0, 0), (.invokevirtual 62, 36, 2, 2)] (by decide +kernel) ?_
      simp only [e_al_0, e_ilw_4, e_al_1, e_gf_1_6, e_ia, e_il_3, e_isub, e_iv_2_2, rd_1_6, ai_0_4, ai_1_7, ai_2_1, ai_2_2, ai_3_1, ai_4_1, ai_6_3, ai_6_4, ai_6_5, ai_6_6, ai_6_7, ai_6_8, ai_8_5, ai_8_6, ai_8_17, ai_8_21, ai_8_23, ai_8_24, ai_8_27, ai_8_28, ai_8_38, ai_8_39, ai_8_40, e_nil, nol_n, nol_I, nol_R, rsum_0, rsum_I, rsum_R, ps_s, ps_n, true_and, and_true, Nat.reduceAdd, Nat.reduceLeDiff, hg, f5, f7, hd2, hv, hx]
      refine ok_wake (A := wyA cs ot sp e) hw (v := 3 - w) (by omega) (by omega) hsp (by omega) h0 h1 h2 h3 hA (by omega) (fun μ2 hW => ?_)
      obtain ⟨⟨g0, g1, g2, g3⟩, -, gN, gO⟩ := hW
      refine go_blk [(.iinc 4 1, 0, 0, 0), (.goto (-27), 103, 0, 0)] (by decide +kernel) ?_
      simp only [e_inc_4_1n, e_inc_4_1I, e_inc_4_1R, e_goto, e_nil, nol_n, nol_I, nol_R, rsum_0, rsum_I, rsum_R, ps_s, ps_n, true_and, and_true, Nat.reduceAdd, Nat.reduceLeDiff, hg, f5, f7, hd2, hv, hx]
      rw [nI_1]
      exact ih (e + 1) (3 - w) μ2 (by omega) (by omega) g0 (by rw [show 3 - (3 - w) = w by omega]; exact g1) g2 g3 (fun _ j hj => gN j hj) (fun c i hc => (gO c i hc).trans (hO c i hc))
def nSt (t : TS) (m : Nat) : Nat := if m = 0 then 1 else 2 ^ spN t
theorem spN_le {t : TS} {op : Nat} (hI : TInv op t) : spN t ≤ 6 := Nat.le_trans (spU_le t 0 _) hI.1
theorem ok_unfold {l : Launch} {K : KK} {d : Nat} {μ : Mm} {P : Option AV → Mm → Prop} {g : Nat} (hg : g < 2) {t : TS} {op : Nat} {cs f : Nat → Int32} {m w : Nat} (hT : TRep μ g t) (hI : TInv op t) (hG : GRep μ g f cs) (hm5 : f 5 = nI m) (hm : m ≤ 6) (hw : w = 1 ∨ w = 2) (h0 : μ 2 0 0 0 = nI w) (h1 : μ 2 0 0 1 = nI (3 - w)) (hd1 : 2 ≤ d) (h : ∀ μ2 w, NRes μ μ2 w (nSt t m) (wyA cs (otN t) (spN t) m) → P none μ2) : Ok l K d 32 [vR 2 0 0, vR 1 g 0] μ P := by
  refine ok_go 5 (by decide +kernel) [some (vR 2 0 0), some (vR 1 g 0), none, none, none] rfl (Nat.le_of_ble_eq_true rfl) ?_
  have hg6 : g < 6 := by omega
  have hd2 : 1 ≤ d := by omega
  have sl := spN_le hI
  refine go_blk [(.aload_n 1, 0, 0, 0), (.getfield 25, 1, 0, 0), (.astore_n 2, 0, 0, 0), (.aload_n 0, 0, 0, 0), (.iconst 0, 0, 0, 0), (.putfield 18, 2, 2, 0)] (by decide +kernel) ?_
  simp only [e_al_1, e_gf_1_0, e_as_2n, e_as_2I, e_as_2R, e_al_0, e_ic_0, e_pf_2_2, rd_1_0, e_nil, nol_n, nol_I, nol_R, rsum_0, rsum_I, rsum_R, ps_s, ps_n, true_and, and_true, Nat.reduceAdd, Nat.reduceLeDiff, hg, hg6]
  refine go_blk [(.iconst 0, 0, 0, 0), (.istore_n 3, 0, 0, 0), (.iconst 0, 0, 0, 0), (.istore 4, 0, 0, 0)] (by decide +kernel) ?_
  simp only [e_ic_0, e_is_3n, e_is_3I, e_is_3R, e_isw_4n, e_isw_4I, e_isw_4R, e_nil, nol_n, nol_I, nol_R, rsum_0, rsum_I, rsum_R, ps_s, ps_n, true_and, and_true, Nat.reduceAdd, Nat.reduceLeDiff, hg, hg6]
  refine lp_unf1 hg (μ0 := μ) hT hI hd1 (fun μ2 hU => ?_) (t 0 1) 0 _ (by omega) ⟨up_self _ _ _ _ _ _, fun c i s j hc => up_ne hc⟩
  have f5 : μ2 1 g 0 5 = nI m := by rw [hU.off (by omega), hG.1 5 (by omega) (by omega)]; exact hm5
  have a0 : μ2 2 0 0 0 = nI w := by rw [hU.2 2 0 0 0 (by omega)]; exact h0
  have a1 : μ2 2 0 0 1 = nI (3 - w) := by rw [hU.2 2 0 0 1 (by omega)]; exact h1
  have a2 := hU.1
  have em : (nI m = 0) = (m = 0) := propext (nI_eq (b := 0) (by omega) (by omega))
  have sh : (1 : Int32) <<< (nI (spN t) &&& 31) = nI (2 ^ spN t) := nI_shl (by omega)
  refine go_blk [(.aload_n 1, 0, 0, 0), (.getfield 53, 1, 5, 0), (.ifCond .ne 8, 90, 0, 0)] (by decide +kernel) ?_
  simp only [e_al_1, e_gf_1_5, e_if_ne, rd_1_5, e_nil, nol_n, nol_I, nol_R, rsum_0, rsum_I, rsum_R, ps_s, ps_n, true_and, and_true, Nat.reduceAdd, Nat.reduceLeDiff, hg, f5, em, hd2, a2, sh, Classical.not_not]
  refine ⟨fun c82 => ?_, fun c82 => ?_⟩
  · refine go_blk [(.aload_n 0, 0, 0, 0), (.iconst 1, 0, 0, 0), (.aload_n 0, 0, 0, 0), (.getfield 18, 2, 2, 0), (.ishl, 0, 0, 0), (.putfield 22, 2, 3, 0)] (by decide +kernel) ?_
    simp only [e_al_0, e_ic_1, e_gf_2_2, e_ishl, e_pf_2_3, rd_2_2, e_nil, nol_n, nol_I, nol_R, rsum_0, rsum_I, rsum_R, ps_s, ps_n, true_and, and_true, Nat.reduceAdd, Nat.reduceLeDiff, hg, f5, em, hd2, a2, sh, Classical.not_not]
    refine go_blk [(.iconst 0, 0, 0, 0), (.istore 4, 0, 0, 0)] (by decide +kernel) ?_
    simp only [e_ic_0, e_isw_4n, e_isw_4I, e_isw_4R, e_nil, nol_n, nol_I, nol_R, rsum_0, rsum_I, rsum_R, ps_s, ps_n, true_and, and_true, Nat.reduceAdd, Nat.reduceLeDiff, hg, f5, em, hd2, a2, sh, Classical.not_not]
    refine lp_unf2 hg (μ0 := μ) (m := m) (sp := spN t) (ot := otN t) hG hm5 hm (by omega) sl hd1 (fun μ3 w3 hR => h μ3 w3 (by unfold nSt; rw [if_neg c82]; exact hR)) m 0 w _ (by omega) hw ?_ ?_ ?_ (up_self _ _ _ _ _ _) (fun z => absurd rfl z) ?_
    · rw [up_ne (by omega)]; exact a0
    · rw [up_ne (by omega)]; exact a1
    · rw [up_ne (by omega)]; exact a2
    · intro c i hc
      rw [← hU.off hc]
      funext s j
      exact up_ne (fun z => hc z.1)
  · refine go_blk [(.aload_n 0, 0, 0, 0), (.invokevirtual 56, 35, 0, 2)] (by decide +kernel) ?_
    simp only [e_al_0, e_iv_2_0, e_nil, nol_n, nol_I, nol_R, rsum_0, rsum_I, rsum_R, ps_s, ps_n, true_and, and_true, Nat.reduceAdd, Nat.reduceLeDiff, hg, f5, em, hd2, a2, sh, Classical.not_not]
    refine ok_startUntold hw a0 ?_
    refine go_blk [(.return_, 0, 0, 0)] (by decide +kernel) ?_
    simp only [e_vret, e_nil, nol_n, nol_I, nol_R, rsum_0, rsum_I, rsum_R, ps_s, ps_n, true_and, and_true, Nat.reduceAdd, Nat.reduceLeDiff, hg, f5, em, hd2, a2, sh, Classical.not_not]
    refine h _ w ⟨hw, ?_, ?_, ?_, ?_, ?_⟩
    · rw [up_ne (by omega), up_ne (by omega)]; exact a0
    · rw [up_ne (by omega), up_ne (by omega)]; exact a1
    · rw [up_ne (by omega), up_self]; unfold nSt; rw [if_pos c82]; rfl
    · intro j hj
      unfold nSt at hj
      rw [if_pos c82] at hj
      have j0 : j = 0 := by omega
      subst j0
      rw [up_self, c82]
      rfl
    · intro c i hc
      rw [← hU.off hc]
      funext s j
      rw [up_ne (fun z => hc z.1), up_ne (fun z => hc z.1)]
