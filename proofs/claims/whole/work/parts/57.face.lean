theorem nle32 {x y : Int32} (h : ¬ x ≤ y) : y < x := Int32.not_le.mp h
theorem nlt32 {x y : Int32} (h : ¬ x < y) : y ≤ x := Int32.not_lt.mp h
theorem sw_out {y : Int32} {n : Int} (h : ∀ j : Int, 0 ≤ j → j ≤ n → ¬ y.toInt = j) : y.toInt < 0 ∨ n < y.toInt := by
  by_cases a : y.toInt < 0
  · exact Or.inl a
  · by_cases c : n < y.toInt
    · exact Or.inr c
    · exact absurd rfl (h y.toInt (by omega) (by omega))
theorem sw_df {pc : Nat} {df n : Int} {offs : Array Int} {y : Int32} {tgt : Nat} (h : y.toInt < 0 ∨ n < y.toInt) (e : (pc : Int) + df = tgt) : swT pc df 0 n offs y.toInt = some (tgt : Int) := by
  unfold swT
  rw [if_pos h, e]
theorem ne_i {y : Int32} {k : Int32} (h : ¬ y = k) : ¬ y.toInt = k.toInt := fun z => h (Int32.toInt_inj.mp z)
theorem xc_letter {l : Launch} {K : KK} {d : Nat} {μ : Mm} {P : Option AV → Mm → Prop} {N : Nat} {S : SS} {x : Int32} (hV : Inv N S) (hR : RC μ S) (hd1 : 14 ≤ d) (h : ∀ μ2, RC μ2 ((aLetter x S).2) → Off8 μ μ2 → P (some (vI ((aLetter x S).1))) μ2) : Ok l K d 74 [vR 7 0 0, vI x] μ P := by
  refine ok_go 2 (by decide +kernel) [some (vR 7 0 0), some (vI x)] rfl (Nat.le_of_ble_eq_true rfl) ?_
  have hR0 := hR
  have hV0 := hV
  obtain ⟨⟨L, pg⟩, ⟨laid, op⟩, t, ⟨f, cs⟩, ⟨im, t2, f2, cs2⟩, q, w, b⟩ := S
  obtain ⟨⟨rP, rC, rW⟩, ⟨rT, rG⟩, ⟨r7, rK⟩, ⟨r8, r9, r10⟩, rN⟩ := hR
  obtain ⟨⟨iL, iP⟩, ⟨iO, iO2⟩, ⟨iT, iF⟩, iK, ⟨iq, iw, ib⟩⟩ := hV
  have hd2 : 1 ≤ d := by omega
  have rL := rP.1
  have e24 : (nI L < 22) = (L < 22) := propext (nI_ltI (b := 22) (by omega) (by omega))
  refine go_blk [(.iload_n 1, 0, 0, 0), (.bipush 32, 0, 0, 0), (.if_icmp .lt 9, 12, 0, 0)] (by decide +kernel) ?_
  simp only [e_il_1, e_bp_32, e_icmp_lt, e_nil, nol_n, nol_I, nol_R, rsum_0, rsum_I, rsum_R, ps_s, ps_n, true_and, and_true, Nat.reduceAdd, Nat.reduceLeDiff, rL, e24, hd2]
  refine ⟨fun c3 => ?_, fun c3 => ?_⟩
  · have e : aLetter x ((L, pg), (laid, op), t, (f, cs), (im, t2, f2, cs2), (q, w, b)) = (-102, ((L, pg), (laid, op), t, (f, cs), (im, t2, f2, cs2), (q, w, b))) := if_pos (Or.inl c3)
    rw [e] at h
    refine go_blk [(.bipush (-102), 0, 0, 0), (.ireturn, 0, 0, 0)] (by decide +kernel) ?_
    simp only [e_bp_m102, e_iret0, e_nil, nol_n, nol_I, nol_R, rsum_0, rsum_I, rsum_R, ps_s, ps_n, true_and, and_true, Nat.reduceAdd, Nat.reduceLeDiff, rL, e24, hd2]
    exact h μ hR0 rfl
  · refine go_blk [(.iload_n 1, 0, 0, 0), (.bipush 126, 0, 0, 0), (.if_icmp .le 6, 15, 0, 0)] (by decide +kernel) ?_
    simp only [e_il_1, e_bp_126, e_icmp_le, e_nil, nol_n, nol_I, nol_R, rsum_0, rsum_I, rsum_R, ps_s, ps_n, true_and, and_true, Nat.reduceAdd, Nat.reduceLeDiff, rL, e24, hd2]
    refine ⟨fun c9 => ?_, fun c9 => ?_⟩
    · obtain ⟨v, hv, rfl⟩ := nI_of2 (n := 126) rfl (fun z => c3 (Int32.lt_of_lt_of_le z (by decide))) c9
      refine go_blk [(.aload_n 0, 0, 0, 0), (.getfield 12, 7, 0, 0), (.getfield 70, 3, 1, 0), (.bipush 22, 0, 0, 0), (.if_icmp .lt 6, 30, 0, 0)] (by decide +kernel) ?_
      simp only [e_al_0, e_gf_7_0, e_gf_3_1, e_bp_22, e_icmp_lt, rd_7_0, rd_3_1, e_nil, nol_n, nol_I, nol_R, rsum_0, rsum_I, rsum_R, ps_s, ps_n, true_and, and_true, Nat.reduceAdd, Nat.reduceLeDiff, rL, e24, hd2]
      refine ⟨fun c24 => ?_, fun c24 => ?_⟩
      · have e : aLetter (nI v) ((L, pg), (laid, op), t, (f, cs), (im, t2, f2, cs2), (q, w, b)) = (nI (L + 1), ((L + 1, fun j => if j = L then ix (nI v) else pg j), (laid, op), t, (f, cs), (im, t2, f2, cs2), (q, w, b))) := by
          show (if _ then _ else if _ then _ else _) = _
          rw [if_neg (fun z => z.elim c3 (fun y => absurd c9 (Int32.not_le.mpr y))), if_neg (by omega)]
        rw [e] at h
        refine go_blk [(.aload_n 0, 0, 0, 0), (.getfield 12, 7, 0, 0), (.iload_n 1, 0, 0, 0), (.invokevirtual 73, 40, 1, 3)] (by decide +kernel) ?_
        simp only [e_al_0, e_gf_7_0, e_il_1, e_iv_3_1, rd_7_0, e_nil, nol_n, nol_I, nol_R, rsum_0, rsum_I, rsum_R, ps_s, ps_n, true_and, and_true, Nat.reduceAdd, Nat.reduceLeDiff, rL, e24, hd2]
        refine ok_append rL c24 (by omega) ?_
        refine go_blk [(.ireturn, 0, 0, 0)] (by decide +kernel) ?_
        simp only [e_iret0, e_nil, nol_n, nol_I, nol_R, rsum_0, rsum_I, rsum_R, ps_s, ps_n, true_and, and_true, Nat.reduceAdd, Nat.reduceLeDiff, rL, e24, hd2]
        have o3 : ∀ c, ¬ c = 3 → (up (up μ 3 0 1 L (nI v)) 3 0 0 1 (nI (L + 1))) c = μ c := fun c hc => by
          funext i s j
          rw [up_ne (by omega), up_ne (by omega)]
        refine h _ ⟨⟨⟨up_self _ _ _ _ _ _, by omega, fun j hj => ?_⟩, rC.off (by rw [o3 0 (by omega)]), fun z => by unfold WRep; rw [o3 0 (by omega)]; exact rW z⟩, ⟨rT.off (by rw [o3 6 (by omega)]), rG.off (by rw [o3 1 (by omega)])⟩, ⟨by rw [o3 7 (by omega)]; exact r7, fun z => ⟨(rK z).1.off (by rw [o3 6 (by omega)]), (rK z).2.off (by rw [o3 1 (by omega)])⟩⟩, ⟨by rw [o3 7 (by omega)]; exact r8, by rw [o3 7 (by omega)]; exact r9, by rw [o3 7 (by omega)]; exact r10⟩, by unfold NtR; rw [o3 2 (by omega)]; exact rN⟩ (o3 8 (by omega))
        rw [up_ne (by omega)]
        show _ = nI (if j = L then ix (nI v) else pg j) ∧ (if j = L then ix (nI v) else pg j) < 127
        by_cases z : j = L
        · subst z
          rw [up_self, if_pos rfl, nI_ix (by omega)]
          exact ⟨rfl, by omega⟩
        · rw [up_ne (by omega), if_neg z]
          exact rP.2.2 j (by omega)
      · have e : aLetter (nI v) ((L, pg), (laid, op), t, (f, cs), (im, t2, f2, cs2), (q, w, b)) = (-104, ((L, pg), (laid, op), t, (f, cs), (im, t2, f2, cs2), (q, w, b))) := by
          show (if _ then _ else if _ then _ else _) = _
          rw [if_neg (fun z => z.elim c3 (fun y => absurd c9 (Int32.not_le.mpr y))), if_pos (by omega)]
        rw [e] at h
        refine go_blk [(.bipush (-104), 0, 0, 0), (.ireturn, 0, 0, 0)] (by decide +kernel) ?_
        simp only [e_bp_m104, e_iret0, e_nil, nol_n, nol_I, nol_R, rsum_0, rsum_I, rsum_R, ps_s, ps_n, true_and, and_true, Nat.reduceAdd, Nat.reduceLeDiff, rL, e24, hd2]
        exact h μ hR0 rfl
    · have e : aLetter x ((L, pg), (laid, op), t, (f, cs), (im, t2, f2, cs2), (q, w, b)) = (-102, ((L, pg), (laid, op), t, (f, cs), (im, t2, f2, cs2), (q, w, b))) := if_pos (Or.inr (nle32 c9))
      rw [e] at h
      refine go_blk [(.bipush (-102), 0, 0, 0), (.ireturn, 0, 0, 0)] (by decide +kernel) ?_
      simp only [e_bp_m102, e_iret0, e_nil, nol_n, nol_I, nol_R, rsum_0, rsum_I, rsum_R, ps_s, ps_n, true_and, and_true, Nat.reduceAdd, Nat.reduceLeDiff, rL, e24, hd2]
      exact h μ hR0 rfl
theorem rc_pg {μ μ2 : Mm} {L L' : Nat} {pg pg' : Nat → Nat} {r : (Bool × Nat) × TS × ((Nat → Int32) × (Nat → Int32)) × (Bool × TS × (Nat → Int32) × (Nat → Int32)) × (Nat × Nat × Nat)} (hR : RC μ ((L, pg), r)) (o3 : ∀ c, ¬ c = 3 → μ2 c = μ c) (hp : PRep μ2 L' pg') : RC μ2 ((L', pg'), r) := by
  obtain ⟨⟨laid, op⟩, t, ⟨f, cs⟩, ⟨im, t2, f2, cs2⟩, q, w, b⟩ := r
  obtain ⟨⟨rP, rC, rW⟩, ⟨rT, rG⟩, ⟨r7, rK⟩, ⟨r8, r9, r10⟩, rN⟩ := hR
  exact ⟨⟨hp, rC.off (by rw [o3 0 (by omega)]), fun z => by unfold WRep; rw [o3 0 (by omega)]; exact rW z⟩, ⟨rT.off (by rw [o3 6 (by omega)]), rG.off (by rw [o3 1 (by omega)])⟩, ⟨by rw [o3 7 (by omega)]; exact r7, fun z => ⟨(rK z).1.off (by rw [o3 6 (by omega)]), (rK z).2.off (by rw [o3 1 (by omega)])⟩⟩, ⟨by rw [o3 7 (by omega)]; exact r8, by rw [o3 7 (by omega)]; exact r9, by rw [o3 7 (by omega)]; exact r10⟩, by unfold NtR; rw [o3 2 (by omega)]; exact rN⟩
theorem pr_0 {μ : Mm} {L : Nat} {pg : Nat → Nat} (v : Int32) (hv : v = 0) : PRep (up μ 3 0 0 1 v) 0 pg := ⟨by rw [up_self, hv]; rfl, by omega, fun j hj => by omega⟩
theorem xc_blank {l : Launch} {K : KK} {d : Nat} {μ : Mm} {P : Option AV → Mm → Prop} {N : Nat} {S : SS} (hV : Inv N S) (hR : RC μ S) (hd1 : 14 ≤ d) (h : ∀ μ2, RC μ2 ((aBlank S).2) → Off8 μ μ2 → P (some (vI ((aBlank S).1))) μ2) : Ok l K d 75 [vR 7 0 0] μ P := by
  refine ok_go 1 (by decide +kernel) [some (vR 7 0 0)] rfl (Nat.le_of_ble_eq_true rfl) ?_
  have hR0 := hR
  have hV0 := hV
  obtain ⟨⟨L, pg⟩, ⟨laid, op⟩, t, ⟨f, cs⟩, ⟨im, t2, f2, cs2⟩, q, w, b⟩ := S
  obtain ⟨⟨rP, rC, rW⟩, ⟨rT, rG⟩, ⟨r7, rK⟩, ⟨r8, r9, r10⟩, rN⟩ := hR
  obtain ⟨⟨iL, iP⟩, ⟨iO, iO2⟩, ⟨iT, iF⟩, iK, ⟨iq, iw, ib⟩⟩ := hV
  have hd2 : 1 ≤ d := by omega
  refine go_blk [(.aload_n 0, 0, 0, 0), (.getfield 12, 7, 0, 0), (.invokevirtual 77, 41, 0, 3)] (by decide +kernel) ?_
  simp only [e_al_0, e_gf_7_0, e_iv_3_0, rd_7_0, e_nil, nol_n, nol_I, nol_R, rsum_0, rsum_I, rsum_R, ps_s, ps_n, true_and, and_true, Nat.reduceAdd, Nat.reduceLeDiff, hd2]
  refine ok_empty rP.1 ?_
  refine go_blk [(.ireturn, 0, 0, 0)] (by decide +kernel) ?_
  simp only [e_iret0, e_nil, nol_n, nol_I, nol_R, rsum_0, rsum_I, rsum_R, ps_s, ps_n, true_and, and_true, Nat.reduceAdd, Nat.reduceLeDiff, hd2]
  have o3 : ∀ c, ¬ c = 3 → (up μ 3 0 0 1 0) c = μ c := fun c hc => by
    funext i s j
    rw [up_ne (by omega)]
  exact h _ (rc_pg hR0 o3 (pr_0 (L := L) 0 rfl)) (o3 8 (by omega))
theorem xc_fault {l : Launch} {K : KK} {d : Nat} {μ : Mm} {P : Option AV → Mm → Prop} {N : Nat} {S : SS} {x : Int32} (hV : Inv N S) (hR : RC μ S) (hd1 : 14 ≤ d) (h : ∀ μ2, RC μ2 (S) → Off8 μ μ2 → P (some (vI (vFault x S))) μ2) : Ok l K d 76 [vR 7 0 0, vI x] μ P := by
  refine ok_go 2 (by decide +kernel) [some (vR 7 0 0), some (vI x)] rfl (Nat.le_of_ble_eq_true rfl) ?_
  have hR0 := hR
  have hV0 := hV
  obtain ⟨⟨L, pg⟩, ⟨laid, op⟩, t, ⟨f, cs⟩, ⟨im, t2, f2, cs2⟩, q, w, b⟩ := S
  obtain ⟨⟨rP, rC, rW⟩, ⟨rT, rG⟩, ⟨r7, rK⟩, ⟨r8, r9, r10⟩, rN⟩ := hR
  obtain ⟨⟨iL, iP⟩, ⟨iO, iO2⟩, ⟨iT, iF⟩, iK, ⟨iq, iw, ib⟩⟩ := hV
  have hd2 : 1 ≤ d := by omega
  refine go_blk [(.iload_n 1, 0, 0, 0), (.ifCond .eq 11, 12, 0, 0)] (by decide +kernel) ?_
  simp only [e_il_1, e_if_eq, e_nil, nol_n, nol_I, nol_R, rsum_0, rsum_I, rsum_R, ps_s, ps_n, true_and, and_true, Nat.reduceAdd, Nat.reduceLeDiff, hd2]
  refine ⟨fun c1 => ?_, fun c1 => ?_⟩
  · subst c1
    refine go_blk [(.aload_n 0, 0, 0, 0), (.getfield 12, 7, 0, 0), (.iload_n 1, 0, 0, 0), (.invokevirtual 81, 45, 1, 3)] (by decide +kernel) ?_
    simp only [e_al_0, e_gf_7_0, e_il_1, e_iv_3_1, rd_7_0, e_nil, nol_n, nol_I, nol_R, rsum_0, rsum_I, rsum_R, ps_s, ps_n, true_and, and_true, Nat.reduceAdd, Nat.reduceLeDiff, hd2]
    refine ok_firstFault0 rP (by omega) ?_
    refine go_blk [(.ireturn, 0, 0, 0)] (by decide +kernel) ?_
    simp only [e_iret0, e_nil, nol_n, nol_I, nol_R, rsum_0, rsum_I, rsum_R, ps_s, ps_n, true_and, and_true, Nat.reduceAdd, Nat.reduceLeDiff, hd2]
    exact h μ hR0 rfl
  · refine go_blk [(.iload_n 1, 0, 0, 0), (.iconst 1, 0, 0, 0), (.if_icmp .eq 6, 12, 0, 0)] (by decide +kernel) ?_
    simp only [e_il_1, e_ic_1, e_icmp_eq, e_nil, nol_n, nol_I, nol_R, rsum_0, rsum_I, rsum_R, ps_s, ps_n, true_and, and_true, Nat.reduceAdd, Nat.reduceLeDiff, hd2]
    refine ⟨fun c6 => ?_, fun c6 => ?_⟩
    · subst c6
      refine go_blk [(.aload_n 0, 0, 0, 0), (.getfield 12, 7, 0, 0), (.iload_n 1, 0, 0, 0), (.invokevirtual 81, 45, 1, 3)] (by decide +kernel) ?_
      simp only [e_al_0, e_gf_7_0, e_il_1, e_iv_3_1, rd_7_0, e_nil, nol_n, nol_I, nol_R, rsum_0, rsum_I, rsum_R, ps_s, ps_n, true_and, and_true, Nat.reduceAdd, Nat.reduceLeDiff, hd2]
      refine ok_firstFault1 rP (by omega) ?_
      refine go_blk [(.ireturn, 0, 0, 0)] (by decide +kernel) ?_
      simp only [e_iret0, e_nil, nol_n, nol_I, nol_R, rsum_0, rsum_I, rsum_R, ps_s, ps_n, true_and, and_true, Nat.reduceAdd, Nat.reduceLeDiff, hd2]
      exact h μ hR0 rfl
    · have e : vFault x ((L, pg), (laid, op), t, (f, cs), (im, t2, f2, cs2), (q, w, b)) = -102 := by
        show (if _ then _ else if _ then _ else _) = _
        rw [if_neg c1, if_neg c6]
      rw [e] at h
      refine go_blk [(.bipush (-102), 0, 0, 0), (.ireturn, 0, 0, 0)] (by decide +kernel) ?_
      simp only [e_bp_m102, e_iret0, e_nil, nol_n, nol_I, nol_R, rsum_0, rsum_I, rsum_R, ps_s, ps_n, true_and, and_true, Nat.reduceAdd, Nat.reduceLeDiff, hd2]
      exact h μ hR0 rfl
theorem xc_cell {l : Launch} {K : KK} {d : Nat} {μ : Mm} {P : Option AV → Mm → Prop} {N : Nat} {S : SS} {x y : Int32} (hV : Inv N S) (hR : RC μ S) (hd1 : 14 ≤ d) (h : ∀ μ2, RC μ2 (S) → Off8 μ μ2 → P (some (vI (vCell x y S))) μ2) : Ok l K d 79 [vR 7 0 0, vI x, vI y] μ P := by
  refine ok_go 3 (by decide +kernel) [some (vR 7 0 0), some (vI x), some (vI y)] rfl (Nat.le_of_ble_eq_true rfl) ?_
  have hR0 := hR
  have hV0 := hV
  obtain ⟨⟨L, pg⟩, ⟨laid, op⟩, t, ⟨f, cs⟩, ⟨im, t2, f2, cs2⟩, q, w, b⟩ := S
  obtain ⟨⟨rP, rC, rW⟩, ⟨rT, rG⟩, ⟨r7, rK⟩, ⟨r8, r9, r10⟩, rN⟩ := hR
  obtain ⟨⟨iL, iP⟩, ⟨iO, iO2⟩, ⟨iT, iF⟩, iK, ⟨iq, iw, ib⟩⟩ := hV
  have hd2 : 1 ≤ d := by omega
  have rO := rC.2.1
  have rL0 := rC.1
  refine go_blk [(.aload_n 0, 0, 0, 0), (.getfield 19, 7, 1, 0), (.iload_n 1, 0, 0, 0), (.invokevirtual 111, 2, 1, 0)] (by decide +kernel) ?_
  simp only [e_al_0, e_gf_7_1, e_il_1, e_iv_0_1, rd_7_1, e_nil, nol_n, nol_I, nol_R, rsum_0, rsum_I, rsum_R, ps_s, ps_n, true_and, and_true, Nat.reduceAdd, Nat.reduceLeDiff, hd2, bi_0, rO, Nat.reduceLT]
  refine ok_c_has rL0 ?_
  refine go_blk [(.ifCond .ne 6, 14, 0, 0)] (by decide +kernel) ?_
  simp only [e_if_ne, e_nil, nol_n, nol_I, nol_R, rsum_0, rsum_I, rsum_R, ps_s, ps_n, true_and, and_true, Nat.reduceAdd, Nat.reduceLeDiff, hd2, bi_0, rO, Nat.reduceLT]
  refine ⟨fun c8 => ?_, fun c8 => ?_⟩
  · have c8b : clB laid x = true := eq_true_of_ne_false c8
    obtain ⟨hl, c, hc, rfl⟩ := cl_of c8b
    subst hl
    have xc : ix (nI c) = c := nI_ix (by omega)
    refine go_blk [(.iload_n 2, 0, 0, 0), (.tableswitch 63 0 2 #[25, 42, 54], 0, 0, 0)] (by decide +kernel) ?_
    simp only [e_il_2, e_tsw, e_nil, nol_n, nol_I, nol_R, rsum_0, rsum_I, rsum_R, ps_s, ps_n, true_and, and_true, Nat.reduceAdd, Nat.reduceLeDiff, hd2, bi_0, rO, Nat.reduceLT]
    rcases (show y = 0 ∨ y = 1 ∨ y = 2 ∨ (¬ y = 0 ∧ ¬ y = 1 ∧ ¬ y = 2) by
      by_cases a0 : y = 0
      · exact Or.inl a0
      · by_cases a1 : y = 1
        · exact Or.inr (Or.inl a1)
        · by_cases a2 : y = 2
          · exact Or.inr (Or.inr (Or.inl a2))
          · exact Or.inr (Or.inr (Or.inr ⟨a0, a1, a2⟩))) with y0 | y1 | y2 | y3
    · subst y0
      have e : vCell (nI c) 0 ((L, pg), (true, op), t, (f, cs), (im, t2, f2, cs2), (q, w, b)) = bi (op.testBit c) := by
        show (if clB true (nI c) = true then (if _ then _ else if _ then _ else if _ then _ else _) else _) = _
        rw [if_pos c8b, if_pos rfl, xc]
      rw [e] at h
      refine ⟨40, by decide, ?_⟩
      refine go_blk [(.aload_n 0, 0, 0, 0), (.getfield 19, 7, 1, 0), (.iload_n 1, 0, 0, 0), (.invokevirtual 115, 3, 1, 0)] (by decide +kernel) ?_
      simp only [e_al_0, e_gf_7_1, e_il_1, e_iv_0_1, rd_7_1, e_nil, nol_n, nol_I, nol_R, rsum_0, rsum_I, rsum_R, ps_s, ps_n, true_and, and_true, Nat.reduceAdd, Nat.reduceLeDiff, hd2, bi_0, rO, Nat.reduceLT]
      refine ok_isOpen rO iO hc ?_
      refine go_blk [(.ifCond .eq 7, 55, 0, 0)] (by decide +kernel) ?_
      simp only [e_if_eq, e_nil, nol_n, nol_I, nol_R, rsum_0, rsum_I, rsum_R, ps_s, ps_n, true_and, and_true, Nat.reduceAdd, Nat.reduceLeDiff, hd2, bi_0, rO, Nat.reduceLT]
      refine ⟨fun c48 => ?_, fun c48 => ?_⟩
      · rw [c48] at h
        refine go_blk [(.iconst 0, 0, 0, 0), (.ireturn, 0, 0, 0)] (by decide +kernel) ?_
        simp only [e_ic_0, e_iret0, e_nil, nol_n, nol_I, nol_R, rsum_0, rsum_I, rsum_R, ps_s, ps_n, true_and, and_true, Nat.reduceAdd, Nat.reduceLeDiff, hd2, bi_0, rO, Nat.reduceLT]
        exact h μ hR0 rfl
      · rw [eq_true_of_ne_false c48] at h
        refine go_blk [(.iconst 1, 0, 0, 0), (.goto 4, 56, 0, 0), (.ireturn, 0, 0, 0)] (by decide +kernel) ?_
        simp only [e_ic_1, e_goto, e_iret0, e_nil, nol_n, nol_I, nol_R, rsum_0, rsum_I, rsum_R, ps_s, ps_n, true_and, and_true, Nat.reduceAdd, Nat.reduceLeDiff, hd2, bi_0, rO, Nat.reduceLT]
        exact h μ hR0 rfl
    · subst y1
      have e : vCell (nI c) 1 ((L, pg), (true, op), t, (f, cs), (im, t2, f2, cs2), (q, w, b)) = who t c := by
        show (if clB true (nI c) = true then (if _ then _ else if _ then _ else if _ then _ else _) else _) = _
        rw [if_pos c8b, if_neg (by decide), if_pos rfl, xc]
      rw [e] at h
      refine ⟨57, by decide, ?_⟩
      refine go_blk [(.aload_n 0, 0, 0, 0), (.getfield 28, 7, 2, 0), (.getfield 118, 1, 0, 0), (.iload_n 1, 0, 0, 0), (.invokevirtual 122, 62, 1, 6)] (by decide +kernel) ?_
      simp only [e_al_0, e_gf_7_2, e_gf_1_0, e_il_1, e_iv_6_1, rd_7_2, rd_1_0, e_nil, nol_n, nol_I, nol_R, rsum_0, rsum_I, rsum_R, ps_s, ps_n, true_and, and_true, Nat.reduceAdd, Nat.reduceLeDiff, hd2, bi_0, rO, Nat.reduceLT]
      refine ok_whoIsAt (by omega) rT iT.1 (by omega) (fun j hj => (iT.2.1 j hj).2.2.1) ?_
      refine go_blk [(.ireturn, 0, 0, 0)] (by decide +kernel) ?_
      simp only [e_iret0, e_nil, nol_n, nol_I, nol_R, rsum_0, rsum_I, rsum_R, ps_s, ps_n, true_and, and_true, Nat.reduceAdd, Nat.reduceLeDiff, hd2, bi_0, rO, Nat.reduceLT]
      exact h μ hR0 rfl
    · subst y2
      have e : vCell (nI c) 2 ((L, pg), (true, op), t, (f, cs), (im, t2, f2, cs2), (q, w, b)) = nI (sn op c) := by
        show (if clB true (nI c) = true then (if _ then _ else if _ then _ else if _ then _ else _) else _) = _
        rw [if_pos c8b, if_neg (by decide), if_neg (by decide), if_pos rfl, xc]
      rw [e] at h
      refine ⟨69, by decide, ?_⟩
      refine go_blk [(.aload_n 0, 0, 0, 0), (.getfield 19, 7, 1, 0), (.iload_n 1, 0, 0, 0), (.invokevirtual 127, 5, 1, 0)] (by decide +kernel) ?_
      simp only [e_al_0, e_gf_7_1, e_il_1, e_iv_0_1, rd_7_1, e_nil, nol_n, nol_I, nol_R, rsum_0, rsum_I, rsum_R, ps_s, ps_n, true_and, and_true, Nat.reduceAdd, Nat.reduceLeDiff, hd2, bi_0, rO, Nat.reduceLT]
      refine ok_seenFrom hc ((rC.2.2.2.2 rfl).2 c hc) ?_
      refine go_blk [(.ireturn, 0, 0, 0)] (by decide +kernel) ?_
      simp only [e_iret0, e_nil, nol_n, nol_I, nol_R, rsum_0, rsum_I, rsum_R, ps_s, ps_n, true_and, and_true, Nat.reduceAdd, Nat.reduceLeDiff, hd2, bi_0, rO, Nat.reduceLT]
      exact h μ hR0 rfl
    · have e : vCell (nI c) y ((L, pg), (true, op), t, (f, cs), (im, t2, f2, cs2), (q, w, b)) = -102 := by
        show (if clB true (nI c) = true then (if _ then _ else if _ then _ else if _ then _ else _) else _) = _
        rw [if_pos c8b, if_neg y3.1, if_neg y3.2.1, if_neg y3.2.2]
      rw [e] at h
      refine ⟨78, sw_df (n := 2) (sw_out (fun j h1 h2 => by
        rcases (show j = 0 ∨ j = 1 ∨ j = 2 by omega) with z | z | z <;> rw [z]
        · exact ne_i (k := 0) y3.1
        · exact ne_i (k := 1) y3.2.1
        · exact ne_i (k := 2) y3.2.2)) (by decide), ?_⟩
      refine go_blk [(.bipush (-102), 0, 0, 0), (.ireturn, 0, 0, 0)] (by decide +kernel) ?_
      simp only [e_bp_m102, e_iret0, e_nil, nol_n, nol_I, nol_R, rsum_0, rsum_I, rsum_R, ps_s, ps_n, true_and, and_true, Nat.reduceAdd, Nat.reduceLeDiff, hd2, bi_0, rO, Nat.reduceLT]
      exact h μ hR0 rfl
  · have e : vCell x y ((L, pg), (laid, op), t, (f, cs), (im, t2, f2, cs2), (q, w, b)) = -101 := if_neg (by rw [show clB laid x = false from c8]; decide)
    rw [e] at h
    refine go_blk [(.bipush (-101), 0, 0, 0), (.ireturn, 0, 0, 0)] (by decide +kernel) ?_
    simp only [e_bp_m101, e_iret0, e_nil, nol_n, nol_I, nol_R, rsum_0, rsum_I, rsum_R, ps_s, ps_n, true_and, and_true, Nat.reduceAdd, Nat.reduceLeDiff, hd2, bi_0, rO, Nat.reduceLT]
    exact h μ hR0 rfl
