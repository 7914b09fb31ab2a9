def MidOk (l : Launch) (K : KK) (op fs : Nat) : Prop := ∀ (d : Nat) (μ : Mm) (t : TS) (u : Nat) (P : Option AV → Mm → Prop), 8 ≤ d → u < 2 → TInv op t → MRep μ t → μ 8 0 0 2 = nI op → μ 8 0 0 24 = nI fs → (∀ μ2, MRep μ2 t → OffA (u + 1) μ μ2 → P (some (vI (mnP op fs 2 t ((fs + u) % 2)).1)) μ2) → Ok l K d 155 [vR 8 0 0, vI (nI u)] μ P
theorem lp_mid {l : Launch} {K : KK} {d : Nat} {P : Option AV → Mm → Prop} {μ0 : Mm} {op fs u sd : Nat} {t : TS} {G : Nat → Int32 × Int32 → Int32 × Int32} (hop : op < 2 ^ 15) (hfs : fs < 2) (hu : u < 2) (hd1 : 8 ≤ d) (hI : TInv op t) (ho : μ0 8 0 0 2 = nI op) (h24 : μ0 8 0 0 24 = nI fs) (hsd : sd = (fs + u) % 2) (hS0 : SvR μ0 (u + 1) t) (hG : ∀ q x, G q x = gP op fs 1 t sd (q / t 0 1) (q % t 0 1) x) : ∀ (r k : Nat) (x : Int32 × Int32) (μ : Mm) (y4 y5 y6 y7 y8 : Option AV), k + r = t 0 1 * t 0 1 → MRep μ t → OffA (u + 2) μ0 μ → (∀ μ2, MRep μ2 t → OffA (u + 2) μ0 μ2 → P (some (vI (mnF G r k x).1)) μ2) → Go l K d 155 27 [some (vR 8 0 0), some (vI (nI u)), some (vI x.1), some (vI (nI k)), y4, y5, y6, y7, y8] [] μ P := by
  have hd2 : 1 ≤ d := by omega
  have hn := hI.1
  have nn : t 0 1 * t 0 1 ≤ 36 := Nat.mul_le_mul hn hn
  have eu : nI u + 1 = nI (u + 1) := nI_1 u
  have e1s : (fs + (u + 1)) % 2 = 1 - sd := by omega
  have hL := last_ok (l := l) (K := K) hop hfs
  intro r
  induction r with
  | zero =>
    intro k x μ y4 y5 y6 y7 y8 hk hM hO h
    have m3 := hM.1.1
    have em := pk_mul (t 0 1) (t 0 1)
    refine go_blk [(.iload_n 3, 0, 0, 0), (.aload_n 0, 0, 0, 0), (.getfield 96, 8, 3, 0), (.aload_n 0, 0, 0, 0), (.getfield 96, 8, 3, 0), (.imul, 0, 0, 0), (.if_icmp .ge 124, 161, 0, 0)] (by decide +kernel) ?_
    simp only [e_il_3, e_al_0, e_gf_8_3, e_imul, e_icmp_ge, rd_8_3, e_nil, nol_n, nol_I, nol_R, rsum_0, rsum_I, rsum_R, ps_s, ps_n, true_and, and_true, Nat.reduceAdd, Nat.reduceLeDiff, m3, em]
    refine ⟨fun c37 => ?_, fun c37 => ?_⟩
    · refine go_blk [(.iload_n 2, 0, 0, 0), (.ireturn, 0, 0, 0)] (by decide +kernel) ?_
      simp only [e_il_2, e_iret0, e_nil, nol_n, nol_I, nol_R, rsum_0, rsum_I, rsum_R, ps_s, ps_n, true_and, and_true, Nat.reduceAdd, Nat.reduceLeDiff, m3, em]
      exact h μ hM hO
    · exact absurd (nI_le (by omega) (by omega)) c37
  | succ r ih =>
    intro k x μ y4 y5 y6 y7 y8 hk hM hO h
    have m3 := hM.1.1
    have em := pk_mul (t 0 1) (t 0 1)
    obtain ⟨n0, ka, kb⟩ := k_div (k := k) (n := t 0 1) (by omega)
    have ea : nI k / nI (t 0 1) = nI (k / t 0 1) := pk_div (by omega) n0 (by omega)
    have eb : nI k - nI (k / t 0 1) * nI (t 0 1) = nI (k % t 0 1) := by rw [← ea]; exact pk_rem (by omega) n0 (by omega)
    have nz : (nI (t 0 1) = 0) = False := eq_false (nI_ne0 n0 (by omega))
    have uu : mnF G (r + 1) k x = mnF G r (k + 1) (G k x) := rfl
    rw [uu, hG] at h
    generalize k / t 0 1 = a at *
    generalize k % t 0 1 = b at *
    have cl := chS_le op t a b
    have e72 : (nI (chS op t a b) ≤ 0) = (chS op t a b = 0) := le0 (by omega)
    have ho1 : μ 8 0 0 2 = nI op := (hO 8 0 0 2 (by omega) (by omega)).trans ho
    have h241 : μ 8 0 0 24 = nI fs := (hO 8 0 0 24 (by omega) (by omega)).trans h24
    refine go_blk [(.iload_n 3, 0, 0, 0), (.aload_n 0, 0, 0, 0), (.getfield 96, 8, 3, 0), (.aload_n 0, 0, 0, 0), (.getfield 96, 8, 3, 0), (.imul, 0, 0, 0), (.if_icmp .ge 124, 161, 0, 0)] (by decide +kernel) ?_
    simp only [e_il_3, e_al_0, e_gf_8_3, e_imul, e_icmp_ge, rd_8_3, e_nil, nol_n, nol_I, nol_R, rsum_0, rsum_I, rsum_R, ps_s, ps_n, true_and, and_true, Nat.reduceAdd, Nat.reduceLeDiff, hd2, m3, em, ea, eb, nz, eu, e72, bi_0, true_implies, false_implies, not_true_eq_false, not_false_eq_true]
    refine ⟨fun c37 => ?_, fun c37 => ?_⟩
    · exact absurd c37 (nI_ge (by omega) (by omega))
    · refine go_blk [(.iload_n 3, 0, 0, 0), (.aload_n 0, 0, 0, 0), (.getfield 96, 8, 3, 0), (.idiv, 0, 0, 0), (.istore 4, 0, 0, 0), (.iload_n 3, 0, 0, 0), (.aload_n 0, 0, 0, 0), (.getfield 96, 8, 3, 0), (.irem, 0, 0, 0), (.istore 5, 0, 0, 0), (.aload_n 0, 0, 0, 0), (.iload 4, 0, 0, 0), (.iload_n 1, 0, 0, 0), (.invokevirtual 205, 151, 2, 8)] (by decide +kernel) ?_
      simp only [e_il_3, e_al_0, e_gf_8_3, e_idiv, e_isw_4n, e_isw_4I, e_isw_4R, e_irem, e_isw_5n, e_isw_5I, e_isw_5R, e_ilw_4, e_il_1, e_iv_8_2, rd_8_3, e_nil, nol_n, nol_I, nol_R, rsum_0, rsum_I, rsum_R, ps_s, ps_n, true_and, and_true, Nat.reduceAdd, Nat.reduceLeDiff, hd2, m3, em, ea, eb, nz, eu, e72, bi_0, true_implies, false_implies, not_true_eq_false, not_false_eq_true]
      refine okm_turn hI hM ka hfs (by omega) h241 ?_
      refine go_blk [(.ifCond .eq 14, 77, 0, 0)] (by decide +kernel) ?_
      simp only [e_if_eq, e_nil, nol_n, nol_I, nol_R, rsum_0, rsum_I, rsum_R, ps_s, ps_n, true_and, and_true, Nat.reduceAdd, Nat.reduceLeDiff, hd2, m3, em, ea, eb, nz, eu, e72, bi_0, true_implies, false_implies, not_true_eq_false, not_false_eq_true]
      refine ⟨fun c63 => ?_, fun c63 => ?_⟩
      · have z : mch op t sd a b = 0 := if_neg (fun q => by have := of_decide_eq_false c63; rw [← hsd] at this; exact this q.2)
        refine go_blk [(.iconst 0, 0, 0, 0), (.istore 6, 0, 0, 0), (.iload 6, 0, 0, 0), (.ifCond .le 73, 155, 0, 0)] (by decide +kernel) ?_
        simp only [e_ic_0, e_isw_6n, e_isw_6I, e_isw_6R, e_ilw_6, e_if_le, e_nil, (show ((0 : Int32) ≤ 0) = True by decide), true_implies, false_implies, not_true_eq_false, not_false_eq_true, nol_n, nol_I, nol_R, rsum_0, rsum_I, rsum_R, ps_s, ps_n, true_and, and_true, Nat.reduceAdd, Nat.reduceLeDiff, hd2, m3, em, ea, eb, nz, eu, e72, bi_0, true_implies, false_implies, not_true_eq_false, not_false_eq_true]
        refine go_blk [(.iinc 3 1, 0, 0, 0), (.goto (-131), 27, 0, 0)] (by decide +kernel) ?_
        simp only [e_inc_3_1n, e_inc_3_1I, e_inc_3_1R, e_goto, e_nil, nol_n, nol_I, nol_R, rsum_0, rsum_I, rsum_R, ps_s, ps_n, true_and, and_true, Nat.reduceAdd, Nat.reduceLeDiff, hd2, m3, em, ea, eb, nz, eu, e72, bi_0, true_implies, false_implies, not_true_eq_false, not_false_eq_true]
        rw [nI_1]
        rw [gP_0 z] at h
        exact ih (k + 1) x μ _ _ _ _ _ (by omega) hM hO h
      · have e4 : t 4 a = sd := by rw [hsd]; exact of_decide_eq_true (eq_true_of_ne_false c63)
        refine go_blk [(.aload_n 0, 0, 0, 0), (.iload 4, 0, 0, 0), (.iload 5, 0, 0, 0), (.invokevirtual 161, 132, 2, 8)] (by decide +kernel) ?_
        simp only [e_al_0, e_ilw_4, e_ilw_5, e_iv_8_2, e_nil, nol_n, nol_I, nol_R, rsum_0, rsum_I, rsum_R, ps_s, ps_n, true_and, and_true, Nat.reduceAdd, Nat.reduceLeDiff, hd2, m3, em, ea, eb, nz, eu, e72, bi_0, true_implies, false_implies, not_true_eq_false, not_false_eq_true]
        refine okm_tenths hI hM ho1 hop ka kb (by omega) ?_
        refine go_blk [(.goto 4, 78, 0, 0), (.istore 6, 0, 0, 0), (.iload 6, 0, 0, 0), (.ifCond .le 73, 155, 0, 0)] (by decide +kernel) ?_
        simp only [e_goto, e_isw_6n, e_isw_6I, e_isw_6R, e_ilw_6, e_if_le, e_nil, nol_n, nol_I, nol_R, rsum_0, rsum_I, rsum_R, ps_s, ps_n, true_and, and_true, Nat.reduceAdd, Nat.reduceLeDiff, hd2, m3, em, ea, eb, nz, eu, e72, bi_0, true_implies, false_implies, not_true_eq_false, not_false_eq_true]
        refine ⟨fun c82 => ?_, fun c82 => ?_⟩
        · have z : mch op t sd a b = 0 := by unfold mch; rw [c82]; exact ite_self 0
          refine go_blk [(.iinc 3 1, 0, 0, 0), (.goto (-131), 27, 0, 0)] (by decide +kernel) ?_
          simp only [e_inc_3_1n, e_inc_3_1I, e_inc_3_1R, e_goto, e_nil, nol_n, nol_I, nol_R, rsum_0, rsum_I, rsum_R, ps_s, ps_n, true_and, and_true, Nat.reduceAdd, Nat.reduceLeDiff, hd2, m3, em, ea, eb, nz, eu, e72, bi_0, true_implies, false_implies, not_true_eq_false, not_false_eq_true]
          rw [nI_1]
          rw [gP_0 z] at h
          exact ih (k + 1) x μ _ _ _ _ _ (by omega) hM hO h
        · refine go_blk [(.aload_n 0, 0, 0, 0), (.iload 4, 0, 0, 0), (.iload 5, 0, 0, 0), (.iconst 1, 0, 0, 0), (.invokevirtual 208, 153, 3, 8)] (by decide +kernel) ?_
          simp only [e_al_0, e_ilw_4, e_ilw_5, e_ic_1, e_iv_8_3, e_nil, nol_n, nol_I, nol_R, rsum_0, rsum_I, rsum_R, ps_s, ps_n, true_and, and_true, Nat.reduceAdd, Nat.reduceLeDiff, hd2, m3, em, ea, eb, nz, eu, e72, bi_0, true_implies, false_implies, not_true_eq_false, not_false_eq_true]
          refine okm_shootThen (hit := true) hI hM ho1 hop c82 (by omega) (fun μ1 fM fO => ?_)
          obtain ⟨ca, cb, -, cs, -, cp, -⟩ := chS_pos c82
          obtain ⟨iI, iN, i35⟩ := fire_inv (a := a) (hit := true) hI cb cs
          have o1 := offa_tr hO (offa_m fO)
          refine go_blk [(.aload_n 0, 0, 0, 0), (.iload_n 1, 0, 0, 0), (.iconst 1, 0, 0, 0), (.iadd, 0, 0, 0), (.invokevirtual 218, 154, 1, 8)] (by decide +kernel) ?_
          simp only [e_al_0, e_il_1, e_ic_1, e_iadd, e_iv_8_1, e_nil, nol_n, nol_I, nol_R, rsum_0, rsum_I, rsum_R, ps_s, ps_n, true_and, and_true, Nat.reduceAdd, Nat.reduceLeDiff, hd2, m3, em, ea, eb, nz, eu, e72, bi_0, true_implies, false_implies, not_true_eq_false, not_false_eq_true]
          refine hL _ _ _ (u + 1) _ (by omega) (by omega) iI fM ((o1 8 0 0 2 (by omega) (by omega)).trans ho) ((o1 8 0 0 24 (by omega) (by omega)).trans h24) (fun μ2 lM lO => ?_)
          rw [e1s]
          have o2 := offa_tr o1 lO
          refine go_blk [(.istore 7, 0, 0, 0), (.aload_n 0, 0, 0, 0), (.iload_n 1, 0, 0, 0), (.iconst 1, 0, 0, 0), (.iadd, 0, 0, 0), (.invokevirtual 212, 149, 1, 8)] (by decide +kernel) ?_
          simp only [e_isw_7n, e_isw_7I, e_isw_7R, e_al_0, e_il_1, e_ic_1, e_iadd, e_iv_8_1, e_nil, nol_n, nol_I, nol_R, rsum_0, rsum_I, rsum_R, ps_s, ps_n, true_and, and_true, Nat.reduceAdd, Nat.reduceLeDiff, hd2, m3, em, ea, eb, nz, eu, e72, bi_0, true_implies, false_implies, not_true_eq_false, not_false_eq_true]
          refine okm_load (lv := u + 1) (t := t) (by omega) lM iN.symm (fun j => ⟨(i35 j).1.symm, (i35 j).2.1.symm⟩) (sv_off hS0 o2 (by omega)) (fun μ3 tM tO => ?_)
          have o3 := offa_tr o2 (offa_m tO)
          refine go_blk [(.aload_n 0, 0, 0, 0), (.iload 4, 0, 0, 0), (.iload 5, 0, 0, 0), (.iconst 0, 0, 0, 0), (.invokevirtual 208, 153, 3, 8)] (by decide +kernel) ?_
          simp only [e_al_0, e_ilw_4, e_ilw_5, e_ic_0, e_iv_8_3, e_nil, nol_n, nol_I, nol_R, rsum_0, rsum_I, rsum_R, ps_s, ps_n, true_and, and_true, Nat.reduceAdd, Nat.reduceLeDiff, hd2, m3, em, ea, eb, nz, eu, e72, bi_0, true_implies, false_implies, not_true_eq_false, not_false_eq_true]
          refine okm_shootThen (hit := false) hI tM ((o3 8 0 0 2 (by omega) (by omega)).trans ho) hop c82 (by omega) (fun μ4 pM pO => ?_)
          rw [fire_0] at pM
          have o4 := offa_tr o3 (offa_m pO)
          refine go_blk [(.aload_n 0, 0, 0, 0), (.iload_n 1, 0, 0, 0), (.iconst 1, 0, 0, 0), (.iadd, 0, 0, 0), (.invokevirtual 218, 154, 1, 8)] (by decide +kernel) ?_
          simp only [e_al_0, e_il_1, e_ic_1, e_iadd, e_iv_8_1, e_nil, nol_n, nol_I, nol_R, rsum_0, rsum_I, rsum_R, ps_s, ps_n, true_and, and_true, Nat.reduceAdd, Nat.reduceLeDiff, hd2, m3, em, ea, eb, nz, eu, e72, bi_0, true_implies, false_implies, not_true_eq_false, not_false_eq_true]
          refine hL _ _ _ (u + 1) _ (by omega) (by omega) (pea_inv hI) pM ((o4 8 0 0 2 (by omega) (by omega)).trans ho) ((o4 8 0 0 24 (by omega) (by omega)).trans h24) (fun μ5 qM qO => ?_)
          rw [e1s]
          have o5 := offa_tr o4 qO
          refine go_blk [(.istore 8, 0, 0, 0), (.aload_n 0, 0, 0, 0), (.iload_n 1, 0, 0, 0), (.iconst 1, 0, 0, 0), (.iadd, 0, 0, 0), (.invokevirtual 212, 149, 1, 8)] (by decide +kernel) ?_
          simp only [e_isw_8n, e_isw_8I, e_isw_8R, e_al_0, e_il_1, e_ic_1, e_iadd, e_iv_8_1, e_nil, nol_n, nol_I, nol_R, rsum_0, rsum_I, rsum_R, ps_s, ps_n, true_and, and_true, Nat.reduceAdd, Nat.reduceLeDiff, hd2, m3, em, ea, eb, nz, eu, e72, bi_0, true_implies, false_implies, not_true_eq_false, not_false_eq_true]
          refine okm_load (lv := u + 1) (t := t) (by omega) qM (pea_n t a).symm (fun j => ⟨((pea_m (t := t) (a := a)).2.2.2 j).1.symm, ((pea_m (t := t) (a := a)).2.2.2 j).2.symm⟩) (sv_off hS0 o5 (by omega)) (fun μ6 rM rO => ?_)
          have o6 := offa_tr o5 (offa_m rO)
          refine go_blk [(.iload_n 1, 0, 0, 0), (.iload_n 2, 0, 0, 0), (.iload 6, 0, 0, 0), (.iload 7, 0, 0, 0), (.imul, 0, 0, 0), (.bipush 10, 0, 0, 0), (.iload 6, 0, 0, 0), (.isub, 0, 0, 0), (.iload 8, 0, 0, 0), (.imul, 0, 0, 0), (.iadd, 0, 0, 0), (.invokestatic 215, 152, 3, 0)] (by decide +kernel) ?_
          simp only [e_il_1, e_il_2, e_ilw_6, e_ilw_7, e_imul, e_bp_10, e_isub, e_ilw_8, e_iadd, e_ivs_3, e_nil, Nat.reduceLT, nol_n, nol_I, nol_R, rsum_0, rsum_I, rsum_R, ps_s, ps_n, true_and, and_true, Nat.reduceAdd, Nat.reduceLeDiff, hd2, m3, em, ea, eb, nz, eu, e72, bi_0, true_implies, false_implies, not_true_eq_false, not_false_eq_true]
          refine okm_better (u := u) (by omega) ?_
          have eg := gP_1 (op := op) (fs := fs) (k := 1) (u := u) (x := x) (hv := (mnP op fs 1 (fireS op t a b true).1 (1 - sd)).1) (ms := (mnP op fs 1 (pea t a) (1 - sd)).1) c82 e4 hsd hfs rfl (by rw [← e4]; rfl)
          rw [← eg]
          refine go_blk [(.istore_n 2, 0, 0, 0), (.iinc 3 1, 0, 0, 0), (.goto (-131), 27, 0, 0)] (by decide +kernel) ?_
          simp only [e_is_2n, e_is_2I, e_is_2R, e_inc_3_1n, e_inc_3_1I, e_inc_3_1R, e_goto, e_nil, nol_n, nol_I, nol_R, rsum_0, rsum_I, rsum_R, ps_s, ps_n, true_and, and_true, Nat.reduceAdd, Nat.reduceLeDiff, hd2, m3, em, ea, eb, nz, eu, e72, bi_0, true_implies, false_implies, not_true_eq_false, not_false_eq_true]
          rw [nI_1]
          exact ih (k + 1) (gP op fs 1 t sd a b x) μ6 _ _ _ _ _ (by omega) rM o6 h
theorem mid_ok {l : Launch} {K : KK} {op fs : Nat} (hop : op < 2 ^ 15) (hfs : fs < 2) : MidOk l K op fs := by
  intro d μ t u P hd1 hu hI hM ho h24 h
  refine ok_go 9 (by decide +kernel) [some (vR 8 0 0), some (vI (nI u)), none, none, none, none, none, none, none] rfl (Nat.le_of_ble_eq_true rfl) ?_
  have hd2 : 1 ≤ d := by omega
  have eu : nI u + 1 = nI (u + 1) := nI_1 u
  have hL := last_ok (l := l) (K := K) hop hfs
  have e1s : (fs + (u + 1)) % 2 = 1 - (fs + u) % 2 := by omega
  rw [mnP_n (k := 1) hI.1] at h
  refine go_blk [(.aload_n 0, 0, 0, 0), (.iload_n 1, 0, 0, 0), (.iconst 1, 0, 0, 0), (.iadd, 0, 0, 0), (.invokevirtual 199, 148, 1, 8)] (by decide +kernel) ?_
  simp only [e_al_0, e_il_1, e_ic_1, e_iadd, e_iv_8_1, e_nil, nol_n, nol_I, nol_R, rsum_0, rsum_I, rsum_R, ps_s, ps_n, true_and, and_true, Nat.reduceAdd, Nat.reduceLeDiff, hd2, eu]
  refine okm_save (lv := u + 1) (by omega) hM (fun μ1 sS sO => ?_)
  have sM := mr_v hM sO
  have h2 : μ1 8 0 0 2 = nI op := (sO 8 0 0 2 (by omega)).trans ho
  have h241 : μ1 8 0 0 24 = nI fs := (sO 8 0 0 24 (by omega)).trans h24
  refine go_blk [(.bipush 10, 0, 0, 0), (.aload_n 0, 0, 0, 0), (.iload_n 1, 0, 0, 0), (.iconst 1, 0, 0, 0), (.iadd, 0, 0, 0), (.invokevirtual 218, 154, 1, 8)] (by decide +kernel) ?_
  simp only [e_bp_10, e_al_0, e_il_1, e_ic_1, e_iadd, e_iv_8_1, e_nil, nol_n, nol_I, nol_R, rsum_0, rsum_I, rsum_R, ps_s, ps_n, true_and, and_true, Nat.reduceAdd, Nat.reduceLeDiff, hd2, eu]
  refine hL _ _ _ (u + 1) _ (by omega) (by omega) hI sM h2 h241 (fun μ2 lM lO => ?_)
  rw [e1s]
  refine go_blk [(.imul, 0, 0, 0), (.istore_n 2, 0, 0, 0), (.aload_n 0, 0, 0, 0), (.iload_n 1, 0, 0, 0), (.iconst 1, 0, 0, 0), (.iadd, 0, 0, 0), (.invokevirtual 212, 149, 1, 8)] (by decide +kernel) ?_
  simp only [e_imul, e_is_2n, e_is_2I, e_is_2R, e_al_0, e_il_1, e_ic_1, e_iadd, e_iv_8_1, e_nil, nol_n, nol_I, nol_R, rsum_0, rsum_I, rsum_R, ps_s, ps_n, true_and, and_true, Nat.reduceAdd, Nat.reduceLeDiff, hd2, eu]
  refine okm_load (lv := u + 1) (t := t) (by omega) lM rfl (fun j => ⟨rfl, rfl⟩) (sv_off sS lO (by omega)) (fun μ3 tM tO => ?_)
  have o3 := offa_tr lO (offa_m tO)
  refine go_blk [(.iconst 0, 0, 0, 0), (.istore_n 3, 0, 0, 0)] (by decide +kernel) ?_
  simp only [e_ic_0, e_is_3n, e_is_3I, e_is_3R, e_nil, nol_n, nol_I, nol_R, rsum_0, rsum_I, rsum_R, ps_s, ps_n, true_and, and_true, Nat.reduceAdd, Nat.reduceLeDiff, hd2, eu]
  exact lp_mid hop hfs hu hd1 hI h2 h241 rfl sS (fun _ _ => rfl) (t 0 1 * t 0 1) 0 (10 * (mnP op fs 1 t (1 - (fs + u) % 2)).1, -1) μ3 none none none none none (by omega) tM o3 (fun μ4 a b => h μ4 a (offa_tr (offa_v sO (by omega)) (offa_le b (by omega))))
theorem okm_rest {l : Launch} {K : KK} {d : Nat} {μ : Mm} {P : Option AV → Mm → Prop} {op fs k : Nat} {t : TS} (hop : op < 2 ^ 15) (hfs : fs < 2) (hk : k < 3) (hd1 : 9 ≤ d) (hI : TInv op t) (hM : MRep μ t) (ho : μ 8 0 0 2 = nI op) (h24 : μ 8 0 0 24 = nI fs) (h : ∀ μ2, MRep μ2 t → OffA 2 μ μ2 → P (some (vI (mnP op fs k t (1 - fs)).1)) μ2) : Ok l K d 156 [vR 8 0 0, vI (nI (k + 1))] μ P := by
  refine ok_go 2 (by decide +kernel) [some (vR 8 0 0), some (vI (nI (k + 1)))] rfl (Nat.le_of_ble_eq_true rfl) ?_
  have hd2 : 1 ≤ d := by omega
  have e2 : (nI (k + 1) = 1) = (k + 1 = 1) := propext (nI_eq (b := 1) (by omega) (by omega))
  have e14 : (nI (k + 1) = 2) = (k + 1 = 2) := propext (nI_eq (b := 2) (by omega) (by omega))
  have e1s : (fs + 1) % 2 = 1 - fs := by omega
  refine go_blk [(.iload_n 1, 0, 0, 0), (.iconst 1, 0, 0, 0), (.if_icmp .ne 10, 12, 0, 0)] (by decide +kernel) ?_
  simp only [e_il_1, e_ic_1, e_icmp_ne, e_nil, nol_n, nol_I, nol_R, rsum_0, rsum_I, rsum_R, ps_s, ps_n, true_and, and_true, Nat.reduceAdd, Nat.reduceLeDiff, hd2, e2, e14]
  refine ⟨fun c2 => ?_, fun c2 => ?_⟩
  · refine go_blk [(.iload_n 1, 0, 0, 0), (.iconst 2, 0, 0, 0), (.if_icmp .ne 11, 25, 0, 0)] (by decide +kernel) ?_
    simp only [e_il_1, e_ic_2, e_icmp_ne, e_nil, nol_n, nol_I, nol_R, rsum_0, rsum_I, rsum_R, ps_s, ps_n, true_and, and_true, Nat.reduceAdd, Nat.reduceLeDiff, hd2, e2, e14]
    refine ⟨fun c14 => ?_, fun c14 => ?_⟩
    · have k2 : k = 2 := by omega
      subst k2
      refine go_blk [(.aload_n 0, 0, 0, 0), (.iconst 1, 0, 0, 0), (.invokevirtual 221, 155, 1, 8)] (by decide +kernel) ?_
      simp only [e_al_0, e_ic_1, e_iv_8_1, e_nil, nol_n, nol_I, nol_R, rsum_0, rsum_I, rsum_R, ps_s, ps_n, true_and, and_true, Nat.reduceAdd, Nat.reduceLeDiff, hd2, e2, e14]
      refine mid_ok hop hfs _ _ _ 1 _ (by omega) (by omega) hI hM ho h24 (fun μ2 lM lO => ?_)
      rw [e1s]
      refine go_blk [(.ireturn, 0, 0, 0)] (by decide +kernel) ?_
      simp only [e_iret0, e_nil, nol_n, nol_I, nol_R, rsum_0, rsum_I, rsum_R, ps_s, ps_n, true_and, and_true, Nat.reduceAdd, Nat.reduceLeDiff, hd2, e2, e14]
      exact h μ2 lM lO
    · have k1 : k = 1 := by omega
      subst k1
      refine go_blk [(.aload_n 0, 0, 0, 0), (.iconst 1, 0, 0, 0), (.invokevirtual 218, 154, 1, 8)] (by decide +kernel) ?_
      simp only [e_al_0, e_ic_1, e_iv_8_1, e_nil, nol_n, nol_I, nol_R, rsum_0, rsum_I, rsum_R, ps_s, ps_n, true_and, and_true, Nat.reduceAdd, Nat.reduceLeDiff, hd2, e2, e14]
      refine last_ok hop hfs _ _ _ 1 _ (by omega) (by omega) hI hM ho h24 (fun μ2 lM lO => ?_)
      rw [e1s]
      refine go_blk [(.goto 8, 30, 0, 0), (.ireturn, 0, 0, 0)] (by decide +kernel) ?_
      simp only [e_goto, e_iret0, e_nil, nol_n, nol_I, nol_R, rsum_0, rsum_I, rsum_R, ps_s, ps_n, true_and, and_true, Nat.reduceAdd, Nat.reduceLeDiff, hd2, e2, e14]
      exact h μ2 lM lO
  · have k0 : k = 0 := by omega
    subst k0
    refine go_blk [(.aload_n 0, 0, 0, 0), (.invokevirtual 202, 150, 0, 8)] (by decide +kernel) ?_
    simp only [e_al_0, e_iv_8_0, e_nil, nol_n, nol_I, nol_R, rsum_0, rsum_I, rsum_R, ps_s, ps_n, true_and, and_true, Nat.reduceAdd, Nat.reduceLeDiff, hd2, e2, e14]
    refine okm_ahead hI hM hfs h24 (by omega) ?_
    refine go_blk [(.goto 21, 30, 0, 0), (.ireturn, 0, 0, 0)] (by decide +kernel) ?_
    simp only [e_goto, e_iret0, e_nil, nol_n, nol_I, nol_R, rsum_0, rsum_I, rsum_R, ps_s, ps_n, true_and, and_true, Nat.reduceAdd, Nat.reduceLeDiff, hd2, e2, e14]
    exact h μ hM (offa_rf _ _)
def OffC (μ μ2 : Mm) : Prop := ∀ c i s j, ¬ (c = 8 ∧ i = 0 ∧ s = 0 ∧ 6 ≤ j ∧ j ≤ 10) → ¬ (c = 8 ∧ i = 0 ∧ s = 0 ∧ j = 25) → ¬ (c = 8 ∧ i = 0 ∧ s = 24 ∧ 5 ≤ j) → μ2 c i s j = μ c i s j
theorem offc_rf (μ : Mm) : OffC μ μ := fun _ _ _ _ _ _ _ => rfl
theorem offc_a {a b c : Mm} {lo : Nat} (h : OffC a b) (g : OffA lo b c) (hl : 1 ≤ lo) : OffC a c := fun x i s j h1 h2 h3 => (g x i s j h1 (by omega)).trans (h x i s j h1 h2 h3)
theorem offc_up {a b : Mm} (h : OffC a b) (v : Int32) : OffC a (up b 8 0 0 25 v) := fun x i s j h1 h2 h3 => (up_ne (by omega)).trans (h x i s j h1 h2 h3)
theorem sv_c {a b : Mm} {t : TS} (hS : SvR a 0 t) (h : OffC a b) : SvR b 0 t := by
  obtain ⟨s0, s1, s2, s3, s4⟩ := hS
  exact ⟨(h 8 0 24 _ (by omega) (by omega) (by omega)).trans s0, (h 8 0 24 _ (by omega) (by omega) (by omega)).trans s1, (h 8 0 24 _ (by omega) (by omega) (by omega)).trans s2, (h 8 0 24 _ (by omega) (by omega) (by omega)).trans s3, (h 8 0 24 _ (by omega) (by omega) (by omega)).trans s4⟩
theorem mr_25 {a : Mm} {t : TS} (hM : MRep a t) (v : Int32) : MRep (up a 8 0 0 25 v) t := mr_off hM (fun s j hs => up_ne (by omega))
theorem gP_t {op fs k a b : Nat} {t : TS} {x : Int32 × Int32} {hv ms : Int32} (hc : ¬ chS op t a b = 0) (e4 : t 4 a = fs) (h1 : hv = hvV op fs k t fs a b) (h2 : ms = (mnP op fs k (peaS t fs) (1 - fs)).1) : gP op fs k t fs a b x = if nI (chS op t a b) * hv + (10 - nI (chS op t a b)) * ms ≤ x.1 then x else (nI (chS op t a b) * hv + (10 - nI (chS op t a b)) * ms, nI (6 * a + b)) := by
  obtain ⟨ca, -, -, -, -, cp, -⟩ := chS_pos hc
  have z : mch op t fs a b = chS op t a b := if_pos ⟨ca, e4⟩
  have z2 : msV op fs k t fs = ms := by
    unfold msV
    rw [if_neg (by rw [← e4]; omega)]
    exact h2.symm
  unfold gP
  rw [z, z2, ← h1, beq_self_eq_true]
  by_cases q : trI (chS op t a b) hv ms ≤ x.1
  · rw [stp_t0 hc q]; exact (if_pos q).symm
  · rw [stp_t1 hc q]; exact (if_neg q).symm
theorem lp_best {l : Launch} {K : KK} {d : Nat} {P : Option AV → Mm → Prop} {μ0 : Mm} {op fs kk : Nat} {t : TS} {G : Nat → Int32 × Int32 → Int32 × Int32} (hop : op < 2 ^ 15) (hfs : fs < 2) (hkk : kk < 3) (hd1 : 10 ≤ d) (hI : TInv op t) (ho : μ0 8 0 0 2 = nI op) (h24 : μ0 8 0 0 24 = nI fs) (hS0 : SvR μ0 0 t) (hG : ∀ q x, G q x = gP op fs kk t fs (q / t 0 1) (q % t 0 1) x) : ∀ (r k : Nat) (x : Int32 × Int32) (μ : Mm) (y5 y6 y7 y8 y9 y10 : Option AV), k + r = t 0 1 * t 0 1 → MRep μ t → OffC μ0 μ → μ 8 0 0 25 = x.2 → (∀ μ2, MRep μ2 t → OffC μ0 μ2 → μ2 8 0 0 25 = (mnF G r k x).2 → P (some (vI (mnF G r k x).1)) μ2) → Go l K d 157 32 [some (vR 8 0 0), some (vI (nI fs)), some (vI (nI (kk + 1))), some (vI x.1), some (vI (nI k)), y5, y6, y7, y8, y9, y10] [] μ P := by
  have hd2 : 1 ≤ d := by omega
  have hn := hI.1
  have nn : t 0 1 * t 0 1 ≤ 36 := Nat.mul_le_mul hn hn
  intro r
  induction r with
  | zero =>
    intro k x μ y5 y6 y7 y8 y9 y10 hk hM hO h25 h
    have m3 := hM.1.1
    have em := pk_mul (t 0 1) (t 0 1)
    refine go_blk [(.iload 4, 0, 0, 0), (.aload_n 0, 0, 0, 0), (.getfield 96, 8, 3, 0), (.aload_n 0, 0, 0, 0), (.getfield 96, 8, 3, 0), (.imul, 0, 0, 0), (.if_icmp .ge 152, 195, 0, 0)] (by decide +kernel) ?_
    simp only [e_ilw_4, e_al_0, e_gf_8_3, e_imul, e_icmp_ge, rd_8_3, e_nil, nol_n, nol_I, nol_R, rsum_0, rsum_I, rsum_R, ps_s, ps_n, true_and, and_true, Nat.reduceAdd, Nat.reduceLeDiff, m3, em]
    refine ⟨fun c43 => ?_, fun c43 => ?_⟩
    · refine go_blk [(.iload_n 3, 0, 0, 0), (.ireturn, 0, 0, 0)] (by decide +kernel) ?_
      simp only [e_il_3, e_iret0, e_nil, nol_n, nol_I, nol_R, rsum_0, rsum_I, rsum_R, ps_s, ps_n, true_and, and_true, Nat.reduceAdd, Nat.reduceLeDiff, m3, em]
      exact h μ hM hO h25
    · exact absurd (nI_le (by omega) (by omega)) c43
  | succ r ih =>
    intro k x μ y5 y6 y7 y8 y9 y10 hk hM hO h25 h
    have m3 := hM.1.1
    have em := pk_mul (t 0 1) (t 0 1)
    obtain ⟨n0, ka, kb⟩ := k_div (k := k) (n := t 0 1) (by omega)
    have ea : nI k / nI (t 0 1) = nI (k / t 0 1) := pk_div (by omega) n0 (by omega)
    have eb : nI k - nI (k / t 0 1) * nI (t 0 1) = nI (k % t 0 1) := by rw [← ea]; exact pk_rem (by omega) n0 (by omega)
    have nz : (nI (t 0 1) = 0) = False := eq_false (nI_ne0 n0 (by omega))
    have uu : mnF G (r + 1) k x = mnF G r (k + 1) (G k x) := rfl
    rw [uu, hG] at h
    generalize k / t 0 1 = a at *
    generalize k % t 0 1 = b at *
    have cl := chS_le op t a b
    have e72 : (nI (chS op t a b) ≤ 0) = (chS op t a b = 0) := le0 (by omega)
    have ho1 : μ 8 0 0 2 = nI op := (hO 8 0 0 2 (by omega) (by omega) (by omega)).trans ho
    have h241 : μ 8 0 0 24 = nI fs := (hO 8 0 0 24 (by omega) (by omega) (by omega)).trans h24
    have e6 : (6 : Int32) * nI a + nI b = nI (6 * a + b) := by rw [show (6 : Int32) * nI a = nI (6 * a) from pk_mul 6 a, nI_add]
    refine go_blk [(.iload 4, 0, 0, 0), (.aload_n 0, 0, 0, 0), (.getfield 96, 8, 3, 0), (.aload_n 0, 0, 0, 0), (.getfield 96, 8, 3, 0), (.imul, 0, 0, 0), (.if_icmp .ge 152, 195, 0, 0)] (by decide +kernel) ?_
    simp only [e_ilw_4, e_al_0, e_gf_8_3, e_imul, e_icmp_ge, rd_8_3, e_nil, nol_n, nol_I, nol_R, rsum_0, rsum_I, rsum_R, ps_s, ps_n, true_and, and_true, Nat.reduceAdd, Nat.reduceLeDiff, hd2, m3, em, ea, eb, nz, e72, e6, bi_0, true_implies, false_implies, not_true_eq_false, not_false_eq_true]
    refine ⟨fun c43 => ?_, fun c43 => ?_⟩
    · exact absurd c43 (nI_ge (by omega) (by omega))
    · refine go_blk [(.iload 4, 0, 0, 0), (.aload_n 0, 0, 0, 0), (.getfield 96, 8, 3, 0), (.idiv, 0, 0, 0), (.istore 5, 0, 0, 0), (.iload 4, 0, 0, 0), (.aload_n 0, 0, 0, 0), (.getfield 96, 8, 3, 0), (.irem, 0, 0, 0), (.istore 6, 0, 0, 0), (.aload_n 0, 0, 0, 0), (.iload 5, 0, 0, 0), (.iconst 0, 0, 0, 0), (.invokevirtual 205, 151, 2, 8)] (by decide +kernel) ?_
      simp only [e_ilw_4, e_al_0, e_gf_8_3, e_idiv, e_isw_5n, e_isw_5I, e_isw_5R, e_irem, e_isw_6n, e_isw_6I, e_isw_6R, e_ilw_5, e_ic_0, e_iv_8_2, rd_8_3, e_nil, nol_n, nol_I, nol_R, rsum_0, rsum_I, rsum_R, ps_s, ps_n, true_and, and_true, Nat.reduceAdd, Nat.reduceLeDiff, hd2, m3, em, ea, eb, nz, e72, e6, bi_0, true_implies, false_implies, not_true_eq_false, not_false_eq_true]
      refine okm_turn (u := 0) hI hM ka hfs (by omega) h241 ?_
      refine go_blk [(.ifCond .eq 14, 85, 0, 0)] (by decide +kernel) ?_
      simp only [e_if_eq, e_nil, nol_n, nol_I, nol_R, rsum_0, rsum_I, rsum_R, ps_s, ps_n, true_and, and_true, Nat.reduceAdd, Nat.reduceLeDiff, hd2, m3, em, ea, eb, nz, e72, e6, bi_0, true_implies, false_implies, not_true_eq_false, not_false_eq_true]
      refine ⟨fun c71 => ?_, fun c71 => ?_⟩
      · have z : mch op t fs a b = 0 := if_neg (fun q => by have := of_decide_eq_false c71; exact this (by rw [q.2]; omega))
        refine go_blk [(.iconst 0, 0, 0, 0), (.istore 7, 0, 0, 0), (.iload 7, 0, 0, 0), (.ifCond .le 99, 189, 0, 0)] (by decide +kernel) ?_
        simp only [e_ic_0, e_isw_7n, e_isw_7I, e_isw_7R, e_ilw_7, e_if_le, e_nil, (show ((0 : Int32) ≤ 0) = True by decide), true_implies, false_implies, not_true_eq_false, not_false_eq_true, nol_n, nol_I, nol_R, rsum_0, rsum_I, rsum_R, ps_s, ps_n, true_and, and_true, Nat.reduceAdd, Nat.reduceLeDiff, hd2, m3, em, ea, eb, nz, e72, e6, bi_0, true_implies, false_implies, not_true_eq_false, not_false_eq_true]
        refine go_blk [(.iinc 4 1, 0, 0, 0), (.goto (-160), 32, 0, 0)] (by decide +kernel) ?_
        simp only [e_inc_4_1n, e_inc_4_1I, e_inc_4_1R, e_goto, e_nil, nol_n, nol_I, nol_R, rsum_0, rsum_I, rsum_R, ps_s, ps_n, true_and, and_true, Nat.reduceAdd, Nat.reduceLeDiff, hd2, m3, em, ea, eb, nz, e72, e6, bi_0, true_implies, false_implies, not_true_eq_false, not_false_eq_true]
        rw [nI_1]
        rw [gP_0 z] at h
        exact ih (k + 1) x μ _ _ _ _ _ _ (by omega) hM hO h25 h
      · have e4 : t 4 a = fs := by have := of_decide_eq_true (eq_true_of_ne_false c71); omega
        refine go_blk [(.aload_n 0, 0, 0, 0), (.iload 5, 0, 0, 0), (.iload 6, 0, 0, 0), (.invokevirtual 161, 132, 2, 8)] (by decide +kernel) ?_
        simp only [e_al_0, e_ilw_5, e_ilw_6, e_iv_8_2, e_nil, nol_n, nol_I, nol_R, rsum_0, rsum_I, rsum_R, ps_s, ps_n, true_and, and_true, Nat.reduceAdd, Nat.reduceLeDiff, hd2, m3, em, ea, eb, nz, e72, e6, bi_0, true_implies, false_implies, not_true_eq_false, not_false_eq_true]
        refine okm_tenths hI hM ho1 hop ka kb (by omega) ?_
        refine go_blk [(.goto 4, 86, 0, 0), (.istore 7, 0, 0, 0), (.iload 7, 0, 0, 0), (.ifCond .le 99, 189, 0, 0)] (by decide +kernel) ?_
        simp only [e_goto, e_isw_7n, e_isw_7I, e_isw_7R, e_ilw_7, e_if_le, e_nil, nol_n, nol_I, nol_R, rsum_0, rsum_I, rsum_R, ps_s, ps_n, true_and, and_true, Nat.reduceAdd, Nat.reduceLeDiff, hd2, m3, em, ea, eb, nz, e72, e6, bi_0, true_implies, false_implies, not_true_eq_false, not_false_eq_true]
        refine ⟨fun c90 => ?_, fun c90 => ?_⟩
        · have z : mch op t fs a b = 0 := by unfold mch; rw [c90]; exact ite_self 0
          refine go_blk [(.iinc 4 1, 0, 0, 0), (.goto (-160), 32, 0, 0)] (by decide +kernel) ?_
          simp only [e_inc_4_1n, e_inc_4_1I, e_inc_4_1R, e_goto, e_nil, nol_n, nol_I, nol_R, rsum_0, rsum_I, rsum_R, ps_s, ps_n, true_and, and_true, Nat.reduceAdd, Nat.reduceLeDiff, hd2, m3, em, ea, eb, nz, e72, e6, bi_0, true_implies, false_implies, not_true_eq_false, not_false_eq_true]
          rw [nI_1]
          rw [gP_0 z] at h
          exact ih (k + 1) x μ _ _ _ _ _ _ (by omega) hM hO h25 h
        · refine go_blk [(.aload_n 0, 0, 0, 0), (.iload 5, 0, 0, 0), (.iload 6, 0, 0, 0), (.iconst 1, 0, 0, 0), (.invokevirtual 208, 153, 3, 8)] (by decide +kernel) ?_
          simp only [e_al_0, e_ilw_5, e_ilw_6, e_ic_1, e_iv_8_3, e_nil, nol_n, nol_I, nol_R, rsum_0, rsum_I, rsum_R, ps_s, ps_n, true_and, and_true, Nat.reduceAdd, Nat.reduceLeDiff, hd2, m3, em, ea, eb, nz, e72, e6, bi_0, true_implies, false_implies, not_true_eq_false, not_false_eq_true]
          refine okm_shootThen (hit := true) hI hM ho1 hop c90 (by omega) (fun μ1 fM fO => ?_)
          obtain ⟨ca, cb, -, cs, -, cp, -⟩ := chS_pos c90
          obtain ⟨iI, iN, i35⟩ := fire_inv (a := a) (hit := true) hI cb cs
          have f1 : μ1 8 0 0 25 = x.2 := (fO 8 0 0 25 (by omega)).trans h25
          have o1 := offc_a hO (offa_m (lo := 2) fO) (by omega)
          refine go_blk [(.aload_n 0, 0, 0, 0), (.iload_n 2, 0, 0, 0), (.invokevirtual 227, 156, 1, 8)] (by decide +kernel) ?_
          simp only [e_al_0, e_il_2, e_iv_8_1, e_nil, nol_n, nol_I, nol_R, rsum_0, rsum_I, rsum_R, ps_s, ps_n, true_and, and_true, Nat.reduceAdd, Nat.reduceLeDiff, hd2, m3, em, ea, eb, nz, e72, e6, bi_0, true_implies, false_implies, not_true_eq_false, not_false_eq_true]
          refine okm_rest hop hfs hkk (by omega) iI fM ((o1 8 0 0 2 (by omega) (by omega) (by omega)).trans ho) ((o1 8 0 0 24 (by omega) (by omega) (by omega)).trans h24) (fun μ2 lM lO => ?_)
          have f2 : μ2 8 0 0 25 = x.2 := (lO 8 0 0 25 (by omega) (by omega)).trans f1
          have o2 := offc_a o1 lO (by omega)
          refine go_blk [(.istore 8, 0, 0, 0), (.aload_n 0, 0, 0, 0), (.iconst 0, 0, 0, 0), (.invokevirtual 212, 149, 1, 8)] (by decide +kernel) ?_
          simp only [e_isw_8n, e_isw_8I, e_isw_8R, e_al_0, e_ic_0, e_iv_8_1, e_nil, nol_n, nol_I, nol_R, rsum_0, rsum_I, rsum_R, ps_s, ps_n, true_and, and_true, Nat.reduceAdd, Nat.reduceLeDiff, hd2, m3, em, ea, eb, nz, e72, e6, bi_0, true_implies, false_implies, not_true_eq_false, not_false_eq_true]
          refine okm_load (lv := 0) (t := t) (by omega) lM iN.symm (fun j => ⟨(i35 j).1.symm, (i35 j).2.1.symm⟩) (sv_c hS0 o2) (fun μ3 tM tO => ?_)
          have f3 : μ3 8 0 0 25 = x.2 := (tO 8 0 0 25 (by omega)).trans f2
          have o3 := offc_a o2 (offa_m (lo := 2) tO) (by omega)
          refine go_blk [(.aload_n 0, 0, 0, 0), (.iload 5, 0, 0, 0), (.iload 6, 0, 0, 0), (.iconst 0, 0, 0, 0), (.invokevirtual 208, 153, 3, 8)] (by decide +kernel) ?_
          simp only [e_al_0, e_ilw_5, e_ilw_6, e_ic_0, e_iv_8_3, e_nil, nol_n, nol_I, nol_R, rsum_0, rsum_I, rsum_R, ps_s, ps_n, true_and, and_true, Nat.reduceAdd, Nat.reduceLeDiff, hd2, m3, em, ea, eb, nz, e72, e6, bi_0, true_implies, false_implies, not_true_eq_false, not_false_eq_true]
          refine okm_shootThen (hit := false) hI tM ((o3 8 0 0 2 (by omega) (by omega) (by omega)).trans ho) hop c90 (by omega) (fun μ4 pM pO => ?_)
          rw [fire_0] at pM
          have f4 : μ4 8 0 0 25 = x.2 := (pO 8 0 0 25 (by omega)).trans f3
          have o4 := offc_a o3 (offa_m (lo := 2) pO) (by omega)
          refine go_blk [(.aload_n 0, 0, 0, 0), (.iload_n 2, 0, 0, 0), (.invokevirtual 227, 156, 1, 8)] (by decide +kernel) ?_
          simp only [e_al_0, e_il_2, e_iv_8_1, e_nil, nol_n, nol_I, nol_R, rsum_0, rsum_I, rsum_R, ps_s, ps_n, true_and, and_true, Nat.reduceAdd, Nat.reduceLeDiff, hd2, m3, em, ea, eb, nz, e72, e6, bi_0, true_implies, false_implies, not_true_eq_false, not_false_eq_true]
          refine okm_rest hop hfs hkk (by omega) (pea_inv hI) pM ((o4 8 0 0 2 (by omega) (by omega) (by omega)).trans ho) ((o4 8 0 0 24 (by omega) (by omega) (by omega)).trans h24) (fun μ5 qM qO => ?_)
          have f5 : μ5 8 0 0 25 = x.2 := (qO 8 0 0 25 (by omega) (by omega)).trans f4
          have o5 := offc_a o4 qO (by omega)
          refine go_blk [(.istore 9, 0, 0, 0), (.aload_n 0, 0, 0, 0), (.iconst 0, 0, 0, 0), (.invokevirtual 212, 149, 1, 8)] (by decide +kernel) ?_
          simp only [e_isw_9n, e_isw_9I, e_isw_9R, e_al_0, e_ic_0, e_iv_8_1, e_nil, nol_n, nol_I, nol_R, rsum_0, rsum_I, rsum_R, ps_s, ps_n, true_and, and_true, Nat.reduceAdd, Nat.reduceLeDiff, hd2, m3, em, ea, eb, nz, e72, e6, bi_0, true_implies, false_implies, not_true_eq_false, not_false_eq_true]
          refine okm_load (lv := 0) (t := t) (by omega) qM (pea_n t a).symm (fun j => ⟨((pea_m (t := t) (a := a)).2.2.2 j).1.symm, ((pea_m (t := t) (a := a)).2.2.2 j).2.symm⟩) (sv_c hS0 o5) (fun μ6 rM rO => ?_)
          have h256 : μ6 8 0 0 25 = x.2 := (rO 8 0 0 25 (by omega)).trans f5
          have o6 := offc_a o5 (offa_m (lo := 2) rO) (by omega)
          have eg := gP_t (op := op) (fs := fs) (k := kk) (x := x) (hv := (mnP op fs kk (fireS op t a b true).1 (1 - fs)).1) (ms := (mnP op fs kk (pea t a) (1 - fs)).1) c90 e4 rfl (by rw [← e4]; rfl)
          refine go_blk [(.iload 7, 0, 0, 0), (.iload 8, 0, 0, 0), (.imul, 0, 0, 0), (.bipush 10, 0, 0, 0), (.iload 7, 0, 0, 0), (.isub, 0, 0, 0), (.iload 9, 0, 0, 0), (.imul, 0, 0, 0), (.iadd, 0, 0, 0), (.istore 10, 0, 0, 0), (.aload_n 0, 0, 0, 0), (.iload 10, 0, 0, 0), (.iload_n 3, 0, 0, 0), (.if_icmp .le 14, 169, 0, 0)] (by decide +kernel) ?_
          simp only [e_ilw_7, e_ilw_8, e_imul, e_bp_10, e_isub, e_ilw_9, e_iadd, e_isw_10n, e_isw_10I, e_isw_10R, e_al_0, e_ilw_10, e_il_3, e_icmp_le, e_nil, nol_n, nol_I, nol_R, rsum_0, rsum_I, rsum_R, ps_s, ps_n, true_and, and_true, Nat.reduceAdd, Nat.reduceLeDiff, hd2, m3, em, ea, eb, nz, e72, e6, bi_0, true_implies, false_implies, not_true_eq_false, not_false_eq_true, h256]
          refine ⟨fun c155 => ?_, fun c155 => ?_⟩
          · rw [if_pos c155] at eg
            refine go_blk [(.aload_n 0, 0, 0, 0), (.getfield 224, 8, 25, 0), (.putfield 224, 8, 25, 0)] (by decide +kernel) ?_
            simp only [e_al_0, e_gf_8_25, e_pf_8_25, rd_8_25, e_nil, nol_n, nol_I, nol_R, rsum_0, rsum_I, rsum_R, ps_s, ps_n, true_and, and_true, Nat.reduceAdd, Nat.reduceLeDiff, hd2, m3, em, ea, eb, nz, e72, e6, bi_0, true_implies, false_implies, not_true_eq_false, not_false_eq_true, h256]
            refine go_blk [(.iload 10, 0, 0, 0), (.iload_n 3, 0, 0, 0), (.if_icmp .le 8, 187, 0, 0)] (by decide +kernel) ?_
            simp only [e_ilw_10, e_il_3, e_icmp_le, e_nil, nol_n, nol_I, nol_R, rsum_0, rsum_I, rsum_R, ps_s, ps_n, true_and, and_true, Nat.reduceAdd, Nat.reduceLeDiff, hd2, m3, em, ea, eb, nz, e72, e6, bi_0, true_implies, false_implies, not_true_eq_false, not_false_eq_true, h256]
            refine ⟨fun c179 => ?_, fun c179 => ?_⟩
            · refine go_blk [(.iload_n 3, 0, 0, 0), (.istore_n 3, 0, 0, 0), (.iinc 4 1, 0, 0, 0), (.goto (-160), 32, 0, 0)] (by decide +kernel) ?_
              simp only [e_il_3, e_is_3n, e_is_3I, e_is_3R, e_inc_4_1n, e_inc_4_1I, e_inc_4_1R, e_goto, e_nil, nol_n, nol_I, nol_R, rsum_0, rsum_I, rsum_R, ps_s, ps_n, true_and, and_true, Nat.reduceAdd, Nat.reduceLeDiff, hd2, m3, em, ea, eb, nz, e72, e6, bi_0, true_implies, false_implies, not_true_eq_false, not_false_eq_true, h256]
              rw [eg] at h
              rw [nI_1]
              exact ih (k + 1) x _ _ _ _ _ _ _ (by omega) (mr_25 rM _) (offc_up o6 _) (up_self _ _ _ _ _ _) h
            · exact absurd c155 c179
          · rw [if_neg c155] at eg
            refine go_blk [(.bipush 6, 0, 0, 0), (.iload 5, 0, 0, 0), (.imul, 0, 0, 0), (.iload 6, 0, 0, 0), (.iadd, 0, 0, 0), (.goto 7, 173, 0, 0), (.putfield 224, 8, 25, 0)] (by decide +kernel) ?_
            simp only [e_bp_6, e_ilw_5, e_imul, e_ilw_6, e_iadd, e_goto, e_pf_8_25, e_nil, nol_n, nol_I, nol_R, rsum_0, rsum_I, rsum_R, ps_s, ps_n, true_and, and_true, Nat.reduceAdd, Nat.reduceLeDiff, hd2, m3, em, ea, eb, nz, e72, e6, bi_0, true_implies, false_implies, not_true_eq_false, not_false_eq_true, h256]
            refine go_blk [(.iload 10, 0, 0, 0), (.iload_n 3, 0, 0, 0), (.if_icmp .le 8, 187, 0, 0)] (by decide +kernel) ?_
            simp only [e_ilw_10, e_il_3, e_icmp_le, e_nil, nol_n, nol_I, nol_R, rsum_0, rsum_I, rsum_R, ps_s, ps_n, true_and, and_true, Nat.reduceAdd, Nat.reduceLeDiff, hd2, m3, em, ea, eb, nz, e72, e6, bi_0, true_implies, false_implies, not_true_eq_false, not_false_eq_true, h256]
            refine ⟨fun c179 => ?_, fun c179 => ?_⟩
            · exact absurd c179 c155
            · refine go_blk [(.iload 10, 0, 0, 0), (.goto 4, 188, 0, 0), (.istore_n 3, 0, 0, 0), (.iinc 4 1, 0, 0, 0), (.goto (-160), 32, 0, 0)] (by decide +kernel) ?_
              simp only [e_ilw_10, e_goto, e_is_3n, e_is_3I, e_is_3R, e_inc_4_1n, e_inc_4_1I, e_inc_4_1R, e_nil, nol_n, nol_I, nol_R, rsum_0, rsum_I, rsum_R, ps_s, ps_n, true_and, and_true, Nat.reduceAdd, Nat.reduceLeDiff, hd2, m3, em, ea, eb, nz, e72, e6, bi_0, true_implies, false_implies, not_true_eq_false, not_false_eq_true, h256]
              rw [eg] at h
              rw [nI_1]
              exact ih (k + 1) (_, nI (6 * a + b)) _ _ _ _ _ _ _ (by omega) (mr_25 rM _) (offc_up o6 _) (up_self _ _ _ _ _ _) h
def OffB (μ μ2 : Mm) : Prop := ∀ c i s j, ¬ (c = 8 ∧ i = 0 ∧ s = 0 ∧ ((6 ≤ j ∧ j ≤ 10) ∨ j = 24 ∨ j = 25)) → ¬ (c = 8 ∧ i = 0 ∧ s = 24) → μ2 c i s j = μ c i s j
theorem okm_layBest {l : Launch} {K : KK} {d : Nat} {μ : Mm} {P : Option AV → Mm → Prop} {op fs k : Nat} {t : TS} (hop : op < 2 ^ 15) (hfs : fs < 2) (hk : k < 3) (hd1 : 10 ≤ d) (hI : TInv op t) (hM : MRep μ t) (ho : μ 8 0 0 2 = nI op) (h : ∀ μ2, MRep μ2 t → OffB μ μ2 → μ2 8 0 0 25 = (mnP op fs (k + 1) t fs).2 → P (some (vI (mnP op fs (k + 1) t fs).1)) μ2) : Ok l K d 157 [vR 8 0 0, vI (nI fs), vI (nI (k + 1))] μ P := by
  refine ok_go 11 (by decide +kernel) [some (vR 8 0 0), some (vI (nI fs)), some (vI (nI (k + 1))), none, none, none, none, none, none, none, none] rfl (Nat.le_of_ble_eq_true rfl) ?_
  have hd2 : 1 ≤ d := by omega
  rw [mnP_n hI.1] at h
  have M0 : MRep (up (up μ 8 0 0 24 (nI fs)) 8 0 0 25 (-1)) t := mr_off hM (fun s j hs => by rw [up_ne (by omega), up_ne (by omega)])
  refine go_blk [(.aload_n 0, 0, 0, 0), (.iload_n 1, 0, 0, 0), (.putfield 196, 8, 24, 0)] (by decide +kernel) ?_
  simp only [e_al_0, e_il_1, e_pf_8_24, e_nil, nol_n, nol_I, nol_R, rsum_0, rsum_I, rsum_R, ps_s, ps_n, true_and, and_true, Nat.reduceAdd, Nat.reduceLeDiff, hd2]
  refine go_blk [(.aload_n 0, 0, 0, 0), (.iconst (-1), 0, 0, 0), (.putfield 224, 8, 25, 0)] (by decide +kernel) ?_
  simp only [e_al_0, e_ic_m1, e_pf_8_25, e_nil, nol_n, nol_I, nol_R, rsum_0, rsum_I, rsum_R, ps_s, ps_n, true_and, and_true, Nat.reduceAdd, Nat.reduceLeDiff, hd2]
  refine go_blk [(.aload_n 0, 0, 0, 0), (.iconst 0, 0, 0, 0), (.invokevirtual 199, 148, 1, 8)] (by decide +kernel) ?_
  simp only [e_al_0, e_ic_0, e_iv_8_1, e_nil, nol_n, nol_I, nol_R, rsum_0, rsum_I, rsum_R, ps_s, ps_n, true_and, and_true, Nat.reduceAdd, Nat.reduceLeDiff, hd2]
  refine okm_save (lv := 0) (by omega) M0 (fun μ1 sS sO => ?_)
  have sM := mr_v M0 sO
  have h2 : μ1 8 0 0 2 = nI op := by rw [sO 8 0 0 2 (by omega), up_ne (by omega), up_ne (by omega)]; exact ho
  have h241 : μ1 8 0 0 24 = nI fs := by rw [sO 8 0 0 24 (by omega), up_ne (by omega), up_self]
  have h251 : μ1 8 0 0 25 = -1 := by rw [sO 8 0 0 25 (by omega), up_self]
  refine go_blk [(.bipush 10, 0, 0, 0), (.aload_n 0, 0, 0, 0), (.iload_n 2, 0, 0, 0), (.invokevirtual 227, 156, 1, 8)] (by decide +kernel) ?_
  simp only [e_bp_10, e_al_0, e_il_2, e_iv_8_1, e_nil, nol_n, nol_I, nol_R, rsum_0, rsum_I, rsum_R, ps_s, ps_n, true_and, and_true, Nat.reduceAdd, Nat.reduceLeDiff, hd2]
  refine okm_rest hop hfs hk (by omega) hI sM h2 h241 (fun μ2 lM lO => ?_)
  refine go_blk [(.imul, 0, 0, 0), (.istore_n 3, 0, 0, 0), (.aload_n 0, 0, 0, 0), (.iconst 0, 0, 0, 0), (.invokevirtual 212, 149, 1, 8)] (by decide +kernel) ?_
  simp only [e_imul, e_is_3n, e_is_3I, e_is_3R, e_al_0, e_ic_0, e_iv_8_1, e_nil, nol_n, nol_I, nol_R, rsum_0, rsum_I, rsum_R, ps_s, ps_n, true_and, and_true, Nat.reduceAdd, Nat.reduceLeDiff, hd2]
  refine okm_load (lv := 0) (t := t) (by omega) lM rfl (fun j => ⟨rfl, rfl⟩) (sv_off (lo := 2) sS lO (by omega)) (fun μ3 tM tO => ?_)
  have o3 : OffC μ1 μ3 := offc_a (offc_a (offc_rf μ1) lO (by omega)) (offa_m (lo := 2) tO) (by omega)
  have h253 : μ3 8 0 0 25 = -1 := (tO 8 0 0 25 (by omega)).trans ((lO 8 0 0 25 (by omega) (by omega)).trans h251)
  refine go_blk [(.iconst 0, 0, 0, 0), (.istore 4, 0, 0, 0)] (by decide +kernel) ?_
  simp only [e_ic_0, e_isw_4n, e_isw_4I, e_isw_4R, e_nil, nol_n, nol_I, nol_R, rsum_0, rsum_I, rsum_R, ps_s, ps_n, true_and, and_true, Nat.reduceAdd, Nat.reduceLeDiff, hd2]
  refine lp_best hop hfs hk hd1 hI h2 h241 sS (fun _ _ => rfl) (t 0 1 * t 0 1) 0 (10 * (mnP op fs k t (1 - fs)).1, -1) μ3 none none none none none none (by omega) tM o3 h253 (fun μ4 a b c => h μ4 a (fun c' i s j q1 q2 => ?_) c)
  rw [b c' i s j (by omega) (by omega) (by omega), sO c' i s j (by omega), up_ne (by omega), up_ne (by omega)]
theorem lp_low {l : Launch} {K : KK} {d : Nat} {μ : Mm} {P : Option AV → Mm → Prop} {x0 x1 x2 : Int32} {g : Nat} (hk : ∀ y5, Go l K d 106 35 [some (vI x0), some (vI x1), some (vI x2), some (vI (nI g)), some (vI (nI 0)), y5] [] μ P) : ∀ (n a b : Nat) (y5 : Option AV), b ≤ n → a < 2 ^ 31 → b < 2 ^ 31 → Nat.gcd a b = g → Go l K d 106 14 [some (vI x0), some (vI x1), some (vI x2), some (vI (nI a)), some (vI (nI b)), y5] [] μ P := by
  intro n
  induction n with
  | zero =>
    intro a b y5 hb ha hb2 hg
    have b0 : b = 0 := by omega
    subst b0
    rw [Nat.gcd_zero_right] at hg
    subst hg
    have q16 : (nI 0 = 0) = True := eq_true rfl
    refine go_blk [(.iload 4, 0, 0, 0), (.ifCond .eq 19, 35, 0, 0)] (by decide +kernel) ?_
    simp only [e_ilw_4, e_if_eq, e_nil, nol_n, nol_I, nol_R, rsum_0, rsum_I, rsum_R, ps_s, ps_n, true_and, and_true, Nat.reduceAdd, Nat.reduceLeDiff, q16, true_implies, false_implies, not_true_eq_false, not_false_eq_true]
    exact hk _
  | succ n ih =>
    intro a b y5 hb ha hb2 hg
    by_cases b0 : b = 0
    · subst b0
      rw [Nat.gcd_zero_right] at hg
      subst hg
      have q16 : (nI 0 = 0) = True := eq_true rfl
      refine go_blk [(.iload 4, 0, 0, 0), (.ifCond .eq 19, 35, 0, 0)] (by decide +kernel) ?_
      simp only [e_ilw_4, e_if_eq, e_nil, nol_n, nol_I, nol_R, rsum_0, rsum_I, rsum_R, ps_s, ps_n, true_and, and_true, Nat.reduceAdd, Nat.reduceLeDiff, q16, true_implies, false_implies, not_true_eq_false, not_false_eq_true]
      exact hk _
    · have q16 : (nI b = 0) = False := eq_false (nI_ne0 (by omega) hb2)
      have er : nI a - nI a / nI b * nI b = nI (a % b) := pk_rem ha (by omega) hb2
      have hm : a % b < b := Nat.mod_lt _ (by omega)
      refine go_blk [(.iload 4, 0, 0, 0), (.ifCond .eq 19, 35, 0, 0)] (by decide +kernel) ?_
      simp only [e_ilw_4, e_if_eq, e_nil, nol_n, nol_I, nol_R, rsum_0, rsum_I, rsum_R, ps_s, ps_n, true_and, and_true, Nat.reduceAdd, Nat.reduceLeDiff, q16, er, true_implies, false_implies, not_true_eq_false, not_false_eq_true]
      refine go_blk [(.iload_n 3, 0, 0, 0), (.iload 4, 0, 0, 0), (.irem, 0, 0, 0), (.istore 5, 0, 0, 0), (.iload 4, 0, 0, 0), (.istore_n 3, 0, 0, 0), (.iload 5, 0, 0, 0), (.istore 4, 0, 0, 0), (.goto (-18), 14, 0, 0)] (by decide +kernel) ?_
      simp only [e_il_3, e_ilw_4, e_irem, e_isw_5n, e_isw_5I, e_isw_5R, e_is_3n, e_is_3I, e_is_3R, e_ilw_5, e_isw_4n, e_isw_4I, e_isw_4R, e_goto, e_nil, nol_n, nol_I, nol_R, rsum_0, rsum_I, rsum_R, ps_s, ps_n, true_and, and_true, Nat.reduceAdd, Nat.reduceLeDiff, q16, er, true_implies, false_implies, not_true_eq_false, not_false_eq_true]
      exact ih b (a % b) _ (by omega) hb2 (by omega) (by rw [← hg, Nat.gcd_comm a b, Nat.gcd_rec b a, Nat.gcd_comm])
theorem okm_lowest {l : Launch} {K : KK} {d : Nat} {μ : Mm} {P : Option AV → Mm → Prop} {k pt : Nat} {V : Int32} (hk : k ≤ 3) (hp : pt < 2) (hV : Rg (6 * 10 ^ k) V) (h : P (some (vI (if pt = 0 then V / nI (gdV V k) else nI (10 ^ k / gdV V k)))) μ) : Ok l K d 106 [vI V, vI (nI (10 ^ k)), vI (nI pt)] μ P := by
  refine ok_go 6 (by decide +kernel) [some (vI V), some (vI (nI (10 ^ k))), some (vI (nI pt)), none, none, none] rfl (Nat.le_of_ble_eq_true rfl) ?_
  have hk10 : 1 ≤ 10 ^ k ∧ 6 * 10 ^ k ≤ 6000 := by
    rcases (show k = 0 ∨ k = 1 ∨ k = 2 ∨ k = 3 by omega) with rfl | rfl | rfl | rfl <;> decide
  obtain ⟨ab, al⟩ := abs_nI (by omega) hV
  have gp : 0 < gdV V k := Nat.gcd_pos_of_pos_right _ (by omega)
  have gl : gdV V k ≤ 10 ^ k := Nat.gcd_le_right _ (by omega)
  have qz : (nI (gdV V k) = 0) = False := eq_false (nI_ne0 gp (by omega))
  have qd : nI (10 ^ k) / nI (gdV V k) = nI (10 ^ k / gdV V k) := pk_div (by omega) gp (by omega)
  have e36 : (nI pt = 0) = (pt = 0) := propext (nI_eq (b := 0) (by omega) (by omega))
  have fin : ∀ y5, Go l K d 106 35 [some (vI V), some (vI (nI (10 ^ k))), some (vI (nI pt)), some (vI (nI (gdV V k))), some (vI (nI 0)), y5] [] μ P := by
    intro y5
    refine go_blk [(.iload_n 2, 0, 0, 0), (.ifCond .ne 9, 45, 0, 0)] (by decide +kernel) ?_
    simp only [e_il_2, e_if_ne, e_nil, nol_n, nol_I, nol_R, rsum_0, rsum_I, rsum_R, ps_s, ps_n, true_and, and_true, Nat.reduceAdd, Nat.reduceLeDiff, qz, qd, e36, true_implies, false_implies, not_true_eq_false, not_false_eq_true]
    refine ⟨fun c36 => ?_, fun c36 => ?_⟩
    · rw [if_neg c36] at h
      refine go_blk [(.iload_n 1, 0, 0, 0), (.iload_n 3, 0, 0, 0), (.idiv, 0, 0, 0), (.ireturn, 0, 0, 0)] (by decide +kernel) ?_
      simp only [e_il_1, e_il_3, e_idiv, e_iret0, e_nil, nol_n, nol_I, nol_R, rsum_0, rsum_I, rsum_R, ps_s, ps_n, true_and, and_true, Nat.reduceAdd, Nat.reduceLeDiff, qz, qd, e36, true_implies, false_implies, not_true_eq_false, not_false_eq_true]
      exact h
    · rw [if_pos c36] at h
      refine go_blk [(.iload_n 0, 0, 0, 0), (.iload_n 3, 0, 0, 0), (.idiv, 0, 0, 0), (.goto 6, 48, 0, 0), (.ireturn, 0, 0, 0)] (by decide +kernel) ?_
      simp only [e_il_0, e_il_3, e_idiv, e_goto, e_iret0, e_nil, nol_n, nol_I, nol_R, rsum_0, rsum_I, rsum_R, ps_s, ps_n, true_and, and_true, Nat.reduceAdd, Nat.reduceLeDiff, qz, qd, e36, true_implies, false_implies, not_true_eq_false, not_false_eq_true]
      exact h
  refine go_blk [(.iload_n 0, 0, 0, 0), (.ifCond .ge 8, 9, 0, 0)] (by decide +kernel) ?_
  simp only [e_il_0, e_if_ge, e_nil, nol_n, nol_I, nol_R, rsum_0, rsum_I, rsum_R, ps_s, ps_n, true_and, and_true, Nat.reduceAdd, Nat.reduceLeDiff]
  refine ⟨fun c1 => ?_, fun c1 => ?_⟩
  · have ev : V = nI V.toInt.natAbs := by rw [← ab]; unfold abI; rw [if_pos c1]
    refine go_blk [(.iload_n 0, 0, 0, 0), (.istore_n 3, 0, 0, 0), (.iload_n 1, 0, 0, 0), (.istore 4, 0, 0, 0)] (by decide +kernel) ?_
    simp only [e_il_0, e_is_3n, e_is_3I, e_is_3R, e_il_1, e_isw_4n, e_isw_4I, e_isw_4R, e_nil, nol_n, nol_I, nol_R, rsum_0, rsum_I, rsum_R, ps_s, ps_n, true_and, and_true, Nat.reduceAdd, Nat.reduceLeDiff]
    have z := lp_low (x0 := V) (x1 := nI (10 ^ k)) (x2 := nI pt) fin (10 ^ k) V.toInt.natAbs (10 ^ k) none (Nat.le_refl _) (by omega) (by omega) rfl
    rw [← ev] at z
    exact z
  · have ev : -V = nI V.toInt.natAbs := by rw [← ab]; unfold abI; rw [if_neg c1, Int32.zero_sub]
    refine go_blk [(.iload_n 0, 0, 0, 0), (.ineg, 0, 0, 0), (.goto 4, 10, 0, 0), (.istore_n 3, 0, 0, 0), (.iload_n 1, 0, 0, 0), (.istore 4, 0, 0, 0)] (by decide +kernel) ?_
    simp only [e_il_0, e_ineg, e_goto, e_is_3n, e_is_3I, e_is_3R, e_il_1, e_isw_4n, e_isw_4I, e_isw_4R, e_nil, nol_n, nol_I, nol_R, rsum_0, rsum_I, rsum_R, ps_s, ps_n, true_and, and_true, Nat.reduceAdd, Nat.reduceLeDiff, ev]
    exact lp_low fin (10 ^ k) V.toInt.natAbs (10 ^ k) none (Nat.le_refl _) (by omega) (by omega) rfl
