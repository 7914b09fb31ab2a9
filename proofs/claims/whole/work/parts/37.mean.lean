theorem OffS.upc {k : Nat} {a b : Mm} (h : OffS k a b) (v : Int32) : OffS k a (up b 4 0 0 4 v) := ⟨fun c i h1 h2 => by
    rw [← h.1 c i h1 h2]
    funext s j
    exact up_ne (by omega), fun j hj => (up_ne (by omega)).trans (h.2 j hj)⟩
theorem stp_t0 {ch pr : Nat} {hv ms : Int32} {x : Int32 × Int32} (h0 : ¬ ch = 0) (h : trI ch hv ms ≤ x.1) : stp true ch hv ms pr x = x := by
  unfold stp; rw [if_neg h0]; exact if_pos h
theorem stp_t1 {ch pr : Nat} {hv ms : Int32} {x : Int32 × Int32} (h0 : ¬ ch = 0) (h : ¬ trI ch hv ms ≤ x.1) : stp true ch hv ms pr x = (trI ch hv ms, nI pr) := by
  unfold stp; rw [if_neg h0]; exact if_neg h
theorem stp_f0 {ch pr : Nat} {hv ms : Int32} {x : Int32 × Int32} (h0 : ¬ ch = 0) (h : x.1 ≤ trI ch hv ms) : stp false ch hv ms pr x = x := by
  unfold stp; rw [if_neg h0]; exact if_pos h
theorem stp_f1 {ch pr : Nat} {hv ms : Int32} {x : Int32 × Int32} (h0 : ¬ ch = 0) (h : ¬ x.1 ≤ trI ch hv ms) : stp false ch hv ms pr x = (trI ch hv ms, nI pr) := by
  unfold stp; rw [if_neg h0]; exact if_neg h
theorem lp_mean {l : Launch} {K : KK} {d : Nat} {P : Option AV → Mm → Prop} {μ0 : Mm} {op fs k i sd : Nat} {t : TS} {ms : Int32} {F : Nat → Int32 × Int32 → Int32 × Int32} (hM : MeanOk l K op fs k) (hk : k < 3) (hd1 : 6 + 2 * k ≤ d) (hi : i < 6) (hik : i < 2 ∨ 2 + (k + 1) ≤ i) (hT0 : TRep μ0 i t) (hI : TInv op t) (hC0 : CRep μ0 true op) (h10 : μ0 4 0 0 1 = nI fs) (hs : sd < 2) (hfs : fs < 2) (hF : ∀ p x, F p x = stp (sd == fs) (mch op t sd (p / 6) (p % 6)) (mnP op fs k (fireS op t (p / 6) (p % 6) true).1 (1 - sd)).1 ms p x) : ∀ (r p : Nat) (x : Int32 × Int32) (μ : Mm) (y8 y9 y10 y11 : Option AV), p + r = 36 → OffS (k + 1) μ0 μ → (∀ μ2, OffS (k + 1) μ0 μ2 → μ2 4 0 0 4 = (mnF F r p x).2 → P (some (vI (mnF F r p x).1)) μ2) → Go l K d 50 60 [some (vR 4 0 0), some (vR 6 i 0), some (vI (nI sd)), some (vI (nI (k + 1))), some (vI x.1), some (vI x.2), some (vI ms), some (vI (nI p)), y8, y9, y10, y11] [] μ P := by
  have hd2 : 1 ≤ d := by omega
  have hn := hI.1
  intro r
  induction r with
  | zero =>
    intro p x μ y8 y9 y10 y11 hp hO h
    refine go_blk [(.iload 7, 0, 0, 0), (.bipush 36, 0, 0, 0), (.if_icmp .ge 122, 186, 0, 0)] (by decide +kernel) ?_
    simp only [e_ilw_7, e_bp_36, e_icmp_ge, e_nil, nol_n, nol_I, nol_R, rsum_0, rsum_I, rsum_R, ps_s, ps_n, true_and, and_true, Nat.reduceAdd, Nat.reduceLeDiff]
    refine ⟨fun c64 => ?_, fun c64 => ?_⟩
    · refine go_blk [(.aload_n 0, 0, 0, 0), (.iload 5, 0, 0, 0), (.putfield 27, 4, 4, 0)] (by decide +kernel) ?_
      simp only [e_al_0, e_ilw_5, e_pf_4_4, e_nil, nol_n, nol_I, nol_R, rsum_0, rsum_I, rsum_R, ps_s, ps_n, true_and, and_true, Nat.reduceAdd, Nat.reduceLeDiff]
      refine go_blk [(.iload 4, 0, 0, 0), (.ireturn, 0, 0, 0)] (by decide +kernel) ?_
      simp only [e_ilw_4, e_iret0, e_nil, nol_n, nol_I, nol_R, rsum_0, rsum_I, rsum_R, ps_s, ps_n, true_and, and_true, Nat.reduceAdd, Nat.reduceLeDiff]
      exact h _ (hO.upc _) (up_self _ _ _ _ _ _)
    · exact absurd (nI_le (a := 36) (by omega) (by omega)) c64
  | succ r ih =>
    intro p x μ y8 y9 y10 y11 hp hO h
    have hT : TRep μ i t := hT0.off (hO.1 6 i (by omega) (by omega))
    have hC : CRep μ true op := hC0.off (hO.1 0 0 (by omega) (by omega))
    have h1 : μ 4 0 0 1 = nI fs := (hO.2 1 (by omega)).trans h10
    have hm := hT.1
    have ea : nI p / 6 = nI (p / 6) := pk_div (d := 6) (by omega) (by omega) (by omega)
    have eb : nI p - nI (p / 6) * 6 = nI (p % 6) := by rw [← ea]; exact pk_rem (d := 6) (by omega) (by omega) (by omega)
    have n6 : ((6 : Int32) = 0) = False := by decide
    have hha : hasI (t 0 1) (nI (p / 6)) = decide (p / 6 < t 0 1) := hasI_nI hn (by omega)
    have hv : vp_in (nI (p / 6)) 6 := vin (by omega) (by omega)
    have hx : ix (nI (p / 6)) = p / 6 := nI_ix (by omega)
    have u : mnF F (r + 1) p x = mnF F r (p + 1) (F p x) := rfl
    rw [u, hF] at h
    have v : ∀ (c : Nat), stp (sd == fs) 0 (mnP op fs k (fireS op t (p / 6) (p % 6) true).1 (1 - sd)).1 ms p x = x := fun _ => if_pos rfl
    have e152 : (nI sd = nI fs) = (sd = fs) := propext (nI_eq (by omega) (by omega))
    refine go_blk [(.iload 7, 0, 0, 0), (.bipush 36, 0, 0, 0), (.if_icmp .ge 122, 186, 0, 0)] (by decide +kernel) ?_
    simp only [e_ilw_7, e_bp_36, e_icmp_ge, e_nil, nol_n, nol_I, nol_R, rsum_0, rsum_I, rsum_R, ps_s, ps_n, true_and, and_true, Nat.reduceAdd, Nat.reduceLeDiff, hi, hd2, ea, eb, n6, hv, hx, e152, bi_0, true_implies, false_implies, not_true_eq_false, not_false_eq_true]
    refine ⟨fun c64 => ?_, fun c64 => ?_⟩
    · exact absurd c64 (nI_ge (b := 36) (by omega) (by omega))
    · refine go_blk [(.iload 7, 0, 0, 0), (.bipush 6, 0, 0, 0), (.idiv, 0, 0, 0), (.istore 8, 0, 0, 0), (.iload 7, 0, 0, 0), (.bipush 6, 0, 0, 0), (.irem, 0, 0, 0), (.istore 9, 0, 0, 0), (.aload_n 1, 0, 0, 0), (.iload 8, 0, 0, 0), (.invokevirtual 53, 60, 1, 6)] (by decide +kernel) ?_
      simp only [e_ilw_7, e_bp_6, e_idiv, e_isw_8n, e_isw_8I, e_isw_8R, e_irem, e_isw_9n, e_isw_9I, e_isw_9R, e_al_1, e_ilw_8, e_iv_6_1, e_nil, nol_n, nol_I, nol_R, rsum_0, rsum_I, rsum_R, ps_s, ps_n, true_and, and_true, Nat.reduceAdd, Nat.reduceLeDiff, hi, hd2, ea, eb, n6, hv, hx, e152, bi_0, true_implies, false_implies, not_true_eq_false, not_false_eq_true]
      refine ok_has hi hm ?_
      rw [hha]
      refine go_blk [(.ifCond .eq 25, 112, 0, 0)] (by decide +kernel) ?_
      simp only [e_if_eq, e_nil, nol_n, nol_I, nol_R, rsum_0, rsum_I, rsum_R, ps_s, ps_n, true_and, and_true, Nat.reduceAdd, Nat.reduceLeDiff, hi, hd2, ea, eb, n6, hv, hx, e152, bi_0, true_implies, false_implies, not_true_eq_false, not_false_eq_true]
      refine ⟨fun c87 => ?_, fun c87 => ?_⟩
      · have z : mch op t sd (p / 6) (p % 6) = 0 := if_neg (fun z => by simp only [decide_eq_false_iff_not] at c87; exact c87 z.1)
        rw [z, v 0] at h
        refine go_blk [(.iconst 0, 0, 0, 0), (.istore 10, 0, 0, 0), (.iload 10, 0, 0, 0), (.ifCond .ne 6, 123, 0, 0)] (by decide +kernel) ?_
        simp only [e_ic_0, e_isw_10n, e_isw_10I, e_isw_10R, e_ilw_10, e_if_ne, e_nil, nol_n, nol_I, nol_R, rsum_0, rsum_I, rsum_R, ps_s, ps_n, true_and, and_true, Nat.reduceAdd, Nat.reduceLeDiff, hi, hd2, ea, eb, n6, hv, hx, e152, bi_0, true_implies, false_implies, not_true_eq_false, not_false_eq_true]
        refine go_blk [(.goto 60, 180, 0, 0), (.iinc 7 1, 0, 0, 0), (.goto (-123), 60, 0, 0)] (by decide +kernel) ?_
        simp only [e_goto, e_inc_7_1n, e_inc_7_1I, e_inc_7_1R, e_nil, nol_n, nol_I, nol_R, rsum_0, rsum_I, rsum_R, ps_s, ps_n, true_and, and_true, Nat.reduceAdd, Nat.reduceLeDiff, hi, hd2, ea, eb, n6, hv, hx, e152, bi_0, true_implies, false_implies, not_true_eq_false, not_false_eq_true]
        rw [nI_1]
        exact ih (p + 1) x μ _ _ _ _ (by omega) hO h
      · have pa : p / 6 < t 0 1 := by simpa using c87
        have a4 := (hT.row pa).2.1
        have b4 := (hI.2.1 _ pa).2.1
        have e98 : (nI (t 4 (p / 6)) = nI sd) = (t 4 (p / 6) = sd) := propext (nI_eq (by omega) (by omega))
        refine go_blk [(.aload_n 1, 0, 0, 0), (.getfield 57, 6, 3, 0), (.iload 8, 0, 0, 0), (.iaload, 0, 0, 0), (.iload_n 2, 0, 0, 0), (.if_icmp .ne 14, 112, 0, 0)] (by decide +kernel) ?_
        simp only [e_al_1, e_gf_6_3, e_ilw_8, e_ia, e_il_2, e_icmp_ne, rd_6_3, ai_0_4, ai_1_7, ai_2_1, ai_2_2, ai_3_1, ai_4_1, ai_6_3, ai_6_4, ai_6_5, ai_6_6, ai_6_7, ai_6_8, ai_8_5, ai_8_6, ai_8_17, ai_8_21, ai_8_23, ai_8_24, ai_8_27, ai_8_28, ai_8_38, ai_8_39, ai_8_40, e_nil, nol_n, nol_I, nol_R, rsum_0, rsum_I, rsum_R, ps_s, ps_n, true_and, and_true, Nat.reduceAdd, Nat.reduceLeDiff, hi, hd2, ea, eb, n6, hv, hx, e152, bi_0, true_implies, false_implies, not_true_eq_false, not_false_eq_true, a4, e98]
        refine ⟨fun c98 => ?_, fun c98 => ?_⟩
        · have z : mch op t sd (p / 6) (p % 6) = 0 := if_neg (fun z => c98 z.2)
          rw [z, v 0] at h
          refine go_blk [(.iconst 0, 0, 0, 0), (.istore 10, 0, 0, 0), (.iload 10, 0, 0, 0), (.ifCond .ne 6, 123, 0, 0)] (by decide +kernel) ?_
          simp only [e_ic_0, e_isw_10n, e_isw_10I, e_isw_10R, e_ilw_10, e_if_ne, e_nil, nol_n, nol_I, nol_R, rsum_0, rsum_I, rsum_R, ps_s, ps_n, true_and, and_true, Nat.reduceAdd, Nat.reduceLeDiff, hi, hd2, ea, eb, n6, hv, hx, e152, bi_0, true_implies, false_implies, not_true_eq_false, not_false_eq_true, a4, e98]
          refine go_blk [(.goto 60, 180, 0, 0), (.iinc 7 1, 0, 0, 0), (.goto (-123), 60, 0, 0)] (by decide +kernel) ?_
          simp only [e_goto, e_inc_7_1n, e_inc_7_1I, e_inc_7_1R, e_nil, nol_n, nol_I, nol_R, rsum_0, rsum_I, rsum_R, ps_s, ps_n, true_and, and_true, Nat.reduceAdd, Nat.reduceLeDiff, hi, hd2, ea, eb, n6, hv, hx, e152, bi_0, true_implies, false_implies, not_true_eq_false, not_false_eq_true, a4, e98]
          rw [nI_1]
          exact ih (p + 1) x μ _ _ _ _ (by omega) hO h
        · have z : mch op t sd (p / 6) (p % 6) = chS op t (p / 6) (p % 6) := if_pos ⟨pa, c98⟩
          rw [z] at h
          have cl := chS_le op t (p / 6) (p % 6)
          have e117 : (nI (chS op t (p / 6) (p % 6)) = 0) = (chS op t (p / 6) (p % 6) = 0) := propext (nI_eq (b := 0) (by omega) (by omega))
          refine go_blk [(.aload_n 1, 0, 0, 0), (.iload 8, 0, 0, 0), (.iload 9, 0, 0, 0), (.invokevirtual 61, 67, 2, 6)] (by decide +kernel) ?_
          simp only [e_al_1, e_ilw_8, e_ilw_9, e_iv_6_2, e_nil, nol_n, nol_I, nol_R, rsum_0, rsum_I, rsum_R, ps_s, ps_n, true_and, and_true, Nat.reduceAdd, Nat.reduceLeDiff, hi, hd2, ea, eb, n6, hv, hx, e152, bi_0, true_implies, false_implies, not_true_eq_false, not_false_eq_true, a4, e98, e117]
          refine ok_chance hi hT hI hC (by omega) (by omega) (by omega) ?_
          refine go_blk [(.goto 4, 113, 0, 0), (.istore 10, 0, 0, 0), (.iload 10, 0, 0, 0), (.ifCond .ne 6, 123, 0, 0)] (by decide +kernel) ?_
          simp only [e_goto, e_isw_10n, e_isw_10I, e_isw_10R, e_ilw_10, e_if_ne, e_nil, nol_n, nol_I, nol_R, rsum_0, rsum_I, rsum_R, ps_s, ps_n, true_and, and_true, Nat.reduceAdd, Nat.reduceLeDiff, hi, hd2, ea, eb, n6, hv, hx, e152, bi_0, true_implies, false_implies, not_true_eq_false, not_false_eq_true, a4, e98, e117]
          refine ⟨fun c117 => ?_, fun c117 => ?_⟩
          · refine go_blk [(.iload 10, 0, 0, 0), (.aload_n 0, 0, 0, 0), (.aload_n 1, 0, 0, 0), (.iload 8, 0, 0, 0), (.iload 9, 0, 0, 0), (.iload_n 3, 0, 0, 0), (.invokevirtual 64, 52, 4, 4)] (by decide +kernel) ?_
            simp only [e_ilw_10, e_al_0, e_al_1, e_ilw_8, e_ilw_9, e_il_3, e_iv_4_4, e_nil, nol_n, nol_I, nol_R, rsum_0, rsum_I, rsum_R, ps_s, ps_n, true_and, and_true, Nat.reduceAdd, Nat.reduceLeDiff, hi, hd2, ea, eb, n6, hv, hx, e152, bi_0, true_implies, false_implies, not_true_eq_false, not_false_eq_true, a4, e98, e117]
            refine ok_hit hM hk (by omega) hi hik hT hI hC h1 c117 (fun μ2 oO2 => ?_)
            rw [c98]
            have h12 : μ2 4 0 0 1 = nI fs := (oO2.2 1 (by omega)).trans h1
            refine go_blk [(.imul, 0, 0, 0), (.bipush 10, 0, 0, 0), (.iload 10, 0, 0, 0), (.isub, 0, 0, 0), (.iload 6, 0, 0, 0), (.imul, 0, 0, 0), (.iadd, 0, 0, 0), (.istore 11, 0, 0, 0), (.iload_n 2, 0, 0, 0), (.aload_n 0, 0, 0, 0), (.getfield 17, 4, 1, 0), (.if_icmp .ne 13, 165, 0, 0)] (by decide +kernel) ?_
            simp only [e_imul, e_bp_10, e_ilw_10, e_isub, e_ilw_6, e_iadd, e_isw_11n, e_isw_11I, e_isw_11R, e_il_2, e_al_0, e_gf_4_1, e_icmp_ne, rd_4_1, e_nil, nol_n, nol_I, nol_R, rsum_0, rsum_I, rsum_R, ps_s, ps_n, true_and, and_true, Nat.reduceAdd, Nat.reduceLeDiff, hi, hd2, ea, eb, n6, hv, hx, e152, bi_0, true_implies, false_implies, not_true_eq_false, not_false_eq_true, a4, e98, e117, h12]
            refine ⟨fun c152 => ?_, fun c152 => ?_⟩
            · have mx : (sd == fs) = false := by simpa using c152
              refine go_blk [(.iload 11, 0, 0, 0), (.iload 4, 0, 0, 0), (.if_icmp .ge 11, 180, 0, 0)] (by decide +kernel) ?_
              simp only [e_ilw_11, e_ilw_4, e_icmp_ge, e_nil, nol_n, nol_I, nol_R, rsum_0, rsum_I, rsum_R, ps_s, ps_n, true_and, and_true, Nat.reduceAdd, Nat.reduceLeDiff, hi, hd2, ea, eb, n6, hv, hx, e152, bi_0, true_implies, false_implies, not_true_eq_false, not_false_eq_true, a4, e98, e117, h12]
              refine ⟨fun c169 => ?_, fun c169 => ?_⟩
              · refine go_blk [(.iinc 7 1, 0, 0, 0), (.goto (-123), 60, 0, 0)] (by decide +kernel) ?_
                simp only [e_inc_7_1n, e_inc_7_1I, e_inc_7_1R, e_goto, e_nil, nol_n, nol_I, nol_R, rsum_0, rsum_I, rsum_R, ps_s, ps_n, true_and, and_true, Nat.reduceAdd, Nat.reduceLeDiff, hi, hd2, ea, eb, n6, hv, hx, e152, bi_0, true_implies, false_implies, not_true_eq_false, not_false_eq_true, a4, e98, e117, h12]
                rw [nI_1]
                refine ih (p + 1) x μ2 _ _ _ _ (by omega) (hO.tr oO2) ?_
                rw [mx, stp_f0 c117 c169] at h
                exact h
              · refine go_blk [(.iload 11, 0, 0, 0), (.istore 4, 0, 0, 0), (.iload 7, 0, 0, 0), (.istore 5, 0, 0, 0), (.iinc 7 1, 0, 0, 0), (.goto (-123), 60, 0, 0)] (by decide +kernel) ?_
                simp only [e_ilw_11, e_isw_4n, e_isw_4I, e_isw_4R, e_ilw_7, e_isw_5n, e_isw_5I, e_isw_5R, e_inc_7_1n, e_inc_7_1I, e_inc_7_1R, e_goto, e_nil, nol_n, nol_I, nol_R, rsum_0, rsum_I, rsum_R, ps_s, ps_n, true_and, and_true, Nat.reduceAdd, Nat.reduceLeDiff, hi, hd2, ea, eb, n6, hv, hx, e152, bi_0, true_implies, false_implies, not_true_eq_false, not_false_eq_true, a4, e98, e117, h12]
                rw [nI_1]
                refine ih (p + 1) (trI (chS op t (p / 6) (p % 6)) _ ms, nI p) μ2 _ _ _ _ (by omega) (hO.tr oO2) ?_
                rw [mx, stp_f1 c117 c169] at h
                exact h
            · have mx : (sd == fs) = true := by simpa using c152
              refine go_blk [(.iload 11, 0, 0, 0), (.iload 4, 0, 0, 0), (.if_icmp .le 21, 180, 0, 0)] (by decide +kernel) ?_
              simp only [e_ilw_11, e_ilw_4, e_icmp_le, e_nil, nol_n, nol_I, nol_R, rsum_0, rsum_I, rsum_R, ps_s, ps_n, true_and, and_true, Nat.reduceAdd, Nat.reduceLeDiff, hi, hd2, ea, eb, n6, hv, hx, e152, bi_0, true_implies, false_implies, not_true_eq_false, not_false_eq_true, a4, e98, e117, h12]
              refine ⟨fun c159 => ?_, fun c159 => ?_⟩
              · refine go_blk [(.iinc 7 1, 0, 0, 0), (.goto (-123), 60, 0, 0)] (by decide +kernel) ?_
                simp only [e_inc_7_1n, e_inc_7_1I, e_inc_7_1R, e_goto, e_nil, nol_n, nol_I, nol_R, rsum_0, rsum_I, rsum_R, ps_s, ps_n, true_and, and_true, Nat.reduceAdd, Nat.reduceLeDiff, hi, hd2, ea, eb, n6, hv, hx, e152, bi_0, true_implies, false_implies, not_true_eq_false, not_false_eq_true, a4, e98, e117, h12]
                rw [nI_1]
                refine ih (p + 1) x μ2 _ _ _ _ (by omega) (hO.tr oO2) ?_
                rw [mx, stp_t0 c117 c159] at h
                exact h
              · refine go_blk [(.goto 10, 172, 0, 0), (.iload 11, 0, 0, 0), (.istore 4, 0, 0, 0), (.iload 7, 0, 0, 0), (.istore 5, 0, 0, 0), (.iinc 7 1, 0, 0, 0), (.goto (-123), 60, 0, 0)] (by decide +kernel) ?_
                simp only [e_goto, e_ilw_11, e_isw_4n, e_isw_4I, e_isw_4R, e_ilw_7, e_isw_5n, e_isw_5I, e_isw_5R, e_inc_7_1n, e_inc_7_1I, e_inc_7_1R, e_nil, nol_n, nol_I, nol_R, rsum_0, rsum_I, rsum_R, ps_s, ps_n, true_and, and_true, Nat.reduceAdd, Nat.reduceLeDiff, hi, hd2, ea, eb, n6, hv, hx, e152, bi_0, true_implies, false_implies, not_true_eq_false, not_false_eq_true, a4, e98, e117, h12]
                rw [nI_1]
                refine ih (p + 1) (trI (chS op t (p / 6) (p % 6)) _ ms, nI p) μ2 _ _ _ _ (by omega) (hO.tr oO2) ?_
                rw [mx, stp_t1 c117 c159] at h
                exact h
          · rw [c117, v 0] at h
            refine go_blk [(.goto 60, 180, 0, 0), (.iinc 7 1, 0, 0, 0), (.goto (-123), 60, 0, 0)] (by decide +kernel) ?_
            simp only [e_goto, e_inc_7_1n, e_inc_7_1I, e_inc_7_1R, e_nil, nol_n, nol_I, nol_R, rsum_0, rsum_I, rsum_R, ps_s, ps_n, true_and, and_true, Nat.reduceAdd, Nat.reduceLeDiff, hi, hd2, ea, eb, n6, hv, hx, e152, bi_0, true_implies, false_implies, not_true_eq_false, not_false_eq_true, a4, e98, e117]
            rw [nI_1]
            exact ih (p + 1) x μ _ _ _ _ (by omega) hO h
theorem mean_ok {l : Launch} {K : KK} {op fs : Nat} (hfs : fs < 2) : ∀ k, k ≤ 3 → MeanOk l K op fs k
  | 0, _ => by
    intro d μ t i sd P hd1 hi hik hT hI hC h1 hs h
    refine ok_go 12 (by decide +kernel) [some (vR 4 0 0), some (vR 6 i 0), some (vI (nI sd)), some (vI (nI 0)), none, none, none, none, none, none, none, none] rfl (Nat.le_of_ble_eq_true rfl) ?_
    have hd2 : 1 ≤ d := by omega
    have q1 : (nI 0 ≤ 0) = True := by decide
    have es := sd_tab fs hfs
    refine go_blk [(.iload_n 3, 0, 0, 0), (.ifCond .le 8, 9, 0, 0)] (by decide +kernel) ?_
    simp only [e_il_3, e_if_le, e_nil, nol_n, nol_I, nol_R, rsum_0, rsum_I, rsum_R, ps_s, ps_n, true_and, and_true, Nat.reduceAdd, Nat.reduceLeDiff, hi, hd2, q1, h1, es, true_implies, false_implies, not_true_eq_false, not_false_eq_true]
    refine go_blk [(.aload_n 1, 0, 0, 0), (.aload_n 0, 0, 0, 0), (.getfield 17, 4, 1, 0), (.invokevirtual 47, 65, 1, 6)] (by decide +kernel) ?_
    simp only [e_al_1, e_al_0, e_gf_4_1, e_iv_6_1, rd_4_1, e_nil, nol_n, nol_I, nol_R, rsum_0, rsum_I, rsum_R, ps_s, ps_n, true_and, and_true, Nat.reduceAdd, Nat.reduceLeDiff, hi, hd2, q1, h1, es, true_implies, false_implies, not_true_eq_false, not_false_eq_true]
    refine ok_standing hi hT hI hfs ?_
    refine go_blk [(.aload_n 1, 0, 0, 0), (.iconst 1, 0, 0, 0), (.aload_n 0, 0, 0, 0), (.getfield 17, 4, 1, 0), (.isub, 0, 0, 0), (.invokevirtual 47, 65, 1, 6)] (by decide +kernel) ?_
    simp only [e_al_1, e_ic_1, e_al_0, e_gf_4_1, e_isub, e_iv_6_1, rd_4_1, e_nil, nol_n, nol_I, nol_R, rsum_0, rsum_I, rsum_R, ps_s, ps_n, true_and, and_true, Nat.reduceAdd, Nat.reduceLeDiff, hi, hd2, q1, h1, es, true_implies, false_implies, not_true_eq_false, not_false_eq_true]
    refine ok_standing hi hT hI (by omega) ?_
    refine go_blk [(.isub, 0, 0, 0), (.ireturn, 0, 0, 0)] (by decide +kernel) ?_
    simp only [e_isub, e_iret0, e_nil, nol_n, nol_I, nol_R, rsum_0, rsum_I, rsum_R, ps_s, ps_n, true_and, and_true, Nat.reduceAdd, Nat.reduceLeDiff, hi, hd2, q1, h1, es, true_implies, false_implies, not_true_eq_false, not_false_eq_true]
    exact h μ (OffS.rf _ _) (fun z => absurd z (by omega))
  | k + 1, hk => by
    intro d μ t i sd P hd1 hi hik hT hI hC h1 hs h
    refine ok_go 12 (by decide +kernel) [some (vR 4 0 0), some (vR 6 i 0), some (vI (nI sd)), some (vI (nI (k + 1))), none, none, none, none, none, none, none, none] rfl (Nat.le_of_ble_eq_true rfl) ?_
    have hM := mean_ok (l := l) (K := K) (op := op) hfs k (by omega)
    have hd2 : 1 ≤ d := by omega
    have q1 : (nI (k + 1) ≤ 0) = False := eq_false (nI_nle (by omega) (by omega))
    have q6 : (nI (k + 1) ≤ 3) = True := eq_true (nI_le (b := 3) (by omega) (by omega))
    have e1 : nI (k + 1) - 1 = nI k := nI_pred k
    have es := sd_tab sd hs
    refine go_blk [(.iload_n 3, 0, 0, 0), (.ifCond .le 8, 9, 0, 0)] (by decide +kernel) ?_
    simp only [e_il_3, e_if_le, e_nil, nol_n, nol_I, nol_R, rsum_0, rsum_I, rsum_R, ps_s, ps_n, true_and, and_true, Nat.reduceAdd, Nat.reduceLeDiff, hi, hd2, q1, q6, h1, e1, es, true_implies, false_implies, not_true_eq_false, not_false_eq_true]
    refine go_blk [(.iload_n 3, 0, 0, 0), (.iconst 3, 0, 0, 0), (.if_icmp .le 23, 29, 0, 0)] (by decide +kernel) ?_
    simp only [e_il_3, e_ic_3, e_icmp_le, e_nil, nol_n, nol_I, nol_R, rsum_0, rsum_I, rsum_R, ps_s, ps_n, true_and, and_true, Nat.reduceAdd, Nat.reduceLeDiff, hi, hd2, q1, q6, h1, e1, es, true_implies, false_implies, not_true_eq_false, not_false_eq_true]
    refine go_blk [(.bipush 10, 0, 0, 0), (.aload_n 0, 0, 0, 0), (.aload_n 1, 0, 0, 0), (.iconst 1, 0, 0, 0), (.iload_n 2, 0, 0, 0), (.isub, 0, 0, 0), (.iload_n 3, 0, 0, 0), (.iconst 1, 0, 0, 0), (.isub, 0, 0, 0), (.invokevirtual 33, 50, 3, 4)] (by decide +kernel) ?_
    simp only [e_bp_10, e_al_0, e_al_1, e_ic_1, e_il_2, e_isub, e_il_3, e_iv_4_3, e_nil, nol_n, nol_I, nol_R, rsum_0, rsum_I, rsum_R, ps_s, ps_n, true_and, and_true, Nat.reduceAdd, Nat.reduceLeDiff, hi, hd2, q1, q6, h1, e1, es, true_implies, false_implies, not_true_eq_false, not_false_eq_true]
    refine hM _ _ _ _ _ _ (by omega) hi (by omega) hT hI hC h1 (by omega) (fun μ1 oO1 _ => ?_)
    have tT1 : TRep μ1 i t := hT.off (oO1.1 6 i (by omega) (by omega))
    have cC1 : CRep μ1 true op := hC.off (oO1.1 0 0 (by omega) (by omega))
    have f1 : μ1 4 0 0 1 = nI fs := (oO1.2 1 (by omega)).trans h1
    refine go_blk [(.imul, 0, 0, 0), (.istore 4, 0, 0, 0), (.iconst (-1), 0, 0, 0), (.istore 5, 0, 0, 0), (.aload_n 0, 0, 0, 0), (.aload_n 1, 0, 0, 0), (.iload_n 2, 0, 0, 0), (.iload_n 3, 0, 0, 0), (.invokevirtual 50, 51, 3, 4)] (by decide +kernel) ?_
    simp only [e_imul, e_isw_4n, e_isw_4I, e_isw_4R, e_ic_m1, e_isw_5n, e_isw_5I, e_isw_5R, e_al_0, e_al_1, e_il_2, e_il_3, e_iv_4_3, e_nil, nol_n, nol_I, nol_R, rsum_0, rsum_I, rsum_R, ps_s, ps_n, true_and, and_true, Nat.reduceAdd, Nat.reduceLeDiff, hi, hd2, q1, q6, h1, e1, es, true_implies, false_implies, not_true_eq_false, not_false_eq_true]
    refine ok_miss hM (by omega) (by omega) hi hik tT1 hI cC1 f1 hs (fun μ2 oO2 => ?_)
    have tT2 : TRep μ2 i t := tT1.off (oO2.1 6 i (by omega) (by omega))
    have cC2 : CRep μ2 true op := cC1.off (oO2.1 0 0 (by omega) (by omega))
    have f2 : μ2 4 0 0 1 = nI fs := (oO2.2 1 (by omega)).trans f1
    have oO3 := (oO1.le (k' := k + 1) (by omega)).tr oO2
    refine go_blk [(.istore 6, 0, 0, 0), (.iconst 0, 0, 0, 0), (.istore 7, 0, 0, 0)] (by decide +kernel) ?_
    simp only [e_isw_6n, e_isw_6I, e_isw_6R, e_ic_0, e_isw_7n, e_isw_7I, e_isw_7R, e_nil, nol_n, nol_I, nol_R, rsum_0, rsum_I, rsum_R, ps_s, ps_n, true_and, and_true, Nat.reduceAdd, Nat.reduceLeDiff, hi, hd2, q1, q6, h1, e1, es, true_implies, false_implies, not_true_eq_false, not_false_eq_true]
    exact lp_mean hM (by omega) (by omega) hi hik tT2 hI cC2 f2 hs hfs (fun _ _ => rfl) 36 0 (10 * (mnP op fs k t (1 - sd)).1, -1) μ2 none none none none (by omega) (OffS.rf _ _) (fun μ4 o4 c4 => h μ4 (oO3.tr o4) (fun _ => c4))
