def HhR (μ : Mm) (h : Int64) : Prop := mkL (μ 8 0 0 40) (μ 8 0 99 40) = h
def O40 (μ μ2 : Mm) : Prop := ∀ c i s j, ¬ (c = 8 ∧ i = 0 ∧ (s = 0 ∨ s = 99) ∧ j = 40) → μ2 c i s j = μ c i s j
theorem hh_up (μ : Mm) (x : Int64) : HhR (up (up μ 8 0 0 40 (hiL x)) 8 0 99 40 (loL x)) x := by
  unfold HhR
  rw [up_self, up_ne (by omega), up_self, mkL_eq]
theorem o40_up (μ : Mm) (x : Int64) : O40 μ (up (up μ 8 0 0 40 (hiL x)) 8 0 99 40 (loL x)) := fun c i s j hc => by rw [up_ne (by omega), up_ne (by omega)]
def DgI (μ0 : Mm) (S : SS) (μ : Mm) (hh : Int64) : Prop := RM μ S ∧ OffX μ0 μ ∧ HhR μ hh
theorem dg_40 {μ0 μ μ2 : Mm} {S : SS} {hh h2 : Int64} (h : DgI μ0 S μ hh) (o : O40 μ μ2) (hv : HhR μ2 h2) : DgI μ0 S μ2 h2 := by
  obtain ⟨⟨L, pg⟩, ⟨laid, op⟩, t, ⟨f, cs⟩, ⟨im, t2, f2, cs2⟩, q, w, b⟩ := S
  obtain ⟨h1, h3, -⟩ := h
  have z := rm_scr h1 (fun c i s j hc => o c i s j (fun y => hc ⟨y.1, y.2.1, by unfold Scr; omega⟩)) (mr_off h1.2.1.1 (fun s j hs => o 8 0 s j (by omega)))
  exact ⟨z.1, fun c hc => (z.2 c hc).trans (h3 c hc), hv⟩
theorem okm_mix {l : Launch} {K : KK} {d : Nat} {μ : Mm} {P : Option AV → Mm → Prop} {hh v : Int64} (hH : HhR μ hh) (h : ∀ μ2, HhR μ2 (31 * hh + v) → O40 μ μ2 → P none μ2) : Ok l K d 176 [vR 8 0 0, vJ v] μ P := by
  refine ok_go 3 (by decide +kernel) [some (vR 8 0 0), some (vJ v), none] rfl (Nat.le_of_ble_eq_true rfl) ?_
  have hH' : mkL (μ 8 0 0 40) (μ 8 0 99 40) = hh := hH
  refine go_blk [(.aload_n 0, 0, 0, 0), (.ldc2_w 302, 0, 0, 31), (.aload_n 0, 0, 0, 0), (.getfield 304, 8, 40, 0), (.lmul, 0, 0, 0), (.lload_n 1, 0, 0, 0), (.ladd, 0, 0, 0), (.putfield 304, 8, 40, 0)] (by decide +kernel) ?_
  simp only [e_al_0, q_ld2_31, e_gf_8_40, q_lmul, e_ll_1, q_ladd, e_pf_8_40, rd_8_40, e_nil, nol_n, nol_I, nol_R, rsum_0, rsum_I, rsum_R, ps_s, ps_n, true_and, and_true, Nat.reduceAdd, Nat.reduceLeDiff, hH']
  refine go_blk [(.return_, 0, 0, 0)] (by decide +kernel) ?_
  simp only [e_vret, e_nil, nol_n, nol_I, nol_R, rsum_0, rsum_I, rsum_R, ps_s, ps_n, true_and, and_true, Nat.reduceAdd, Nat.reduceLeDiff, hH']
  exact h _ (hh_up μ _) (o40_up μ _)
theorem okm_howMany {l : Launch} {K : KK} {d : Nat} {μ : Mm} {P : Option AV → Mm → Prop} {N : Nat} {S : SS} {k : Nat} (hk : k < 14) (hV : Inv N S) (hR : RM μ S) (hd1 : 13 ≤ d) (h : P (some (vI (vCount (nI k) S))) μ) : Ok l K d 174 [vR 8 0 0, vI (nI k)] μ P := by
  refine ok_go 2 (by decide +kernel) [some (vR 8 0 0), some (vI (nI k))] rfl (Nat.le_of_ble_eq_true rfl) ?_
  have hR0 := hR
  have hV0 := hV
  obtain ⟨⟨L, pg⟩, ⟨laid, op⟩, t, ⟨f, cs⟩, ⟨im, t2, f2, cs2⟩, q, w, b⟩ := S
  obtain ⟨⟨rP, r0, r2⟩, ⟨rM, rG⟩, ⟨rK, rK2⟩, ⟨r1, r17, r18⟩⟩ := hR
  obtain ⟨⟨iL, iP⟩, ⟨iO, iO2⟩, ⟨iT, iF⟩, iK, ⟨iq, iw, ib⟩⟩ := hV
  have hd2 : 1 ≤ d := by omega
  have hn := iT.1
  have m3 := rM.1.1
  have m6 : μ 8 0 0 6 = nI (mSt t) := rM.2.1.1
  have m7 : μ 8 0 0 7 = nI (mSd t) := rM.2.1.2.1
  have m9 := rM.2.2.1
  have m10 := rM.2.2.2
  have l6 := mSt_lt hn
  obtain ⟨⟨g11, g12, g13, g14, g15⟩, g17⟩ := id rG
  have g13' : μ 8 0 0 13 = nI (ix (f 3)) := g13.trans iF.1.2
  have b3 := iF.1.1
  have rL := rP.1
  have ea : nI (mSt t) &&& nI (mSd t) = nI (mS1 t) := by rw [nI_and, mS1_eq]
  have l1 : mS1 t < 2 ^ 6 := mskF_lt15 _ hn
  have e0 := nI_andn (mSt t) (mSd t)
  rw [mS0_eq iT] at e0
  have l0 : mskF (fun j => stn t j && t 4 j == 0) (t 0 1) < 2 ^ 6 := mskF_lt15 _ hn
  have s0 : pop (mskF (fun j => stn t j && t 4 j == 0) (t 0 1)) = std t 0 := pop_msk _ (by omega)
  refine go_blk [(.iload_n 1, 0, 0, 0), (.tableswitch 165 0 13 #[71, 79, 84, 89, 94, 109, 122, 127, 135, 140, 145, 150, 155, 160], 0, 0, 0)] (by decide +kernel) ?_
  simp only [e_il_1, e_tsw, e_nil, nol_n, nol_I, nol_R, rsum_0, rsum_I, rsum_R, ps_s, ps_n, true_and, and_true, Nat.reduceAdd, Nat.reduceLeDiff, hd2, m3, m6, m7, m9, m10, g11, g13', g14, g15, rL, ea, e0, r1, r2, r17, r18]
  have k14 : k = 0 ∨ k = 1 ∨ k = 2 ∨ k = 3 ∨ k = 4 ∨ k = 5 ∨ k = 6 ∨ k = 7 ∨ k = 8 ∨ k = 9 ∨ k = 10 ∨ k = 11 ∨ k = 12 ∨ k = 13 := by omega
  rcases k14 with yy | yy | yy | yy | yy | yy | yy | yy | yy | yy | yy | yy | yy | yy
  · subst yy
    have e : vCount (nI 0) ((L, pg), (laid, op), t, (f, cs), (im, t2, f2, cs2), (q, w, b)) = nI (pop op) := by
      unfold vCount
      rw [if_pos (by decide), nI_ix (by omega)]
      rfl
    rw [e] at h
    refine ⟨72, by decide, ?_⟩
    refine go_blk [(.aload_n 0, 0, 0, 0), (.getfield 80, 8, 2, 0), (.invokestatic 117, 105, 1, 0)] (by decide +kernel) ?_
    simp only [e_al_0, e_gf_8_2, e_ivs_1, rd_8_2, e_nil, Nat.reduceLT, nol_n, nol_I, nol_R, rsum_0, rsum_I, rsum_R, ps_s, ps_n, true_and, and_true, Nat.reduceAdd, Nat.reduceLeDiff, hd2, m3, m6, m7, m9, m10, g11, g13', g14, g15, rL, ea, e0, r1, r2, r17, r18]
    refine okm_size iO ?_
    refine go_blk [(.ireturn, 0, 0, 0)] (by decide +kernel) ?_
    simp only [e_iret0, e_nil, nol_n, nol_I, nol_R, rsum_0, rsum_I, rsum_R, ps_s, ps_n, true_and, and_true, Nat.reduceAdd, Nat.reduceLeDiff, hd2, m3, m6, m7, m9, m10, g11, g13', g14, g15, rL, ea, e0, r1, r2, r17, r18]
    exact h
  · subst yy
    have e : vCount (nI 1) ((L, pg), (laid, op), t, (f, cs), (im, t2, f2, cs2), (q, w, b)) = nI (t 8 0) := by
      unfold vCount
      rw [if_pos (by decide), nI_ix (by omega)]
      rfl
    rw [e] at h
    refine ⟨80, by decide, ?_⟩
    refine go_blk [(.aload_n 0, 0, 0, 0), (.getfield 83, 8, 9, 0), (.ireturn, 0, 0, 0)] (by decide +kernel) ?_
    simp only [e_al_0, e_gf_8_9, e_iret0, rd_8_9, e_nil, nol_n, nol_I, nol_R, rsum_0, rsum_I, rsum_R, ps_s, ps_n, true_and, and_true, Nat.reduceAdd, Nat.reduceLeDiff, hd2, m3, m6, m7, m9, m10, g11, g13', g14, g15, rL, ea, e0, r1, r2, r17, r18]
    exact h
  · subst yy
    have e : vCount (nI 2) ((L, pg), (laid, op), t, (f, cs), (im, t2, f2, cs2), (q, w, b)) = nI (t 8 1) := by
      unfold vCount
      rw [if_pos (by decide), nI_ix (by omega)]
      rfl
    rw [e] at h
    refine ⟨85, by decide, ?_⟩
    refine go_blk [(.aload_n 0, 0, 0, 0), (.getfield 86, 8, 10, 0), (.ireturn, 0, 0, 0)] (by decide +kernel) ?_
    simp only [e_al_0, e_gf_8_10, e_iret0, rd_8_10, e_nil, nol_n, nol_I, nol_R, rsum_0, rsum_I, rsum_R, ps_s, ps_n, true_and, and_true, Nat.reduceAdd, Nat.reduceLeDiff, hd2, m3, m6, m7, m9, m10, g11, g13', g14, g15, rL, ea, e0, r1, r2, r17, r18]
    exact h
  · subst yy
    have e : vCount (nI 3) ((L, pg), (laid, op), t, (f, cs), (im, t2, f2, cs2), (q, w, b)) = nI (t 0 1) := by
      unfold vCount
      rw [if_pos (by decide), nI_ix (by omega)]
      rfl
    rw [e] at h
    refine ⟨90, by decide, ?_⟩
    refine go_blk [(.aload_n 0, 0, 0, 0), (.getfield 96, 8, 3, 0), (.ireturn, 0, 0, 0)] (by decide +kernel) ?_
    simp only [e_al_0, e_gf_8_3, e_iret0, rd_8_3, e_nil, nol_n, nol_I, nol_R, rsum_0, rsum_I, rsum_R, ps_s, ps_n, true_and, and_true, Nat.reduceAdd, Nat.reduceLeDiff, hd2, m3, m6, m7, m9, m10, g11, g13', g14, g15, rL, ea, e0, r1, r2, r17, r18]
    exact h
  · subst yy
    have e : vCount (nI 4) ((L, pg), (laid, op), t, (f, cs), (im, t2, f2, cs2), (q, w, b)) = nI (std t 0) := by
      unfold vCount
      rw [if_pos (by decide), nI_ix (by omega)]
      rfl
    rw [e] at h
    refine ⟨95, by decide, ?_⟩
    refine go_blk [(.aload_n 0, 0, 0, 0), (.getfield 99, 8, 6, 0), (.aload_n 0, 0, 0, 0), (.getfield 102, 8, 7, 0), (.iconst (-1), 0, 0, 0), (.ixor, 0, 0, 0), (.iand, 0, 0, 0), (.invokestatic 117, 105, 1, 0)] (by decide +kernel) ?_
    simp only [e_al_0, e_gf_8_6, e_gf_8_7, e_ic_m1, e_ixor, e_iand, e_ivs_1, rd_8_6, rd_8_7, e_nil, Nat.reduceLT, nol_n, nol_I, nol_R, rsum_0, rsum_I, rsum_R, ps_s, ps_n, true_and, and_true, Nat.reduceAdd, Nat.reduceLeDiff, hd2, m3, m6, m7, m9, m10, g11, g13', g14, g15, rL, ea, e0, r1, r2, r17, r18]
    refine okm_size (by omega) ?_
    rw [s0]
    refine go_blk [(.ireturn, 0, 0, 0)] (by decide +kernel) ?_
    simp only [e_iret0, e_nil, nol_n, nol_I, nol_R, rsum_0, rsum_I, rsum_R, ps_s, ps_n, true_and, and_true, Nat.reduceAdd, Nat.reduceLeDiff, hd2, m3, m6, m7, m9, m10, g11, g13', g14, g15, rL, ea, e0, r1, r2, r17, r18]
    exact h
  · subst yy
    have e : vCount (nI 5) ((L, pg), (laid, op), t, (f, cs), (im, t2, f2, cs2), (q, w, b)) = nI (std t 1) := by
      unfold vCount
      rw [if_pos (by decide), nI_ix (by omega)]
      rfl
    rw [e] at h
    refine ⟨110, by decide, ?_⟩
    refine go_blk [(.aload_n 0, 0, 0, 0), (.getfield 99, 8, 6, 0), (.aload_n 0, 0, 0, 0), (.getfield 102, 8, 7, 0), (.iand, 0, 0, 0), (.invokestatic 117, 105, 1, 0)] (by decide +kernel) ?_
    simp only [e_al_0, e_gf_8_6, e_gf_8_7, e_iand, e_ivs_1, rd_8_6, rd_8_7, e_nil, Nat.reduceLT, nol_n, nol_I, nol_R, rsum_0, rsum_I, rsum_R, ps_s, ps_n, true_and, and_true, Nat.reduceAdd, Nat.reduceLeDiff, hd2, m3, m6, m7, m9, m10, g11, g13', g14, g15, rL, ea, e0, r1, r2, r17, r18]
    refine okm_size (by omega) ?_
    rw [pop_S1 hn]
    refine go_blk [(.ireturn, 0, 0, 0)] (by decide +kernel) ?_
    simp only [e_iret0, e_nil, nol_n, nol_I, nol_R, rsum_0, rsum_I, rsum_R, ps_s, ps_n, true_and, and_true, Nat.reduceAdd, Nat.reduceLeDiff, hd2, m3, m6, m7, m9, m10, g11, g13', g14, g15, rL, ea, e0, r1, r2, r17, r18]
    exact h
  · subst yy
    have e : vCount (nI 6) ((L, pg), (laid, op), t, (f, cs), (im, t2, f2, cs2), (q, w, b)) = f 1 := by
      unfold vCount
      rw [if_pos (by decide), nI_ix (by omega)]
      rfl
    rw [e] at h
    refine ⟨123, by decide, ?_⟩
    refine go_blk [(.aload_n 0, 0, 0, 0), (.getfield 108, 8, 11, 0), (.ireturn, 0, 0, 0)] (by decide +kernel) ?_
    simp only [e_al_0, e_gf_8_11, e_iret0, rd_8_11, e_nil, nol_n, nol_I, nol_R, rsum_0, rsum_I, rsum_R, ps_s, ps_n, true_and, and_true, Nat.reduceAdd, Nat.reduceLeDiff, hd2, m3, m6, m7, m9, m10, g11, g13', g14, g15, rL, ea, e0, r1, r2, r17, r18]
    exact h
  · subst yy
    have e : vCount (nI 7) ((L, pg), (laid, op), t, (f, cs), (im, t2, f2, cs2), (q, w, b)) = nI (pop (ix (f 3))) := by
      unfold vCount
      rw [if_pos (by decide), nI_ix (by omega)]
      rfl
    rw [e] at h
    refine ⟨128, by decide, ?_⟩
    refine go_blk [(.aload_n 0, 0, 0, 0), (.getfield 111, 8, 13, 0), (.invokestatic 117, 105, 1, 0)] (by decide +kernel) ?_
    simp only [e_al_0, e_gf_8_13, e_ivs_1, rd_8_13, e_nil, Nat.reduceLT, nol_n, nol_I, nol_R, rsum_0, rsum_I, rsum_R, ps_s, ps_n, true_and, and_true, Nat.reduceAdd, Nat.reduceLeDiff, hd2, m3, m6, m7, m9, m10, g11, g13', g14, g15, rL, ea, e0, r1, r2, r17, r18]
    refine okm_size (by omega) ?_
    refine go_blk [(.ireturn, 0, 0, 0)] (by decide +kernel) ?_
    simp only [e_iret0, e_nil, nol_n, nol_I, nol_R, rsum_0, rsum_I, rsum_R, ps_s, ps_n, true_and, and_true, Nat.reduceAdd, Nat.reduceLeDiff, hd2, m3, m6, m7, m9, m10, g11, g13', g14, g15, rL, ea, e0, r1, r2, r17, r18]
    exact h
  · subst yy
    have e : vCount (nI 8) ((L, pg), (laid, op), t, (f, cs), (im, t2, f2, cs2), (q, w, b)) = f 4 := by
      unfold vCount
      rw [if_pos (by decide), nI_ix (by omega)]
      rfl
    rw [e] at h
    refine ⟨136, by decide, ?_⟩
    refine go_blk [(.aload_n 0, 0, 0, 0), (.getfield 20, 8, 14, 0), (.ireturn, 0, 0, 0)] (by decide +kernel) ?_
    simp only [e_al_0, e_gf_8_14, e_iret0, rd_8_14, e_nil, nol_n, nol_I, nol_R, rsum_0, rsum_I, rsum_R, ps_s, ps_n, true_and, and_true, Nat.reduceAdd, Nat.reduceLeDiff, hd2, m3, m6, m7, m9, m10, g11, g13', g14, g15, rL, ea, e0, r1, r2, r17, r18]
    exact h
  · subst yy
    have e : vCount (nI 9) ((L, pg), (laid, op), t, (f, cs), (im, t2, f2, cs2), (q, w, b)) = f 5 := by
      unfold vCount
      rw [if_pos (by decide), nI_ix (by omega)]
      rfl
    rw [e] at h
    refine ⟨141, by decide, ?_⟩
    refine go_blk [(.aload_n 0, 0, 0, 0), (.getfield 114, 8, 15, 0), (.ireturn, 0, 0, 0)] (by decide +kernel) ?_
    simp only [e_al_0, e_gf_8_15, e_iret0, rd_8_15, e_nil, nol_n, nol_I, nol_R, rsum_0, rsum_I, rsum_R, ps_s, ps_n, true_and, and_true, Nat.reduceAdd, Nat.reduceLeDiff, hd2, m3, m6, m7, m9, m10, g11, g13', g14, g15, rL, ea, e0, r1, r2, r17, r18]
    exact h
  · subst yy
    have e : vCount (nI 10) ((L, pg), (laid, op), t, (f, cs), (im, t2, f2, cs2), (q, w, b)) = nI L := by
      unfold vCount
      rw [if_pos (by decide), nI_ix (by omega)]
      rfl
    rw [e] at h
    refine ⟨146, by decide, ?_⟩
    refine go_blk [(.aload_n 0, 0, 0, 0), (.getfield 55, 8, 19, 0), (.ireturn, 0, 0, 0)] (by decide +kernel) ?_
    simp only [e_al_0, e_gf_8_19, e_iret0, rd_8_19, e_nil, nol_n, nol_I, nol_R, rsum_0, rsum_I, rsum_R, ps_s, ps_n, true_and, and_true, Nat.reduceAdd, Nat.reduceLeDiff, hd2, m3, m6, m7, m9, m10, g11, g13', g14, g15, rL, ea, e0, r1, r2, r17, r18]
    exact h
  · subst yy
    have e : vCount (nI 11) ((L, pg), (laid, op), t, (f, cs), (im, t2, f2, cs2), (q, w, b)) = nI q := by
      unfold vCount
      rw [if_pos (by decide), nI_ix (by omega)]
      rfl
    rw [e] at h
    refine ⟨151, by decide, ?_⟩
    refine go_blk [(.aload_n 0, 0, 0, 0), (.getfield 93, 8, 1, 0), (.ireturn, 0, 0, 0)] (by decide +kernel) ?_
    simp only [e_al_0, e_gf_8_1, e_iret0, rd_8_1, e_nil, nol_n, nol_I, nol_R, rsum_0, rsum_I, rsum_R, ps_s, ps_n, true_and, and_true, Nat.reduceAdd, Nat.reduceLeDiff, hd2, m3, m6, m7, m9, m10, g11, g13', g14, g15, rL, ea, e0, r1, r2, r17, r18]
    exact h
  · subst yy
    have e : vCount (nI 12) ((L, pg), (laid, op), t, (f, cs), (im, t2, f2, cs2), (q, w, b)) = nI w := by
      unfold vCount
      rw [if_pos (by decide), nI_ix (by omega)]
      rfl
    rw [e] at h
    refine ⟨156, by decide, ?_⟩
    refine go_blk [(.aload_n 0, 0, 0, 0), (.getfield 190, 8, 17, 0), (.ireturn, 0, 0, 0)] (by decide +kernel) ?_
    simp only [e_al_0, e_gf_8_17, e_iret0, rd_8_17, e_nil, nol_n, nol_I, nol_R, rsum_0, rsum_I, rsum_R, ps_s, ps_n, true_and, and_true, Nat.reduceAdd, Nat.reduceLeDiff, hd2, m3, m6, m7, m9, m10, g11, g13', g14, g15, rL, ea, e0, r1, r2, r17, r18]
    exact h
  · subst yy
    have e : vCount (nI 13) ((L, pg), (laid, op), t, (f, cs), (im, t2, f2, cs2), (q, w, b)) = nI b := by
      unfold vCount
      rw [if_pos (by decide), nI_ix (by omega)]
      rfl
    rw [e] at h
    refine ⟨161, by decide, ?_⟩
    refine go_blk [(.aload_n 0, 0, 0, 0), (.getfield 230, 8, 18, 0), (.ireturn, 0, 0, 0)] (by decide +kernel) ?_
    simp only [e_al_0, e_gf_8_18, e_iret0, rd_8_18, e_nil, nol_n, nol_I, nol_R, rsum_0, rsum_I, rsum_R, ps_s, ps_n, true_and, and_true, Nat.reduceAdd, Nat.reduceLeDiff, hd2, m3, m6, m7, m9, m10, g11, g13', g14, g15, rL, ea, e0, r1, r2, r17, r18]
    exact h
def sOp (S : SS) : Nat := S.2.1.2
abbrev sTs (S : SS) : TS := S.2.2.1
theorem rm_get {N : Nat} {μ : Mm} {S : SS} (hV : Inv N S) (h : RM μ S) : (TInv (sOp S) (sTs S) ∧ sOp S < 2 ^ 15) ∧ MRep μ (sTs S) ∧ μ 8 0 0 2 = nI (sOp S) ∧ μ 8 0 0 0 = bi (sLd S) ∧ (μ 8 0 0 19 = nI (sL S) ∧ sL S ≤ 22 ∧ ∀ j, j < sL S → μ 8 0 21 j = nI (sPg S j)) ∧ ∃ m cs, m ≤ 6 ∧ μ 8 0 0 15 = nI m ∧ (∀ j, j < 6 → μ 8 0 17 j = cs j) ∧ (sLd S = true → vFits S = fitV (sTs S) m cs) := by
  obtain ⟨⟨L, pg⟩, ⟨laid, op⟩, t, ⟨f, cs⟩, ⟨im, t2, f2, cs2⟩, q, w, b⟩ := S
  obtain ⟨⟨rP, r0, r2⟩, ⟨rM, rG⟩, ⟨rK, rK2⟩, ⟨r1, r17, r18⟩⟩ := h
  obtain ⟨⟨iL, iP⟩, ⟨iO, iO2⟩, ⟨iT, iF⟩, iK, ⟨iq, iw, ib⟩⟩ := hV
  exact ⟨⟨iT, iO⟩, rM, r2, r0, ⟨rP.1, iL, rP.2⟩, ix (f 5), cs, iF.2.1, rG.1.2.2.2.2.trans iF.2.2, rG.2, fun z => if_neg (by rw [show laid = true from z]; decide)⟩
theorem vc_now {S : SS} {c v : Nat} (hl : sLd S = true) (hc : c < 15) (hv : v < 3) : vCell (nI c) (nI v) S = (if v = 0 then bi ((sOp S).testBit c) else if v = 1 then who (sTs S) c else nI (sn (sOp S) c)) := by
  obtain ⟨⟨L, pg⟩, ⟨laid, op⟩, t, ⟨f, cs⟩, ⟨im, t2, f2, cs2⟩, q, w, b⟩ := S
  have hl' : laid = true := hl
  have c8 : clB laid (nI c) = true := by
    unfold clB
    rw [hl', decide_eq_false (nI_pos (by omega)), decide_eq_false (show ¬ (15 : Int32) ≤ nI c from nI_ge (b := 15) hc (by omega))]
    rfl
  show (if clB laid (nI c) = true then (if nI v = 0 then bi (op.testBit (ix (nI c))) else if nI v = 1 then who t (ix (nI c)) else if nI v = 2 then nI (sn op (ix (nI c))) else -102) else -101) = _
  rw [if_pos c8, nI_ix (by omega)]
  rcases (show v = 0 ∨ v = 1 ∨ v = 2 by omega) with z | z | z <;> subst z <;> rfl
theorem va_now {N : Nat} {S : SS} {a v : Nat} (hV : Inv N S) (ha : a < sN S) (hv : v < 6) : vAbout (nI a) (nI v) S = abV (sOp S) (sTs S) a v := by
  have hn := inv_n hV
  obtain ⟨⟨L, pg⟩, ⟨laid, op⟩, t, ⟨f, cs⟩, ⟨im, t2, f2, cs2⟩, q, w, b⟩ := S
  have hn' : t 0 1 ≤ 6 := hn
  have ha' : a < t 0 1 := ha
  have c5 : ¬ hasI (t 0 1) (nI a) = false := by rw [hasI_nI hn' (by omega), decide_eq_true ha']; decide
  show (if hasI (t 0 1) (nI a) = false then _ else if nI v = 0 then _ else if nI v = 1 then _ else if nI v = 2 then _ else if nI v = 3 then _ else if nI v = 4 then _ else if nI v = 5 then _ else _) = _
  rw [if_neg c5, nI_ix (by omega)]
  rcases (show v = 0 ∨ v = 1 ∨ v = 2 ∨ v = 3 ∨ v = 4 ∨ v = 5 by omega) with z | z | z | z | z | z <;> subst z <;> rfl
theorem vt_now {N : Nat} {S : SS} {a c : Nat} (hV : Inv N S) (ha : a < sN S) (hc : c < sN S) : vTenths (nI a) (nI c) S = nI (chS (sOp S) (sTs S) a c) := by
  have hn := inv_n hV
  obtain ⟨⟨L, pg⟩, ⟨laid, op⟩, t, ⟨f, cs⟩, ⟨im, t2, f2, cs2⟩, q, w, b⟩ := S
  have hn' : t 0 1 ≤ 6 := hn
  have ha' : a < t 0 1 := ha
  have hc' : c < t 0 1 := hc
  show (if (hasI (t 0 1) (nI a) && hasI (t 0 1) (nI c)) = false then _ else nI (chS op t (ix (nI a)) (ix (nI c)))) = _
  rw [if_neg (by rw [hasI_nI hn' (by omega), hasI_nI hn' (by omega), decide_eq_true ha', decide_eq_true hc']; decide), nI_ix (by omega), nI_ix (by omega)]
  rfl
theorem lp_mc1 {l : Launch} {K : KK} {d : Nat} {P : Option AV → Mm → Prop} {N : Nat} {S : SS} {μ0 : Mm} (hV : Inv N S) (hd1 : 16 ≤ d) (hl : sLd S = true) {c : Nat} (hc : c < 15) {Z : Int64} (hk : ∀ μ2 y, DgI μ0 S μ2 Z → Go l K d 177 46 [some (vR 8 0 0), some (vI (nI c)), y] [] μ2 P) : ∀ (r e : Nat) (hh : Int64) (μ : Mm), e + r = 3 → DgI μ0 S μ hh → fdI (fun w => vCell (nI c) (nI w) S) r e hh = Z → Go l K d 177 24 [some (vR 8 0 0), some (vI (nI c)), some (vI (nI e))] [] μ P := by
  have hd2 : 1 ≤ d := by omega
  intro r
  induction r with
  | zero =>
    intro e hh μ he hD hZ
    obtain ⟨⟨iT, iO⟩, rM, r2, r0, ⟨p1, p2, p3⟩, mm, cs, hm, h15, h17, hf⟩ := rm_get hV hD.1
    have m3 : μ 8 0 0 3 = nI (sN S) := rM.1.1
    have e0 : e = 3 := by omega
    subst e0
    have hZ' : hh = Z := hZ
    subst hZ'
    refine go_blk [(.iload_n 2, 0, 0, 0), (.iconst 3, 0, 0, 0), (.if_icmp .ge 20, 46, 0, 0)] (by decide +kernel) ?_
    simp only [e_il_2, e_ic_3, e_icmp_ge, e_nil, nol_n, nol_I, nol_R, rsum_0, rsum_I, rsum_R, ps_s, ps_n, true_and, and_true, Nat.reduceAdd, Nat.reduceLeDiff, m3, p1]
    refine ⟨fun c26 => ?_, fun c26 => ?_⟩
    · exact hk μ _ hD
    · exact absurd (by decide) c26
  | succ r ih =>
    intro e hh μ he hD hZ
    obtain ⟨⟨iT, iO⟩, rM, r2, r0, ⟨p1, p2, p3⟩, mm, cs, hm, h15, h17, hf⟩ := rm_get hV hD.1
    have m3 : μ 8 0 0 3 = nI (sN S) := rM.1.1
    have u : fdI (fun w => vCell (nI c) (nI w) S) (r + 1) e hh = fdI (fun w => vCell (nI c) (nI w) S) r (e + 1) (mixV hh (vCell (nI c) (nI e) S)) := rfl
    rw [u] at hZ

    refine go_blk [(.iload_n 2, 0, 0, 0), (.iconst 3, 0, 0, 0), (.if_icmp .ge 20, 46, 0, 0)] (by decide +kernel) ?_
    simp only [e_il_2, e_ic_3, e_icmp_ge, e_nil, nol_n, nol_I, nol_R, rsum_0, rsum_I, rsum_R, ps_s, ps_n, true_and, and_true, Nat.reduceAdd, Nat.reduceLeDiff, hd2, m3, p1, rsum_J]
    refine ⟨fun c26 => ?_, fun c26 => ?_⟩
    · exact absurd c26 (nI_ge (b := 3) (by omega) (by omega))
    · refine go_blk [(.aload_n 0, 0, 0, 0), (.aload_n 0, 0, 0, 0), (.iload_n 1, 0, 0, 0), (.iload_n 2, 0, 0, 0), (.invokevirtual 152, 126, 2, 8)] (by decide +kernel) ?_
      simp only [e_al_0, e_il_1, e_il_2, e_iv_8_2, e_nil, nol_n, nol_I, nol_R, rsum_0, rsum_I, rsum_R, ps_s, ps_n, true_and, and_true, Nat.reduceAdd, Nat.reduceLeDiff, hd2, m3, p1, rsum_J]
      refine okm_cellNow iT rM r2 iO hc (by omega) (by omega) ?_
      rw [← vc_now hl hc (by omega)]
      refine go_blk [(.i2l, 0, 0, 0), (.invokevirtual 309, 176, 1, 8)] (by decide +kernel) ?_
      simp only [q_i2l, e_iv_8_1, e_nil, nol_n, nol_I, nol_R, rsum_0, rsum_I, rsum_R, ps_s, ps_n, true_and, and_true, Nat.reduceAdd, Nat.reduceLeDiff, hd2, m3, p1, rsum_J]
      refine okm_mix hD.2.2 (fun μ2 h2 o2 => ?_)
      have D2 := dg_40 hD o2 h2
      refine go_blk [(.iinc 2 1, 0, 0, 0), (.goto (-19), 24, 0, 0)] (by decide +kernel) ?_
      simp only [e_inc_2_1n, e_inc_2_1I, e_inc_2_1R, e_goto, e_nil, nol_n, nol_I, nol_R, rsum_0, rsum_I, rsum_R, ps_s, ps_n, true_and, and_true, Nat.reduceAdd, Nat.reduceLeDiff, hd2, m3, p1, rsum_J]
      rw [nI_1]
      exact ih (e + 1) _ μ2 (by omega) D2 hZ
theorem lp_ms1 {l : Launch} {K : KK} {d : Nat} {P : Option AV → Mm → Prop} {N : Nat} {S : SS} {μ0 : Mm} (hV : Inv N S) (hd1 : 16 ≤ d) {c : Nat} (hc : c < sN S) {Z : Int64} (hk : ∀ μ2 y, DgI μ0 S μ2 Z → Go l K d 177 96 [some (vR 8 0 0), some (vI (nI c)), y] [] μ2 P) : ∀ (r e : Nat) (hh : Int64) (μ : Mm), e + r = 6 → DgI μ0 S μ hh → fdI (fun w => vAbout (nI c) (nI w) S) r e hh = Z → Go l K d 177 73 [some (vR 8 0 0), some (vI (nI c)), some (vI (nI e))] [] μ P := by
  have hd2 : 1 ≤ d := by omega
  intro r
  induction r with
  | zero =>
    intro e hh μ he hD hZ
    obtain ⟨⟨iT, iO⟩, rM, r2, r0, ⟨p1, p2, p3⟩, mm, cs, hm, h15, h17, hf⟩ := rm_get hV hD.1
    have m3 : μ 8 0 0 3 = nI (sN S) := rM.1.1
    have e0 : e = 6 := by omega
    subst e0
    have hZ' : hh = Z := hZ
    subst hZ'
    refine go_blk [(.iload_n 2, 0, 0, 0), (.bipush 6, 0, 0, 0), (.if_icmp .ge 20, 96, 0, 0)] (by decide +kernel) ?_
    simp only [e_il_2, e_bp_6, e_icmp_ge, e_nil, nol_n, nol_I, nol_R, rsum_0, rsum_I, rsum_R, ps_s, ps_n, true_and, and_true, Nat.reduceAdd, Nat.reduceLeDiff, m3, p1]
    refine ⟨fun c76 => ?_, fun c76 => ?_⟩
    · exact hk μ _ hD
    · exact absurd (by decide) c76
  | succ r ih =>
    intro e hh μ he hD hZ
    obtain ⟨⟨iT, iO⟩, rM, r2, r0, ⟨p1, p2, p3⟩, mm, cs, hm, h15, h17, hf⟩ := rm_get hV hD.1
    have m3 : μ 8 0 0 3 = nI (sN S) := rM.1.1
    have u : fdI (fun w => vAbout (nI c) (nI w) S) (r + 1) e hh = fdI (fun w => vAbout (nI c) (nI w) S) r (e + 1) (mixV hh (vAbout (nI c) (nI e) S)) := rfl
    rw [u] at hZ

    refine go_blk [(.iload_n 2, 0, 0, 0), (.bipush 6, 0, 0, 0), (.if_icmp .ge 20, 96, 0, 0)] (by decide +kernel) ?_
    simp only [e_il_2, e_bp_6, e_icmp_ge, e_nil, nol_n, nol_I, nol_R, rsum_0, rsum_I, rsum_R, ps_s, ps_n, true_and, and_true, Nat.reduceAdd, Nat.reduceLeDiff, hd2, m3, p1, rsum_J]
    refine ⟨fun c76 => ?_, fun c76 => ?_⟩
    · exact absurd c76 (nI_ge (b := 6) (by omega) (by omega))
    · refine go_blk [(.aload_n 0, 0, 0, 0), (.aload_n 0, 0, 0, 0), (.iload_n 1, 0, 0, 0), (.iload_n 2, 0, 0, 0), (.invokevirtual 170, 134, 2, 8)] (by decide +kernel) ?_
      simp only [e_al_0, e_il_1, e_il_2, e_iv_8_2, e_nil, nol_n, nol_I, nol_R, rsum_0, rsum_I, rsum_R, ps_s, ps_n, true_and, and_true, Nat.reduceAdd, Nat.reduceLeDiff, hd2, m3, p1, rsum_J]
      refine okm_solNow iT rM r2 iO hc (by omega) (by omega) ?_
      rw [← va_now hV hc (by omega)]
      refine go_blk [(.i2l, 0, 0, 0), (.invokevirtual 309, 176, 1, 8)] (by decide +kernel) ?_
      simp only [q_i2l, e_iv_8_1, e_nil, nol_n, nol_I, nol_R, rsum_0, rsum_I, rsum_R, ps_s, ps_n, true_and, and_true, Nat.reduceAdd, Nat.reduceLeDiff, hd2, m3, p1, rsum_J]
      refine okm_mix hD.2.2 (fun μ2 h2 o2 => ?_)
      have D2 := dg_40 hD o2 h2
      refine go_blk [(.iinc 2 1, 0, 0, 0), (.goto (-20), 73, 0, 0)] (by decide +kernel) ?_
      simp only [e_inc_2_1n, e_inc_2_1I, e_inc_2_1R, e_goto, e_nil, nol_n, nol_I, nol_R, rsum_0, rsum_I, rsum_R, ps_s, ps_n, true_and, and_true, Nat.reduceAdd, Nat.reduceLeDiff, hd2, m3, p1, rsum_J]
      rw [nI_1]
      exact ih (e + 1) _ μ2 (by omega) D2 hZ
theorem lp_ms2 {l : Launch} {K : KK} {d : Nat} {P : Option AV → Mm → Prop} {N : Nat} {S : SS} {μ0 : Mm} (hV : Inv N S) (hd1 : 16 ≤ d) {c : Nat} (hc : c < sN S) {Z : Int64} (hk : ∀ μ2 y, DgI μ0 S μ2 Z → Go l K d 177 123 [some (vR 8 0 0), some (vI (nI c)), y] [] μ2 P) : ∀ (r e : Nat) (hh : Int64) (μ : Mm), e + r = sN S → DgI μ0 S μ hh → fdI (fun b => vTenths (nI c) (nI b) S) r e hh = Z → Go l K d 177 98 [some (vR 8 0 0), some (vI (nI c)), some (vI (nI e))] [] μ P := by
  have hd2 : 1 ≤ d := by omega
  have hn := inv_n hV
  intro r
  induction r with
  | zero =>
    intro e hh μ he hD hZ
    obtain ⟨⟨iT, iO⟩, rM, r2, r0, ⟨p1, p2, p3⟩, mm, cs, hm, h15, h17, hf⟩ := rm_get hV hD.1
    have m3 : μ 8 0 0 3 = nI (sN S) := rM.1.1
    have e0 : e = sN S := by omega
    subst e0
    have hZ' : hh = Z := hZ
    subst hZ'
    refine go_blk [(.iload_n 2, 0, 0, 0), (.aload_n 0, 0, 0, 0), (.getfield 96, 8, 3, 0), (.if_icmp .ge 20, 123, 0, 0)] (by decide +kernel) ?_
    simp only [e_il_2, e_al_0, e_gf_8_3, e_icmp_ge, rd_8_3, e_nil, nol_n, nol_I, nol_R, rsum_0, rsum_I, rsum_R, ps_s, ps_n, true_and, and_true, Nat.reduceAdd, Nat.reduceLeDiff, m3, p1]
    refine ⟨fun c103 => ?_, fun c103 => ?_⟩
    · exact hk μ _ hD
    · exact absurd (nI_le (Nat.le_refl _) (by omega)) c103
  | succ r ih =>
    intro e hh μ he hD hZ
    obtain ⟨⟨iT, iO⟩, rM, r2, r0, ⟨p1, p2, p3⟩, mm, cs, hm, h15, h17, hf⟩ := rm_get hV hD.1
    have m3 : μ 8 0 0 3 = nI (sN S) := rM.1.1
    have u : fdI (fun b => vTenths (nI c) (nI b) S) (r + 1) e hh = fdI (fun b => vTenths (nI c) (nI b) S) r (e + 1) (mixV hh (vTenths (nI c) (nI e) S)) := rfl
    rw [u] at hZ

    refine go_blk [(.iload_n 2, 0, 0, 0), (.aload_n 0, 0, 0, 0), (.getfield 96, 8, 3, 0), (.if_icmp .ge 20, 123, 0, 0)] (by decide +kernel) ?_
    simp only [e_il_2, e_al_0, e_gf_8_3, e_icmp_ge, rd_8_3, e_nil, nol_n, nol_I, nol_R, rsum_0, rsum_I, rsum_R, ps_s, ps_n, true_and, and_true, Nat.reduceAdd, Nat.reduceLeDiff, hd2, m3, p1, rsum_J]
    refine ⟨fun c103 => ?_, fun c103 => ?_⟩
    · exact absurd c103 (nI_ge (by omega) (by omega))
    · refine go_blk [(.aload_n 0, 0, 0, 0), (.aload_n 0, 0, 0, 0), (.iload_n 1, 0, 0, 0), (.iload_n 2, 0, 0, 0), (.invokevirtual 161, 132, 2, 8)] (by decide +kernel) ?_
      simp only [e_al_0, e_il_1, e_il_2, e_iv_8_2, e_nil, nol_n, nol_I, nol_R, rsum_0, rsum_I, rsum_R, ps_s, ps_n, true_and, and_true, Nat.reduceAdd, Nat.reduceLeDiff, hd2, m3, p1, rsum_J]
      refine okm_tenths iT rM r2 iO hc (show e < sTs S 0 1 by show e < sN S; omega) (by omega) ?_
      rw [← vt_now hV hc (by omega)]
      refine go_blk [(.i2l, 0, 0, 0), (.invokevirtual 309, 176, 1, 8)] (by decide +kernel) ?_
      simp only [q_i2l, e_iv_8_1, e_nil, nol_n, nol_I, nol_R, rsum_0, rsum_I, rsum_R, ps_s, ps_n, true_and, and_true, Nat.reduceAdd, Nat.reduceLeDiff, hd2, m3, p1, rsum_J]
      refine okm_mix hD.2.2 (fun μ2 h2 o2 => ?_)
      have D2 := dg_40 hD o2 h2
      refine go_blk [(.iinc 2 1, 0, 0, 0), (.goto (-22), 98, 0, 0)] (by decide +kernel) ?_
      simp only [e_inc_2_1n, e_inc_2_1I, e_inc_2_1R, e_goto, e_nil, nol_n, nol_I, nol_R, rsum_0, rsum_I, rsum_R, ps_s, ps_n, true_and, and_true, Nat.reduceAdd, Nat.reduceLeDiff, hd2, m3, p1, rsum_J]
      rw [nI_1]
      exact ih (e + 1) _ μ2 (by omega) D2 hZ
theorem lp_mp {l : Launch} {K : KK} {d : Nat} {P : Option AV → Mm → Prop} {N : Nat} {S : SS} {μ0 : Mm} (hV : Inv N S) (hd1 : 16 ≤ d) {y2 : Option AV} {Z : Int64} (hk : ∀ μ2 y, DgI μ0 S μ2 Z → Go l K d 177 156 [some (vR 8 0 0), y, y2] [] μ2 P) : ∀ (r e : Nat) (hh : Int64) (μ : Mm), e + r = sL S → DgI μ0 S μ hh → fdI (fun j => nI (sPg S j)) r e hh = Z → Go l K d 177 131 [some (vR 8 0 0), some (vI (nI e)), y2] [] μ P := by
  have hd2 : 1 ≤ d := by omega
  intro r
  induction r with
  | zero =>
    intro e hh μ he hD hZ
    obtain ⟨⟨iT, iO⟩, rM, r2, r0, ⟨p1, p2, p3⟩, mm, cs, hm, h15, h17, hf⟩ := rm_get hV hD.1
    have m3 : μ 8 0 0 3 = nI (sN S) := rM.1.1
    have e0 : e = sL S := by omega
    subst e0
    have hZ' : hh = Z := hZ
    subst hZ'
    refine go_blk [(.iload_n 1, 0, 0, 0), (.aload_n 0, 0, 0, 0), (.getfield 55, 8, 19, 0), (.if_icmp .ge 20, 156, 0, 0)] (by decide +kernel) ?_
    simp only [e_il_1, e_al_0, e_gf_8_19, e_icmp_ge, rd_8_19, e_nil, nol_n, nol_I, nol_R, rsum_0, rsum_I, rsum_R, ps_s, ps_n, true_and, and_true, Nat.reduceAdd, Nat.reduceLeDiff, m3, p1]
    refine ⟨fun c136 => ?_, fun c136 => ?_⟩
    · exact hk μ _ hD
    · exact absurd (nI_le (Nat.le_refl _) (by omega)) c136
  | succ r ih =>
    intro e hh μ he hD hZ
    obtain ⟨⟨iT, iO⟩, rM, r2, r0, ⟨p1, p2, p3⟩, mm, cs, hm, h15, h17, hf⟩ := rm_get hV hD.1
    have m3 : μ 8 0 0 3 = nI (sN S) := rM.1.1
    have u : fdI (fun j => nI (sPg S j)) (r + 1) e hh = fdI (fun j => nI (sPg S j)) r (e + 1) (mixV hh (nI (sPg S e))) := rfl
    rw [u] at hZ
    have v1 : vp_in (nI e) 22 := vin (by omega) (by omega)
    have x1 : ix (nI e) = e := nI_ix (by omega)
    have r4 := p3 e (by omega)
    refine go_blk [(.iload_n 1, 0, 0, 0), (.aload_n 0, 0, 0, 0), (.getfield 55, 8, 19, 0), (.if_icmp .ge 20, 156, 0, 0)] (by decide +kernel) ?_
    simp only [e_il_1, e_al_0, e_gf_8_19, e_icmp_ge, rd_8_19, e_nil, nol_n, nol_I, nol_R, rsum_0, rsum_I, rsum_R, ps_s, ps_n, true_and, and_true, Nat.reduceAdd, Nat.reduceLeDiff, hd2, m3, p1, rsum_J, v1, x1, r4]
    refine ⟨fun c136 => ?_, fun c136 => ?_⟩
    · exact absurd c136 (nI_ge (by omega) (by omega))
    · refine go_blk [(.aload_n 0, 0, 0, 0), (.aload_n 0, 0, 0, 0), (.getfield 26, 8, 20, 0), (.iload_n 1, 0, 0, 0), (.baload, 3, 0, 0), (.i2l, 0, 0, 0), (.invokevirtual 309, 176, 1, 8)] (by decide +kernel) ?_
      simp only [e_al_0, e_gf_8_20, e_il_1, e_ba, q_i2l, e_iv_8_1, rd_8_20, ai_0_4, ai_1_7, ai_2_1, ai_2_2, ai_3_1, ai_4_1, ai_6_3, ai_6_4, ai_6_5, ai_6_6, ai_6_7, ai_6_8, ai_8_5, ai_8_6, ai_8_17, ai_8_21, ai_8_23, ai_8_24, ai_8_27, ai_8_28, ai_8_38, ai_8_39, ai_8_40, e_nil, nol_n, nol_I, nol_R, rsum_0, rsum_I, rsum_R, ps_s, ps_n, true_and, and_true, Nat.reduceAdd, Nat.reduceLeDiff, hd2, m3, p1, rsum_J, v1, x1, r4]
      refine okm_mix hD.2.2 (fun μ2 h2 o2 => ?_)
      have D2 := dg_40 hD o2 h2
      refine go_blk [(.iinc 1 1, 0, 0, 0), (.goto (-22), 131, 0, 0)] (by decide +kernel) ?_
      simp only [e_inc_1_1n, e_inc_1_1I, e_inc_1_1R, e_goto, e_nil, nol_n, nol_I, nol_R, rsum_0, rsum_I, rsum_R, ps_s, ps_n, true_and, and_true, Nat.reduceAdd, Nat.reduceLeDiff, hd2, m3, p1, rsum_J, v1, x1, r4]
      rw [nI_1]
      exact ih (e + 1) _ μ2 (by omega) D2 hZ
theorem lp_mn {l : Launch} {K : KK} {d : Nat} {P : Option AV → Mm → Prop} {N : Nat} {S : SS} {μ0 : Mm} (hV : Inv N S) (hd1 : 16 ≤ d) {y2 : Option AV} {Z : Int64} (hk : ∀ μ2 y, DgI μ0 S μ2 Z → Go l K d 177 180 [some (vR 8 0 0), y, y2] [] μ2 P) : ∀ (r e : Nat) (hh : Int64) (μ : Mm), e + r = 14 → DgI μ0 S μ hh → fdI (fun k => vCount (nI k) S) r e hh = Z → Go l K d 177 158 [some (vR 8 0 0), some (vI (nI e)), y2] [] μ P := by
  have hd2 : 1 ≤ d := by omega
  intro r
  induction r with
  | zero =>
    intro e hh μ he hD hZ
    obtain ⟨⟨iT, iO⟩, rM, r2, r0, ⟨p1, p2, p3⟩, mm, cs, hm, h15, h17, hf⟩ := rm_get hV hD.1
    have m3 : μ 8 0 0 3 = nI (sN S) := rM.1.1
    have e0 : e = 14 := by omega
    subst e0
    have hZ' : hh = Z := hZ
    subst hZ'
    refine go_blk [(.iload_n 1, 0, 0, 0), (.bipush 14, 0, 0, 0), (.if_icmp .ge 19, 180, 0, 0)] (by decide +kernel) ?_
    simp only [e_il_1, e_bp_14, e_icmp_ge, e_nil, nol_n, nol_I, nol_R, rsum_0, rsum_I, rsum_R, ps_s, ps_n, true_and, and_true, Nat.reduceAdd, Nat.reduceLeDiff, m3, p1]
    refine ⟨fun c161 => ?_, fun c161 => ?_⟩
    · exact hk μ _ hD
    · exact absurd (by decide) c161
  | succ r ih =>
    intro e hh μ he hD hZ
    obtain ⟨⟨iT, iO⟩, rM, r2, r0, ⟨p1, p2, p3⟩, mm, cs, hm, h15, h17, hf⟩ := rm_get hV hD.1
    have m3 : μ 8 0 0 3 = nI (sN S) := rM.1.1
    have u : fdI (fun k => vCount (nI k) S) (r + 1) e hh = fdI (fun k => vCount (nI k) S) r (e + 1) (mixV hh (vCount (nI e) S)) := rfl
    rw [u] at hZ

    refine go_blk [(.iload_n 1, 0, 0, 0), (.bipush 14, 0, 0, 0), (.if_icmp .ge 19, 180, 0, 0)] (by decide +kernel) ?_
    simp only [e_il_1, e_bp_14, e_icmp_ge, e_nil, nol_n, nol_I, nol_R, rsum_0, rsum_I, rsum_R, ps_s, ps_n, true_and, and_true, Nat.reduceAdd, Nat.reduceLeDiff, hd2, m3, p1, rsum_J]
    refine ⟨fun c161 => ?_, fun c161 => ?_⟩
    · exact absurd c161 (nI_ge (b := 14) (by omega) (by omega))
    · refine go_blk [(.aload_n 0, 0, 0, 0), (.aload_n 0, 0, 0, 0), (.iload_n 1, 0, 0, 0), (.invokevirtual 299, 174, 1, 8)] (by decide +kernel) ?_
      simp only [e_al_0, e_il_1, e_iv_8_1, e_nil, nol_n, nol_I, nol_R, rsum_0, rsum_I, rsum_R, ps_s, ps_n, true_and, and_true, Nat.reduceAdd, Nat.reduceLeDiff, hd2, m3, p1, rsum_J]
      refine okm_howMany (by omega) hV hD.1 (by omega) ?_
      refine go_blk [(.i2l, 0, 0, 0), (.invokevirtual 309, 176, 1, 8)] (by decide +kernel) ?_
      simp only [q_i2l, e_iv_8_1, e_nil, nol_n, nol_I, nol_R, rsum_0, rsum_I, rsum_R, ps_s, ps_n, true_and, and_true, Nat.reduceAdd, Nat.reduceLeDiff, hd2, m3, p1, rsum_J]
      refine okm_mix hD.2.2 (fun μ2 h2 o2 => ?_)
      have D2 := dg_40 hD o2 h2
      refine go_blk [(.iinc 1 1, 0, 0, 0), (.goto (-19), 158, 0, 0)] (by decide +kernel) ?_
      simp only [e_inc_1_1n, e_inc_1_1I, e_inc_1_1R, e_goto, e_nil, nol_n, nol_I, nol_R, rsum_0, rsum_I, rsum_R, ps_s, ps_n, true_and, and_true, Nat.reduceAdd, Nat.reduceLeDiff, hd2, m3, p1, rsum_J]
      rw [nI_1]
      exact ih (e + 1) _ μ2 (by omega) D2 hZ
theorem lp_mc2 {l : Launch} {K : KK} {d : Nat} {P : Option AV → Mm → Prop} {N : Nat} {S : SS} {μ0 : Mm} (hV : Inv N S) (hd1 : 16 ≤ d) (hl : sLd S = true) {Z : Int64} (hk : ∀ μ2 y y2, DgI μ0 S μ2 Z → Go l K d 177 52 [some (vR 8 0 0), y, y2] [] μ2 P) : ∀ (r c : Nat) (hh : Int64) (μ : Mm) (y2 : Option AV), c + r = 15 → DgI μ0 S μ hh → fdC S r c hh = Z → Go l K d 177 16 [some (vR 8 0 0), some (vI (nI c)), y2] [] μ P := by
  intro r
  induction r with
  | zero =>
    intro c hh μ y2 he hD hZ
    have e0 : c = 15 := by omega
    subst e0
    have hZ' : hh = Z := hZ
    subst hZ'
    refine go_blk [(.iload_n 1, 0, 0, 0), (.bipush 15, 0, 0, 0), (.if_icmp .ge 33, 52, 0, 0)] (by decide +kernel) ?_
    simp only [e_il_1, e_bp_15, e_icmp_ge, e_nil, nol_n, nol_I, nol_R, rsum_0, rsum_I, rsum_R, ps_s, ps_n, true_and, and_true, Nat.reduceAdd, Nat.reduceLeDiff]
    refine ⟨fun c19 => ?_, fun c19 => ?_⟩
    · exact hk μ _ _ hD
    · exact absurd (by decide) c19
  | succ r ih =>
    intro c hh μ y2 he hD hZ
    have u : fdC S (r + 1) c hh = fdC S r (c + 1) (fdI (fun w => vCell (nI c) (nI w) S) 3 0 hh) := rfl
    rw [u] at hZ
    refine go_blk [(.iload_n 1, 0, 0, 0), (.bipush 15, 0, 0, 0), (.if_icmp .ge 33, 52, 0, 0)] (by decide +kernel) ?_
    simp only [e_il_1, e_bp_15, e_icmp_ge, e_nil, nol_n, nol_I, nol_R, rsum_0, rsum_I, rsum_R, ps_s, ps_n, true_and, and_true, Nat.reduceAdd, Nat.reduceLeDiff]
    refine ⟨fun c19 => ?_, fun c19 => ?_⟩
    · exact absurd c19 (nI_ge (b := 15) (by omega) (by omega))
    · refine go_blk [(.iconst 0, 0, 0, 0), (.istore_n 2, 0, 0, 0)] (by decide +kernel) ?_
      simp only [e_ic_0, e_is_2n, e_is_2I, e_is_2R, e_nil, nol_n, nol_I, nol_R, rsum_0, rsum_I, rsum_R, ps_s, ps_n, true_and, and_true, Nat.reduceAdd, Nat.reduceLeDiff]
      refine lp_mc1 hV hd1 hl (by omega) (fun μ2 y D2 => ?_) 3 0 hh μ (by omega) hD rfl
      refine go_blk [(.iinc 1 1, 0, 0, 0), (.goto (-33), 16, 0, 0)] (by decide +kernel) ?_
      simp only [e_inc_1_1n, e_inc_1_1I, e_inc_1_1R, e_goto, e_nil, nol_n, nol_I, nol_R, rsum_0, rsum_I, rsum_R, ps_s, ps_n, true_and, and_true, Nat.reduceAdd, Nat.reduceLeDiff]
      rw [nI_1]
      exact ih (c + 1) _ μ2 _ (by omega) D2 hZ
theorem lp_ms3 {l : Launch} {K : KK} {d : Nat} {P : Option AV → Mm → Prop} {N : Nat} {S : SS} {μ0 : Mm} (hV : Inv N S) (hd1 : 16 ≤ d) {Z : Int64} (hk : ∀ μ2 y y2, DgI μ0 S μ2 Z → Go l K d 177 129 [some (vR 8 0 0), y, y2] [] μ2 P) : ∀ (r c : Nat) (hh : Int64) (μ : Mm) (y2 : Option AV), c + r = sN S → DgI μ0 S μ hh → fdS S (sN S) r c hh = Z → Go l K d 177 63 [some (vR 8 0 0), some (vI (nI c)), y2] [] μ P := by
  have hn := inv_n hV
  intro r
  induction r with
  | zero =>
    intro c hh μ y2 he hD hZ
    have m3 : μ 8 0 0 3 = nI (sN S) := (rm_get hV hD.1).2.1.1.1
    have e0 : c = sN S := by omega
    subst e0
    have hZ' : hh = Z := hZ
    subst hZ'
    refine go_blk [(.iload_n 1, 0, 0, 0), (.aload_n 0, 0, 0, 0), (.getfield 96, 8, 3, 0), (.if_icmp .ge 61, 129, 0, 0)] (by decide +kernel) ?_
    simp only [e_il_1, e_al_0, e_gf_8_3, e_icmp_ge, rd_8_3, e_nil, nol_n, nol_I, nol_R, rsum_0, rsum_I, rsum_R, ps_s, ps_n, true_and, and_true, Nat.reduceAdd, Nat.reduceLeDiff, m3]
    refine ⟨fun c68 => ?_, fun c68 => ?_⟩
    · exact hk μ _ _ hD
    · exact absurd (nI_le (Nat.le_refl _) (by omega)) c68
  | succ r ih =>
    intro c hh μ y2 he hD hZ
    have m3 : μ 8 0 0 3 = nI (sN S) := (rm_get hV hD.1).2.1.1.1
    have u : fdS S (sN S) (r + 1) c hh = fdS S (sN S) r (c + 1) (fdI (fun b => vTenths (nI c) (nI b) S) (sN S) 0 (fdI (fun w => vAbout (nI c) (nI w) S) 6 0 hh)) := rfl
    rw [u] at hZ
    refine go_blk [(.iload_n 1, 0, 0, 0), (.aload_n 0, 0, 0, 0), (.getfield 96, 8, 3, 0), (.if_icmp .ge 61, 129, 0, 0)] (by decide +kernel) ?_
    simp only [e_il_1, e_al_0, e_gf_8_3, e_icmp_ge, rd_8_3, e_nil, nol_n, nol_I, nol_R, rsum_0, rsum_I, rsum_R, ps_s, ps_n, true_and, and_true, Nat.reduceAdd, Nat.reduceLeDiff, m3]
    refine ⟨fun c68 => ?_, fun c68 => ?_⟩
    · exact absurd c68 (nI_ge (by omega) (by omega))
    · refine go_blk [(.iconst 0, 0, 0, 0), (.istore_n 2, 0, 0, 0)] (by decide +kernel) ?_
      simp only [e_ic_0, e_is_2n, e_is_2I, e_is_2R, e_nil, nol_n, nol_I, nol_R, rsum_0, rsum_I, rsum_R, ps_s, ps_n, true_and, and_true, Nat.reduceAdd, Nat.reduceLeDiff, m3]
      refine lp_ms1 hV hd1 (by omega) (fun μ2 y D2 => ?_) 6 0 hh μ (by omega) hD rfl
      refine go_blk [(.iconst 0, 0, 0, 0), (.istore_n 2, 0, 0, 0)] (by decide +kernel) ?_
      simp only [e_ic_0, e_is_2n, e_is_2I, e_is_2R, e_nil, nol_n, nol_I, nol_R, rsum_0, rsum_I, rsum_R, ps_s, ps_n, true_and, and_true, Nat.reduceAdd, Nat.reduceLeDiff]
      refine lp_ms2 hV hd1 (by omega) (fun μ3 y D3 => ?_) (sN S) 0 _ μ2 (by omega) D2 rfl
      refine go_blk [(.iinc 1 1, 0, 0, 0), (.goto (-63), 63, 0, 0)] (by decide +kernel) ?_
      simp only [e_inc_1_1n, e_inc_1_1I, e_inc_1_1R, e_goto, e_nil, nol_n, nol_I, nol_R, rsum_0, rsum_I, rsum_R, ps_s, ps_n, true_and, and_true, Nat.reduceAdd, Nat.reduceLeDiff]
      rw [nI_1]
      exact ih (c + 1) _ μ3 _ (by omega) D3 hZ
theorem lp_mfin {l : Launch} {K : KK} {d : Nat} {P : Option AV → Mm → Prop} {N : Nat} {S : SS} {μ0 : Mm} (hV : Inv N S) (hd1 : 16 ≤ d) {Z : Int64} (hZ : fdI (fun k => vCount (nI k) S) 14 0 (fdI (fun j => nI (sPg S j)) (sL S) 0 (fdS S (sN S) (sN S) 0 Z)) = dgV S) (h : ∀ μ2, RM μ2 S → OffX μ0 μ2 → P (some (vJ (dgV S))) μ2) : ∀ (μ : Mm) (y y2 : Option AV), DgI μ0 S μ Z → Go l K d 177 61 [some (vR 8 0 0), y, y2] [] μ P := by
  intro μ y y2 hD
  refine go_blk [(.iconst 0, 0, 0, 0), (.istore_n 1, 0, 0, 0)] (by decide +kernel) ?_
  simp only [e_ic_0, e_is_1n, e_is_1I, e_is_1R, e_nil, nol_n, nol_I, nol_R, rsum_0, rsum_I, rsum_R, ps_s, ps_n, true_and, and_true, Nat.reduceAdd, Nat.reduceLeDiff]
  refine lp_ms3 hV hd1 (fun μ2 y y2 D2 => ?_) (sN S) 0 Z μ _ (by omega) hD rfl
  refine go_blk [(.iconst 0, 0, 0, 0), (.istore_n 1, 0, 0, 0)] (by decide +kernel) ?_
  simp only [e_ic_0, e_is_1n, e_is_1I, e_is_1R, e_nil, nol_n, nol_I, nol_R, rsum_0, rsum_I, rsum_R, ps_s, ps_n, true_and, and_true, Nat.reduceAdd, Nat.reduceLeDiff]
  refine lp_mp hV hd1 (fun μ3 y D3 => ?_) (sL S) 0 _ μ2 (by omega) D2 rfl
  refine go_blk [(.iconst 0, 0, 0, 0), (.istore_n 1, 0, 0, 0)] (by decide +kernel) ?_
  simp only [e_ic_0, e_is_1n, e_is_1I, e_is_1R, e_nil, nol_n, nol_I, nol_R, rsum_0, rsum_I, rsum_R, ps_s, ps_n, true_and, and_true, Nat.reduceAdd, Nat.reduceLeDiff]
  refine lp_mn hV hd1 (fun μ4 y D4 => ?_) 14 0 _ μ3 (by omega) D3 rfl
  rw [hZ] at D4
  have hH : mkL (μ4 8 0 0 40) (μ4 8 0 99 40) = dgV S := D4.2.2
  refine go_blk [(.aload_n 0, 0, 0, 0), (.getfield 304, 8, 40, 0), (.lreturn, 0, 0, 0)] (by decide +kernel) ?_
  simp only [e_al_0, e_gf_8_40, e_lret, rd_8_40, e_nil, nol_n, nol_I, nol_R, rsum_0, rsum_I, rsum_R, ps_s, ps_n, true_and, and_true, Nat.reduceAdd, Nat.reduceLeDiff, hH]
  exact h μ4 D4.1 D4.2.1
theorem xm_digest {l : Launch} {K : KK} {d : Nat} {μ : Mm} {P : Option AV → Mm → Prop} {N : Nat} {S : SS} (hV : Inv N S) (hR : RM μ S) (hd1 : 17 ≤ d) (h : ∀ μ2, RM μ2 S → OffX μ μ2 → P (some (vJ (dgV S))) μ2) : Ok l K d 177 [vR 8 0 0] μ P := by
  refine ok_go 3 (by decide +kernel) [some (vR 8 0 0), none, none] rfl (Nat.le_of_ble_eq_true rfl) ?_
  have hd2 : 1 ≤ d := by omega
  have D0 : DgI μ S (up (up μ 8 0 0 40 (hiL 839)) 8 0 99 40 (loL 839)) 839 := dg_40 (hh := mkL (μ 8 0 0 40) (μ 8 0 99 40)) ⟨hR, offx_rf μ, rfl⟩ (o40_up μ 839) (hh_up μ 839)
  obtain ⟨m0, hm0⟩ : ∃ m, m = up (up μ 8 0 0 40 (hiL 839)) 8 0 99 40 (loL 839) := ⟨_, rfl⟩
  rw [← hm0] at D0
  have r0 : m0 8 0 0 0 = bi (sLd S) := (rm_get hV D0.1).2.2.2.1
  refine go_blk [(.aload_n 0, 0, 0, 0), (.ldc2_w 307, 0, 0, 839), (.putfield 304, 8, 40, 0)] (by decide +kernel) ?_
  simp only [e_al_0, q_ld2_839, e_pf_8_40, e_nil, nol_n, nol_I, nol_R, rsum_0, rsum_I, rsum_R, ps_s, ps_n, true_and, and_true, Nat.reduceAdd, Nat.reduceLeDiff, hd2, bi_0, rsum_J]
  rw [← hm0]
  refine go_blk [(.aload_n 0, 0, 0, 0), (.getfield 89, 8, 0, 0), (.ifCond .eq 50, 61, 0, 0)] (by decide +kernel) ?_
  simp only [e_al_0, e_gf_8_0, e_if_eq, rd_8_0, e_nil, nol_n, nol_I, nol_R, rsum_0, rsum_I, rsum_R, ps_s, ps_n, true_and, and_true, Nat.reduceAdd, Nat.reduceLeDiff, hd2, bi_0, rsum_J, r0]
  refine ⟨fun c11 => ?_, fun c11 => ?_⟩
  · have e : dgC S 839 = 839 := if_pos c11
    exact lp_mfin hV (by omega) (Z := 839) (by unfold dgV; rw [e]) h m0 _ _ D0
  · have hl := eq_true_of_ne_false c11
    have e : dgC S 839 = mixV (fdC S 15 0 839) (vFits S) := if_neg c11
    refine go_blk [(.iconst 0, 0, 0, 0), (.istore_n 1, 0, 0, 0)] (by decide +kernel) ?_
    simp only [e_ic_0, e_is_1n, e_is_1I, e_is_1R, e_nil, nol_n, nol_I, nol_R, rsum_0, rsum_I, rsum_R, ps_s, ps_n, true_and, and_true, Nat.reduceAdd, Nat.reduceLeDiff, hd2, bi_0, rsum_J, r0]
    refine lp_mc2 hV (by omega) hl (fun μ2 y y2 D2 => ?_) 15 0 839 m0 _ (by omega) D0 rfl
    obtain ⟨⟨iT, iO⟩, rM, r2, r0', -, mm, cs, hm, h15, h17, hf⟩ := rm_get hV D2.1
    refine go_blk [(.aload_n 0, 0, 0, 0), (.aload_n 0, 0, 0, 0), (.invokevirtual 251, 165, 0, 8)] (by decide +kernel) ?_
    simp only [e_al_0, e_iv_8_0, e_nil, nol_n, nol_I, nol_R, rsum_0, rsum_I, rsum_R, ps_s, ps_n, true_and, and_true, Nat.reduceAdd, Nat.reduceLeDiff, hd2, rsum_J]
    refine okm_fitsNow iT rM hm h15 h17 (by omega) (fun μ3 o3 => ?_)
    rw [← hf hl]
    have hH3 : HhR μ3 (fdC S 15 0 839) := by
      have z : HhR μ2 (fdC S 15 0 839) := D2.2.2
      unfold HhR at z ⊢
      rw [o3 8 0 0 40 (by omega), o3 8 0 99 40 (by omega)]
      exact z
    have D3 : DgI μ S μ3 (fdC S 15 0 839) := by
      obtain ⟨⟨L, pg⟩, ⟨laid, op⟩, t, ⟨f, cs'⟩, ⟨im, t2, f2, cs2⟩, q, w, b⟩ := S
      have z := rm_scr D2.1 (fun c i s j hc => o3 c i s j (fun y => hc ⟨y.1, y.2.1, by unfold Scr; omega⟩)) (mr_w D2.1.2.1.1 o3)
      exact ⟨z.1, fun c hc => (z.2 c hc).trans (D2.2.1 c hc), hH3⟩
    refine go_blk [(.i2l, 0, 0, 0), (.invokevirtual 309, 176, 1, 8)] (by decide +kernel) ?_
    simp only [q_i2l, e_iv_8_1, e_nil, nol_n, nol_I, nol_R, rsum_0, rsum_I, rsum_R, ps_s, ps_n, true_and, and_true, Nat.reduceAdd, Nat.reduceLeDiff, hd2, rsum_J]
    refine okm_mix hH3 (fun μ4 h4 o4 => ?_)
    have D4 := dg_40 D3 o4 h4
    exact lp_mfin hV (by omega) (Z := mixV (fdC S 15 0 839) (vFits S)) (by unfold dgV; rw [e]) h μ4 _ _ D4
